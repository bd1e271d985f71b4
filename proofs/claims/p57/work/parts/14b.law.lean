def p_L_law_1558 (L : Nat) (xs : Nat → Int32)   (K91 : vSt → Int32 → Int32 → Int32 → Prop) (post : Unit) (S : vSt) (x4 : Int32) (x5 : Int32) (x6 : Int32) : Prop := ∀ y631 : Int32, y631 = x6 + 1 → K91 S x4 x5 y631
def p_L_law_1517 (L : Nat) (xs : Nat → Int32)   (K91 : vSt → Int32 → Int32 → Int32 → Prop) (post : Unit) (S : vSt) (x4 : Int32) (x5 : Int32) (x6 : Int32) (x7 : Int32) (x8 : Int32) (x13 : Int32) : Prop := ((¬ ((x7 >>> ((5 : Int32) &&& 31)) &&& 3) = 1 → p_L_law_1558 L xs K91 post S x4 x5 x6) ∧ (((x7 >>> ((5 : Int32) &&& 31)) &&& 3) = 1 → ((8 ≤ x8 → p_L_law_1558 L xs K91 post S x4 x5 x6) ∧ (¬ 8 ≤ x8 → p_X10_commit  S x13 (1 + (x7 &&& 63)) (((x7 >>> ((2 : Int32) &&& 31)) &&& 31) - ((x7 >>> ((2 : Int32) &&& 31)) &&& 31) / 17 * 17) (fun r632 S631 => p_L_law_1558 L xs K91 post S631 x4 x5 x6)))))
def p_L_law_1492 (L : Nat) (xs : Nat → Int32)   (K91 : vSt → Int32 → Int32 → Int32 → Prop) (post : Unit) (S : vSt) (x4 : Int32) (x5 : Int32) (x6 : Int32) (x7 : Int32) (x8 : Int32) (x13 : Int32) : Prop := ((¬ ((x7 >>> ((7 : Int32) &&& 31)) &&& 1) = 0 → p_L_law_1517 L xs K91 post S x4 x5 x6 x7 x8 x13) ∧ (((x7 >>> ((7 : Int32) &&& 31)) &&& 1) = 0 → (¬ x8 = 0 ∧ p_X10_reopen  S (((x7 >>> ((3 : Int32) &&& 31)) &&& 7) - ((x7 >>> ((3 : Int32) &&& 31)) &&& 7) / x8 * x8) (fun r632 S631 => p_L_law_1517 L xs K91 post S631 x4 x5 x6 x7 x8 x13))))
def p_L_law_1430 (L : Nat) (xs : Nat → Int32)   (K91 : vSt → Int32 → Int32 → Int32 → Prop) (post : Unit) (S : vSt) (x4 : Int32) (x5 : Int32) (x6 : Int32) (x7 : Int32) (x8 : Int32) (x13 : Int32) (x14 : Int32) : Prop := p_X10_back  S  (fun r628 S627 => ((r628 = 0 → ((¬ ((x7 >>> ((6 : Int32) &&& 31)) &&& 1) = 0 → p_X10_drop  S627 x13 x14 ((x7 >>> ((5 : Int32) &&& 31)) &&& 31) (fun r630 S629 => p_L_law_1492 L xs K91 post S629 x4 x5 x6 x7 x8 x13)) ∧ (((x7 >>> ((6 : Int32) &&& 31)) &&& 1) = 0 → p_X10_many  S627 2 (fun r632 S631 => (¬ (r632 + 1) = 0 ∧ p_X10_charge  S631 x13 x14 (((x7 >>> ((4 : Int32) &&& 31)) &&& 7) - ((x7 >>> ((4 : Int32) &&& 31)) &&& 7) / (r632 + 1) * (r632 + 1)) (fun r634 S633 => p_L_law_1492 L xs K91 post S633 x4 x5 x6 x7 x8 x13)))))) ∧ (¬ r628 = 0 → False)))
def p_L_law_1427 (L : Nat) (xs : Nat → Int32)   (K91 : vSt → Int32 → Int32 → Int32 → Prop) (post : Unit) (S : vSt) (x4 : Int32) (x5 : Int32) (x6 : Int32) (x7 : Int32) (x8 : Int32) (x13 : Int32) (x14 : Int32) (s0 : Bool) (s1 : Bool) : Prop := ((¬ (v_b s1) = (v_b s0) → False) ∧ ((v_b s1) = (v_b s0) → p_L_law_1430 L xs K91 post S x4 x5 x6 x7 x8 x13 x14))
def p_L_law_1410 (L : Nat) (xs : Nat → Int32)   (K91 : vSt → Int32 → Int32 → Int32 → Prop) (post : Unit) (S : vSt) (x4 : Int32) (x5 : Int32) (x6 : Int32) (x7 : Int32) (x8 : Int32) (x13 : Int32) (x14 : Int32) (x15 : Int32) (s0 : Bool) : Prop := p_X10_many  S 2 (fun r630 S629 => (((2 * x15) ≤ r630 → p_L_law_1427 L xs K91 post S629 x4 x5 x6 x7 x8 x13 x14 false s0) ∧ (¬ (2 * x15) ≤ r630 → p_L_law_1427 L xs K91 post S629 x4 x5 x6 x7 x8 x13 x14 true s0)))
def p_L_law_1384 (L : Nat) (xs : Nat → Int32)   (K91 : vSt → Int32 → Int32 → Int32 → Prop) (post : Unit) (S : vSt) (x4 : Int32) (x5 : Int32) (x6 : Int32) (x7 : Int32) (x8 : Int32) (x13 : Int32) (x14 : Int32) (x15 : Int32) (s0 : Bool) (s1 : Bool) : Prop := (((v_b s1) = (v_b s0) → ((x15 < 0 → p_L_law_1430 L xs K91 post S x4 x5 x6 x7 x8 x13 x14) ∧ (¬ x15 < 0 → p_X10_deed  S x14 3 (fun r628 S627 => ((¬ r628 = 1 → p_L_law_1410 L xs K91 post S627 x4 x5 x6 x7 x8 x13 x14 x15 false) ∧ (r628 = 1 → p_L_law_1410 L xs K91 post S627 x4 x5 x6 x7 x8 x13 x14 x15 true)))))) ∧ (¬ (v_b s1) = (v_b s0) → False))
def p_L_law_1383 (L : Nat) (xs : Nat → Int32)   (K91 : vSt → Int32 → Int32 → Int32 → Prop) (post : Unit) (S : vSt) (x4 : Int32) (x5 : Int32) (x6 : Int32) (x7 : Int32) (x8 : Int32) (x13 : Int32) (x14 : Int32) (x15 : Int32) (s0 : Bool) : Prop := p_L_law_1384 L xs K91 post S x4 x5 x6 x7 x8 x13 x14 x15 false s0
def p_L_law_1344 (L : Nat) (xs : Nat → Int32)   (K91 : vSt → Int32 → Int32 → Int32 → Prop) (post : Unit) (S : vSt) (x4 : Int32) (x5 : Int32) (x6 : Int32) (x7 : Int32) (x8 : Int32) (x9 : Int32) (x13 : Int32) (x14 : Int32) (x15 : Int32) (s0 : Bool) : Prop := ((¬ ((x9 >>> (x14 &&& 31)) &&& 1) = 1 → p_L_law_1383 L xs K91 post S x4 x5 x6 x7 x8 x13 x14 x15 s0) ∧ (((x9 >>> (x14 &&& 31)) &&& 1) = 1 → p_X10_deed  S x14 5 (fun r628 S627 => ((¬ r628 = x15 → p_L_law_1383 L xs K91 post S627 x4 x5 x6 x7 x8 x13 x14 x15 s0) ∧ (r628 = x15 → p_X10_deed  S627 x14 4 (fun r630 S629 => ((¬ r630 = x13 → p_L_law_1383 L xs K91 post S629 x4 x5 x6 x7 x8 x13 x14 x15 s0) ∧ (r630 = x13 → p_L_law_1384 L xs K91 post S629 x4 x5 x6 x7 x8 x13 x14 x15 true s0))))))))
def p_L_law_1276 (L : Nat) (xs : Nat → Int32)   (K91 : vSt → Int32 → Int32 → Int32 → Prop) (post : Unit) (S : vSt) (x4 : Int32) (x5 : Int32) (x6 : Int32) (x7 : Int32) (x8 : Int32) (x9 : Int32) : Prop := ((¬ x8 = 0 → (vp_in 0 29 ∧ (¬ (S.1 144 (Int32.toNatClampNeg 0)) = 0 ∧ ∀ y621 : Int32, y621 = ((x7 &&& 3) - (x7 &&& 3) / (S.1 144 (Int32.toNatClampNeg 0)) * (S.1 144 (Int32.toNatClampNeg 0))) → (¬ x8 = 0 ∧ ∀ y622 : Int32, y622 = (((x7 >>> ((2 : Int32) &&& 31)) &&& 15) - ((x7 >>> ((2 : Int32) &&& 31)) &&& 15) / x8 * x8) → p_X10_mark  S  (fun r624 S623 => ((r624 = 1 → p_X10_hear  S623 y621 y622 ((x7 >>> ((1 : Int32) &&& 31)) &&& 4095) (fun r626 S625 => ((r626 < 0 → p_L_law_1344 L xs K91 post S625 x4 x5 x6 x7 x8 x9 y621 y622 r626 false) ∧ (¬ r626 < 0 → p_L_law_1344 L xs K91 post S625 x4 x5 x6 x7 x8 x9 y621 y622 r626 true)))) ∧ (¬ r624 = 1 → False))))))) ∧ (x8 = 0 → p_L_law_1558 L xs K91 post S x4 x5 x6))
def p_L_law_1246 (L : Nat) (xs : Nat → Int32)   (K91 : vSt → Int32 → Int32 → Int32 → Prop) (post : Unit) (S : vSt) (x4 : Int32) (x5 : Int32) (x6 : Int32) (x7 : Int32) (x8 : Int32) (x9 : Int32) (x13 : Int64) (x15 : Int64) : Prop := p_X10_game  S 0 1 2 (fun r630 S629 => ((r630 = false → False) ∧ (r630 = true → p_X10_top  S629  (fun r632 S631 => p_X10_bottom  S631  (fun r634 S633 => (((r632 * x15) ≤ (x13 * r634) → p_L_law_1276 L xs K91 post S633 x4 x5 x6 x7 x8 x9) ∧ (¬ (r632 * x15) ≤ (x13 * r634) → False)))))))
def p_L_law_1217 (L : Nat) (xs : Nat → Int32)   (K91 : vSt → Int32 → Int32 → Int32 → Prop) (post : Unit) (S : vSt) (x4 : Int32) (x5 : Int32) (x6 : Int32) (x7 : Int32) (x8 : Int32) (x9 : Int32) (x13 : Int64) (x15 : Int64) (x17 : Int32) : Prop := ((x17 < 0 → p_L_law_1246 L xs K91 post S x4 x5 x6 x7 x8 x9 x13 x15) ∧ (¬ x17 < 0 → p_X10_deed  S x17 0 (fun r630 S629 => ((¬ r630 = 1 → False) ∧ (r630 = 1 → p_X10_can  S629 0 x17 (fun r632 S631 => ((r632 = 1 → p_L_law_1246 L xs K91 post S631 x4 x5 x6 x7 x8 x9 x13 x15) ∧ (¬ r632 = 1 → False))))))))
def p_L_law_1152 (L : Nat) (xs : Nat → Int32)   (K91 : vSt → Int32 → Int32 → Int32 → Prop) (K1003 : vSt → Int32 → Int32 → Int32 → Int32 → Int32 → Int32 → Int32 → Int32 → Prop) (post : Unit) (S : vSt) (x4 : Int32) (x5 : Int32) (x6 : Int32) (x7 : Int32) (x8 : Int32) (x9 : Int32) (x12 : Int32) (x13 : Int32) : Prop := ∀ y639 : Int32, y639 = x13 + 1 → K1003 S x4 x5 x6 x7 x8 x9 x12 y639
def p_L_law_1146 (L : Nat) (xs : Nat → Int32)   (K91 : vSt → Int32 → Int32 → Int32 → Prop) (K1003 : vSt → Int32 → Int32 → Int32 → Int32 → Int32 → Int32 → Int32 → Int32 → Prop) (K1098 : vSt → Int32 → Int32 → Int32 → Int32 → Int32 → Int32 → Int32 → Int32 → Int32 → Int64 → Int64 → Int32 → Prop) (post : Unit) (S : vSt) (x4 : Int32) (x5 : Int32) (x6 : Int32) (x7 : Int32) (x8 : Int32) (x9 : Int32) (x12 : Int32) (x13 : Int32) (x14 : Int32) (x15 : Int64) (x17 : Int64) (x19 : Int32) : Prop := ∀ y639 : Int32, y639 = x19 + 1 → K1098 S x4 x5 x6 x7 x8 x9 x12 x13 x14 x15 x17 y639
def p_L_law_1098 (L : Nat) (xs : Nat → Int32)   (K91 : vSt → Int32 → Int32 → Int32 → Prop) (K1003 : vSt → Int32 → Int32 → Int32 → Int32 → Int32 → Int32 → Int32 → Int32 → Prop) (post : Unit) : Nat → vSt → Int32 → Int32 → Int32 → Int32 → Int32 → Int32 → Int32 → Int32 → Int32 → Int64 → Int64 → Int32 → Prop
  | 0 => fun _ _ _ _ _ _ _ _ _ _ _ _ _ => False
  | fu1098 + 1 => fun S x4 x5 x6 x7 x8 x9 x12 x13 x14 x15 x17 x19 => (vp_in 0 29 ∧ (((S.1 144 (Int32.toNatClampNeg 0)) ≤ x19 → p_L_law_1152 L xs K91 K1003 post S x4 x5 x6 x7 x8 x9 x12 x13) ∧ (¬ (S.1 144 (Int32.toNatClampNeg 0)) ≤ x19 → ((¬ ((x14 >>> (x19 &&& 31)) &&& 1) = 1 → p_L_law_1146 L xs K91 K1003 (p_L_law_1098 L xs K91 K1003 post fu1098) post S x4 x5 x6 x7 x8 x9 x12 x13 x14 x15 x17 x19) ∧ (((x14 >>> (x19 &&& 31)) &&& 1) = 1 → p_X10_dread  S x19 (fun r640 S639 => ((r640 = false → False) ∧ (r640 = true → p_X10_top  S639  (fun r642 S641 => p_X10_bottom  S641  (fun r644 S643 => (((x15 * r644) ≤ (r642 * x17) → p_L_law_1146 L xs K91 K1003 (p_L_law_1098 L xs K91 K1003 post fu1098) post S643 x4 x5 x6 x7 x8 x9 x12 x13 x14 x15 x17 x19) ∧ (¬ (x15 * r644) ≤ (r642 * x17) → False))))))))))))
theorem e_L_law_1098 (L : Nat) (xs : Nat → Int32)   (K91 : vSt → Int32 → Int32 → Int32 → Prop) (K1003 : vSt → Int32 → Int32 → Int32 → Int32 → Int32 → Int32 → Int32 → Int32 → Prop) (post : Unit) (fu1098 : Nat) (S : vSt) (x4 : Int32) (x5 : Int32) (x6 : Int32) (x7 : Int32) (x8 : Int32) (x9 : Int32) (x12 : Int32) (x13 : Int32) (x14 : Int32) (x15 : Int64) (x17 : Int64) (x19 : Int32) : p_L_law_1098 L xs K91 K1003 post (fu1098 + 1) S x4 x5 x6 x7 x8 x9 x12 x13 x14 x15 x17 x19 = ((vp_in 0 29 ∧ (((S.1 144 (Int32.toNatClampNeg 0)) ≤ x19 → p_L_law_1152 L xs K91 K1003 post S x4 x5 x6 x7 x8 x9 x12 x13) ∧ (¬ (S.1 144 (Int32.toNatClampNeg 0)) ≤ x19 → ((¬ ((x14 >>> (x19 &&& 31)) &&& 1) = 1 → p_L_law_1146 L xs K91 K1003 (p_L_law_1098 L xs K91 K1003 post fu1098) post S x4 x5 x6 x7 x8 x9 x12 x13 x14 x15 x17 x19) ∧ (((x14 >>> (x19 &&& 31)) &&& 1) = 1 → p_X10_dread  S x19 (fun r640 S639 => ((r640 = false → False) ∧ (r640 = true → p_X10_top  S639  (fun r642 S641 => p_X10_bottom  S641  (fun r644 S643 => (((x15 * r644) ≤ (r642 * x17) → p_L_law_1146 L xs K91 K1003 (p_L_law_1098 L xs K91 K1003 post fu1098) post S643 x4 x5 x6 x7 x8 x9 x12 x13 x14 x15 x17 x19) ∧ (¬ (x15 * r644) ≤ (r642 * x17) → False))))))))))))) := rfl
def p_L_law_1059 (L : Nat) (xs : Nat → Int32)   (K91 : vSt → Int32 → Int32 → Int32 → Prop) (K1003 : vSt → Int32 → Int32 → Int32 → Int32 → Int32 → Int32 → Int32 → Int32 → Prop) (post : Unit) (S : vSt) (x4 : Int32) (x5 : Int32) (x6 : Int32) (x7 : Int32) (x8 : Int32) (x9 : Int32) (x12 : Int32) (x13 : Int32) (x14 : Int32) (s0 : Bool) (s1 : Bool) : Prop := (((v_b s1) = (v_b s0) → ((¬ x14 = 0 → p_X10_clubPart  S x14 (fun r634 S633 => ((r634 = true → p_X10_top  S633  (fun r636 S635 => p_X10_bottom  S635  (fun r638 S637 => ∃ fu1098, p_L_law_1098 L xs K91 K1003 post fu1098 S637 x4 x5 x6 x7 x8 x9 x12 x13 x14 r636 r638 0))) ∧ (r634 = false → False)))) ∧ (x14 = 0 → p_L_law_1152 L xs K91 K1003 post S x4 x5 x6 x7 x8 x9 x12 x13))) ∧ (¬ (v_b s1) = (v_b s0) → False))
def p_L_law_1049 (L : Nat) (xs : Nat → Int32)   (K91 : vSt → Int32 → Int32 → Int32 → Prop) (K1003 : vSt → Int32 → Int32 → Int32 → Int32 → Int32 → Int32 → Int32 → Int32 → Prop) (post : Unit) (S : vSt) (x4 : Int32) (x5 : Int32) (x6 : Int32) (x7 : Int32) (x8 : Int32) (x9 : Int32) (x12 : Int32) (x13 : Int32) (x14 : Int32) (s0 : Bool) : Prop := ((¬ x13 = 0 → p_L_law_1059 L xs K91 K1003 post S x4 x5 x6 x7 x8 x9 x12 x13 x14 false s0) ∧ (x13 = 0 → p_L_law_1059 L xs K91 K1003 post S x4 x5 x6 x7 x8 x9 x12 x13 x14 true s0))
def p_L_law_1003 (L : Nat) (xs : Nat → Int32)   (K91 : vSt → Int32 → Int32 → Int32 → Prop) (post : Unit) : Nat → vSt → Int32 → Int32 → Int32 → Int32 → Int32 → Int32 → Int32 → Int32 → Prop
  | 0 => fun _ _ _ _ _ _ _ _ _ => False
  | fu1003 + 1 => fun S x4 x5 x6 x7 x8 x9 x12 x13 => ((x12 < x13 → (vp_in 0 29 ∧ (((S.1 144 (Int32.toNatClampNeg 0)) ≤ 1 → p_L_law_1276 L xs K91 post S x4 x5 x6 x7 x8 x9) ∧ (¬ (S.1 144 (Int32.toNatClampNeg 0)) ≤ 1 → p_X10_game  S 0 1 1 (fun r622 S621 => ((r622 = true → p_X10_top  S621  (fun r624 S623 => p_X10_bottom  S623  (fun r626 S625 => p_X10_moveOf  S625 0 1 1 (fun r628 S627 => ((r624 < 0 → False) ∧ (¬ r624 < 0 → ((r624 ≤ 0 → p_L_law_1217 L xs K91 post S627 x4 x5 x6 x7 x8 x9 r624 r626 r628) ∧ (¬ r624 ≤ 0 → ((r628 < 0 → False) ∧ (¬ r628 < 0 → p_L_law_1217 L xs K91 post S627 x4 x5 x6 x7 x8 x9 r624 r626 r628)))))))))) ∧ (r622 = false → False))))))) ∧ (¬ x12 < x13 → p_X10_club  S x13 (fun r630 S629 => ((¬ (r630 &&& (x13 ^^^ (-1))) = 0 → False) ∧ ((r630 &&& (x13 ^^^ (-1))) = 0 → p_X10_club  S629 r630 (fun r632 S631 => ((¬ r632 = r630 → False) ∧ (r632 = r630 → ((¬ r630 = 0 → p_L_law_1049 L xs K91 (p_L_law_1003 L xs K91 post fu1003) post S631 x4 x5 x6 x7 x8 x9 x12 x13 r630 false) ∧ (r630 = 0 → p_L_law_1049 L xs K91 (p_L_law_1003 L xs K91 post fu1003) post S631 x4 x5 x6 x7 x8 x9 x12 x13 r630 true))))))))))
theorem e_L_law_1003 (L : Nat) (xs : Nat → Int32)   (K91 : vSt → Int32 → Int32 → Int32 → Prop) (post : Unit) (fu1003 : Nat) (S : vSt) (x4 : Int32) (x5 : Int32) (x6 : Int32) (x7 : Int32) (x8 : Int32) (x9 : Int32) (x12 : Int32) (x13 : Int32) : p_L_law_1003 L xs K91 post (fu1003 + 1) S x4 x5 x6 x7 x8 x9 x12 x13 = (((x12 < x13 → (vp_in 0 29 ∧ (((S.1 144 (Int32.toNatClampNeg 0)) ≤ 1 → p_L_law_1276 L xs K91 post S x4 x5 x6 x7 x8 x9) ∧ (¬ (S.1 144 (Int32.toNatClampNeg 0)) ≤ 1 → p_X10_game  S 0 1 1 (fun r622 S621 => ((r622 = true → p_X10_top  S621  (fun r624 S623 => p_X10_bottom  S623  (fun r626 S625 => p_X10_moveOf  S625 0 1 1 (fun r628 S627 => ((r624 < 0 → False) ∧ (¬ r624 < 0 → ((r624 ≤ 0 → p_L_law_1217 L xs K91 post S627 x4 x5 x6 x7 x8 x9 r624 r626 r628) ∧ (¬ r624 ≤ 0 → ((r628 < 0 → False) ∧ (¬ r628 < 0 → p_L_law_1217 L xs K91 post S627 x4 x5 x6 x7 x8 x9 r624 r626 r628)))))))))) ∧ (r622 = false → False))))))) ∧ (¬ x12 < x13 → p_X10_club  S x13 (fun r630 S629 => ((¬ (r630 &&& (x13 ^^^ (-1))) = 0 → False) ∧ ((r630 &&& (x13 ^^^ (-1))) = 0 → p_X10_club  S629 r630 (fun r632 S631 => ((¬ r632 = r630 → False) ∧ (r632 = r630 → ((¬ r630 = 0 → p_L_law_1049 L xs K91 (p_L_law_1003 L xs K91 post fu1003) post S631 x4 x5 x6 x7 x8 x9 x12 x13 r630 false) ∧ (r630 = 0 → p_L_law_1049 L xs K91 (p_L_law_1003 L xs K91 post fu1003) post S631 x4 x5 x6 x7 x8 x9 x12 x13 r630 true))))))))))) := rfl
def p_L_law_985 (L : Nat) (xs : Nat → Int32)   (K91 : vSt → Int32 → Int32 → Int32 → Prop) (K687 : vSt → Int32 → Int32 → Int32 → Int32 → Int32 → Int32 → Int32 → Int32 → Prop) (post : Unit) (S : vSt) (x4 : Int32) (x5 : Int32) (x6 : Int32) (x7 : Int32) (x8 : Int32) (x9 : Int32) (x11 : Int32) (x12 : Int32) : Prop := ∀ y655 : Int32, y655 = x12 + 1 → K687 S x4 x5 x6 x7 x8 x9 x11 y655
def p_L_law_953 (L : Nat) (xs : Nat → Int32)   (K91 : vSt → Int32 → Int32 → Int32 → Prop) (K687 : vSt → Int32 → Int32 → Int32 → Int32 → Int32 → Int32 → Int32 → Int32 → Prop) (post : Unit) (S : vSt) (x4 : Int32) (x5 : Int32) (x6 : Int32) (x7 : Int32) (x8 : Int32) (x9 : Int32) (x11 : Int32) (x12 : Int32) (x18 : Int32) (s0 : Bool) (s1 : Bool) : Prop := ((¬ (v_b s1) = (v_b s0) → False) ∧ ((v_b s1) = (v_b s0) → ((x18 < 0 → p_L_law_985 L xs K91 K687 post S x4 x5 x6 x7 x8 x9 x11 x12) ∧ (¬ x18 < 0 → p_X10_deed  S x18 0 (fun r656 S655 => ((¬ r656 = x12 → False) ∧ (r656 = x12 → ((¬ ((x11 >>> (x18 &&& 31)) &&& 1) = 0 → p_L_law_985 L xs K91 K687 post S655 x4 x5 x6 x7 x8 x9 x11 x12) ∧ (((x11 >>> (x18 &&& 31)) &&& 1) = 0 → False)))))))))
def p_L_law_939 (L : Nat) (xs : Nat → Int32)   (K91 : vSt → Int32 → Int32 → Int32 → Prop) (K687 : vSt → Int32 → Int32 → Int32 → Int32 → Int32 → Int32 → Int32 → Int32 → Prop) (post : Unit) (S : vSt) (x4 : Int32) (x5 : Int32) (x6 : Int32) (x7 : Int32) (x8 : Int32) (x9 : Int32) (x11 : Int32) (x12 : Int32) (x18 : Int32) (s0 : Bool) : Prop := p_X10_top  S  (fun r654 S653 => ((r654 ≤ 0 → p_L_law_953 L xs K91 K687 post S653 x4 x5 x6 x7 x8 x9 x11 x12 x18 false s0) ∧ (¬ r654 ≤ 0 → p_L_law_953 L xs K91 K687 post S653 x4 x5 x6 x7 x8 x9 x11 x12 x18 true s0)))
def p_L_law_802 (L : Nat) (xs : Nat → Int32)   (K91 : vSt → Int32 → Int32 → Int32 → Prop) (K687 : vSt → Int32 → Int32 → Int32 → Int32 → Int32 → Int32 → Int32 → Int32 → Prop) (post : Unit) (S : vSt) (x4 : Int32) (x5 : Int32) (x6 : Int32) (x7 : Int32) (x8 : Int32) (x9 : Int32) (x11 : Int32) (x12 : Int32) (x14 : Int64) (x16 : Int64) : Prop := p_X10_plan  S x12 10 (fun r630 S629 => ((r630 = false → False) ∧ (r630 = true → p_X10_top  S629  (fun r632 S631 => p_X10_bottom  S631  (fun r634 S633 => (((x14 * r634) ≤ (r632 * x16) → p_X10_bound  S633 x12 0 (fun r636 S635 => ((r636 < 0 → False) ∧ (¬ r636 < 0 → p_X10_bound  S635 x12 1 (fun r638 S637 => ((0 < r638 → False) ∧ (¬ 0 < r638 → p_X10_bound  S637 x12 0 (fun r640 S639 => p_X10_gained  S639 x12 r640 (fun r642 S641 => ((r642 < 1 → False) ∧ (¬ r642 < 1 → p_X10_gained  S641 x12 0 (fun r644 S643 => ((r644 < 1 → False) ∧ (¬ r644 < 1 → p_X10_sure  S643 x12 0 (fun r646 S645 => p_X10_person  S645 x12 4 (fun r648 S647 => (((r646 &&& (((((1 : Int32) <<< (x8 &&& 31)) - 1) &&& (r648 ^^^ (-1))) ^^^ (-1))) = 0 → p_X10_dreaded  S647 x12 (fun r650 S649 => p_X10_dread  S649 x12 (fun r652 S651 => ((r652 = false → False) ∧ (r652 = true → ((r650 < 0 → p_L_law_939 L xs K91 K687 post S651 x4 x5 x6 x7 x8 x9 x11 x12 r650 false) ∧ (¬ r650 < 0 → p_L_law_939 L xs K91 K687 post S651 x4 x5 x6 x7 x8 x9 x11 x12 r650 true))))))) ∧ (¬ (r646 &&& (((((1 : Int32) <<< (x8 &&& 31)) - 1) &&& (r648 ^^^ (-1))) ^^^ (-1))) = 0 → False)))))))))))))))))) ∧ (¬ (x14 * r634) ≤ (r632 * x16) → False)))))))
def p_L_law_749 (L : Nat) (xs : Nat → Int32)   (K91 : vSt → Int32 → Int32 → Int32 → Prop) (K687 : vSt → Int32 → Int32 → Int32 → Int32 → Int32 → Int32 → Int32 → Int32 → Prop) (post : Unit) (S : vSt) (x4 : Int32) (x5 : Int32) (x6 : Int32) (x7 : Int32) (x8 : Int32) (x9 : Int32) (x11 : Int32) (x12 : Int32) (x13 : Int32) (x14 : Int64) (x16 : Int64) (s0 : Bool) (s1 : Bool) : Prop := ((¬ (v_b s1) = (v_b s0) → False) ∧ ((v_b s1) = (v_b s0) → ((x13 < 0 → p_L_law_802 L xs K91 K687 post S x4 x5 x6 x7 x8 x9 x11 x12 x14 x16) ∧ (¬ x13 < 0 → p_X10_can  S x12 x13 (fun r630 S629 => ((¬ r630 = 1 → False) ∧ (r630 = 1 → p_X10_gain  S629 x12 x13 (fun r632 S631 => ((r632 = false → False) ∧ (r632 = true → p_X10_top  S631  (fun r634 S633 => ((¬ r634 = x14 → False) ∧ (r634 = x14 → p_X10_bottom  S633  (fun r636 S635 => ((r636 = x16 → p_L_law_802 L xs K91 K687 post S635 x4 x5 x6 x7 x8 x9 x11 x12 x14 x16) ∧ (¬ r636 = x16 → False))))))))))))))))
def p_L_law_737 (L : Nat) (xs : Nat → Int32)   (K91 : vSt → Int32 → Int32 → Int32 → Prop) (K687 : vSt → Int32 → Int32 → Int32 → Int32 → Int32 → Int32 → Int32 → Int32 → Prop) (post : Unit) (S : vSt) (x4 : Int32) (x5 : Int32) (x6 : Int32) (x7 : Int32) (x8 : Int32) (x9 : Int32) (x11 : Int32) (x12 : Int32) (x13 : Int32) (x14 : Int64) (x16 : Int64) (s0 : Bool) : Prop := ((x14 ≤ 0 → p_L_law_749 L xs K91 K687 post S x4 x5 x6 x7 x8 x9 x11 x12 x13 x14 x16 false s0) ∧ (¬ x14 ≤ 0 → p_L_law_749 L xs K91 K687 post S x4 x5 x6 x7 x8 x9 x11 x12 x13 x14 x16 true s0))
def p_L_law_687 (L : Nat) (xs : Nat → Int32)   (K91 : vSt → Int32 → Int32 → Int32 → Prop) (post : Unit) : Nat → vSt → Int32 → Int32 → Int32 → Int32 → Int32 → Int32 → Int32 → Int32 → Prop
  | 0 => fun _ _ _ _ _ _ _ _ _ => False
  | fu687 + 1 => fun S x4 x5 x6 x7 x8 x9 x11 x12 => (vp_in 0 29 ∧ (((S.1 144 (Int32.toNatClampNeg 0)) ≤ x12 → (vp_in 0 29 ∧ ∀ y620 : Int32, y620 = (((1 : Int32) <<< ((S.1 144 (Int32.toNatClampNeg 0)) &&& 31)) - 1) → ∃ fu1003, p_L_law_1003 L xs K91 post fu1003 S x4 x5 x6 x7 x8 x9 y620 0)) ∧ (¬ (S.1 144 (Int32.toNatClampNeg 0)) ≤ x12 → p_X10_best  S x12 (fun r622 S621 => p_X10_plan  S621 x12 1 (fun r624 S623 => ((r624 = true → p_X10_top  S623  (fun r626 S625 => p_X10_bottom  S625  (fun r628 S627 => ((r622 < 0 → p_L_law_737 L xs K91 (p_L_law_687 L xs K91 post fu687) post S627 x4 x5 x6 x7 x8 x9 x11 x12 r622 r626 r628 false) ∧ (¬ r622 < 0 → p_L_law_737 L xs K91 (p_L_law_687 L xs K91 post fu687) post S627 x4 x5 x6 x7 x8 x9 x11 x12 r622 r626 r628 true))))) ∧ (r624 = false → False)))))))
theorem e_L_law_687 (L : Nat) (xs : Nat → Int32)   (K91 : vSt → Int32 → Int32 → Int32 → Prop) (post : Unit) (fu687 : Nat) (S : vSt) (x4 : Int32) (x5 : Int32) (x6 : Int32) (x7 : Int32) (x8 : Int32) (x9 : Int32) (x11 : Int32) (x12 : Int32) : p_L_law_687 L xs K91 post (fu687 + 1) S x4 x5 x6 x7 x8 x9 x11 x12 = ((vp_in 0 29 ∧ (((S.1 144 (Int32.toNatClampNeg 0)) ≤ x12 → (vp_in 0 29 ∧ ∀ y620 : Int32, y620 = (((1 : Int32) <<< ((S.1 144 (Int32.toNatClampNeg 0)) &&& 31)) - 1) → ∃ fu1003, p_L_law_1003 L xs K91 post fu1003 S x4 x5 x6 x7 x8 x9 y620 0)) ∧ (¬ (S.1 144 (Int32.toNatClampNeg 0)) ≤ x12 → p_X10_best  S x12 (fun r622 S621 => p_X10_plan  S621 x12 1 (fun r624 S623 => ((r624 = true → p_X10_top  S623  (fun r626 S625 => p_X10_bottom  S625  (fun r628 S627 => ((r622 < 0 → p_L_law_737 L xs K91 (p_L_law_687 L xs K91 post fu687) post S627 x4 x5 x6 x7 x8 x9 x11 x12 r622 r626 r628 false) ∧ (¬ r622 < 0 → p_L_law_737 L xs K91 (p_L_law_687 L xs K91 post fu687) post S627 x4 x5 x6 x7 x8 x9 x11 x12 r622 r626 r628 true))))) ∧ (r624 = false → False)))))))) := rfl
def p_L_law_672 (L : Nat) (xs : Nat → Int32)   (K91 : vSt → Int32 → Int32 → Int32 → Prop) (K259 : vSt → Int32 → Int32 → Int32 → Int32 → Int32 → Int32 → Int32 → Int32 → Prop) (K370 : vSt → Int32 → Int32 → Int32 → Int32 → Int32 → Int32 → Int32 → Int32 → Int32 → Int32 → Prop) (post : Unit) (S : vSt) (x4 : Int32) (x5 : Int32) (x6 : Int32) (x7 : Int32) (x8 : Int32) (x9 : Int32) (x11 : Int32) (x12 : Int32) (x14 : Int32) (x15 : Int32) : Prop := ∀ y667 : Int32, y667 = x15 + 1 → K370 S x4 x5 x6 x7 x8 x9 x11 x12 x14 y667
def p_L_law_608 (L : Nat) (xs : Nat → Int32)   (K91 : vSt → Int32 → Int32 → Int32 → Prop) (K259 : vSt → Int32 → Int32 → Int32 → Int32 → Int32 → Int32 → Int32 → Int32 → Prop) (K370 : vSt → Int32 → Int32 → Int32 → Int32 → Int32 → Int32 → Int32 → Int32 → Int32 → Int32 → Prop) (post : Unit) (S : vSt) (x4 : Int32) (x5 : Int32) (x6 : Int32) (x7 : Int32) (x8 : Int32) (x9 : Int32) (x11 : Int32) (x12 : Int32) (x14 : Int32) (x15 : Int32) : Prop := p_X10_friend  S x12 (fun r654 S653 => p_X10_loss  S653 x15 x12 (fun r656 S655 => ((r656 = true → p_X10_top  S655  (fun r658 S657 => p_X10_bottom  S657  (fun r660 S659 => p_X10_loss  S659 r654 x12 (fun r662 S661 => ((r662 = false → False) ∧ (r662 = true → p_X10_top  S661  (fun r664 S663 => p_X10_bottom  S663  (fun r666 S665 => (((r664 * r660) ≤ (r658 * r666) → p_L_law_672 L xs K91 K259 K370 post S665 x4 x5 x6 x7 x8 x9 x11 x12 x14 x15) ∧ (¬ (r664 * r660) ≤ (r658 * r666) → False)))))))))) ∧ (r656 = false → False))))
def p_L_law_564 (L : Nat) (xs : Nat → Int32)   (K91 : vSt → Int32 → Int32 → Int32 → Prop) (K259 : vSt → Int32 → Int32 → Int32 → Int32 → Int32 → Int32 → Int32 → Int32 → Prop) (K370 : vSt → Int32 → Int32 → Int32 → Int32 → Int32 → Int32 → Int32 → Int32 → Int32 → Int32 → Prop) (post : Unit) (S : vSt) (x4 : Int32) (x5 : Int32) (x6 : Int32) (x7 : Int32) (x8 : Int32) (x9 : Int32) (x11 : Int32) (x12 : Int32) (x14 : Int32) (x15 : Int32) (x20 : Int64) (x22 : Int64) : Prop := p_X10_trade  S x15 x12 0 (fun r652 S651 => ((r652 < 0 → p_L_law_608 L xs K91 K259 K370 post S651 x4 x5 x6 x7 x8 x9 x11 x12 x14 x15) ∧ (¬ r652 < 0 → p_X10_trade  S651 x15 x12 1 (fun r654 S653 => ((r654 < r652 → False) ∧ (¬ r654 < r652 → ((x20 ≤ ((Int32.toInt64 r652) * x22) → p_L_law_608 L xs K91 K259 K370 post S653 x4 x5 x6 x7 x8 x9 x11 x12 x14 x15) ∧ (¬ x20 ≤ ((Int32.toInt64 r652) * x22) → False))))))))
def p_L_law_488 (L : Nat) (xs : Nat → Int32)   (K91 : vSt → Int32 → Int32 → Int32 → Prop) (K259 : vSt → Int32 → Int32 → Int32 → Int32 → Int32 → Int32 → Int32 → Int32 → Prop) (K370 : vSt → Int32 → Int32 → Int32 → Int32 → Int32 → Int32 → Int32 → Int32 → Int32 → Int32 → Prop) (post : Unit) (S : vSt) (x4 : Int32) (x5 : Int32) (x6 : Int32) (x7 : Int32) (x8 : Int32) (x9 : Int32) (x11 : Int32) (x12 : Int32) (x14 : Int32) (x15 : Int32) (x20 : Int64) (x22 : Int64) : Prop := p_X10_loss  S x15 x12 (fun r644 S643 => ((r644 = false → False) ∧ (r644 = true → p_X10_top  S643  (fun r646 S645 => ((r646 < 0 → False) ∧ (¬ r646 < 0 → p_X10_top  S645  (fun r648 S647 => p_X10_bottom  S647  (fun r650 S649 => (((x20 * r650) ≤ (r648 * x22) → ((x14 < 0 → p_L_law_564 L xs K91 K259 K370 post S649 x4 x5 x6 x7 x8 x9 x11 x12 x14 x15 x20 x22) ∧ (¬ x14 < 0 → p_X10_gain  S649 x14 x12 (fun r652 S651 => ((r652 = false → False) ∧ (r652 = true → p_X10_top  S651  (fun r654 S653 => p_X10_bottom  S653  (fun r656 S655 => (((x20 * r656) ≤ (r654 * x22) → p_L_law_564 L xs K91 K259 K370 post S655 x4 x5 x6 x7 x8 x9 x11 x12 x14 x15 x20 x22) ∧ (¬ (x20 * r656) ≤ (r654 * x22) → False)))))))))) ∧ (¬ (x20 * r650) ≤ (r648 * x22) → False))))))))))
def p_L_law_370 (L : Nat) (xs : Nat → Int32)   (K91 : vSt → Int32 → Int32 → Int32 → Prop) (K259 : vSt → Int32 → Int32 → Int32 → Int32 → Int32 → Int32 → Int32 → Int32 → Prop) (post : Unit) : Nat → vSt → Int32 → Int32 → Int32 → Int32 → Int32 → Int32 → Int32 → Int32 → Int32 → Int32 → Prop
  | 0 => fun _ _ _ _ _ _ _ _ _ _ _ => False
  | fu370 + 1 => fun S x4 x5 x6 x7 x8 x9 x11 x12 x14 x15 => (vp_in 0 29 ∧ (((S.1 144 (Int32.toNatClampNeg 0)) ≤ x15 → ∀ y622 : Int32, y622 = x12 + 1 → K259 S x4 x5 x6 x7 x8 x9 x11 y622) ∧ (¬ (S.1 144 (Int32.toNatClampNeg 0)) ≤ x15 → p_X10_can  S x15 x12 (fun r624 S623 => ((¬ r624 = 0 → p_X10_wins  S623 x15 x12 (fun r626 S625 => ((r626 = true → p_X10_top  S625  (fun r628 S627 => p_X10_bottom  S627  (fun r630 S629 => p_X10_owes  S629 x15 x12 (fun r632 S631 => ((r632 = false → False) ∧ (r632 = true → p_X10_top  S631  (fun r634 S633 => p_X10_bottom  S633  (fun r636 S635 => (((r634 * r630) ≤ ((r630 - r628) * r636) → p_X10_gain  S635 x15 x12 (fun r638 S637 => ((r638 = true → p_X10_top  S637  (fun r640 S639 => p_X10_bottom  S639  (fun r642 S641 => ((r640 ≤ 0 → p_L_law_488 L xs K91 K259 (p_L_law_370 L xs K91 K259 post fu370) post S641 x4 x5 x6 x7 x8 x9 x11 x12 x14 x15 r640 r642) ∧ (¬ r640 ≤ 0 → ((x14 < 0 → False) ∧ (¬ x14 < 0 → p_L_law_488 L xs K91 K259 (p_L_law_370 L xs K91 K259 post fu370) post S641 x4 x5 x6 x7 x8 x9 x11 x12 x14 x15 r640 r642))))))) ∧ (r638 = false → False)))) ∧ (¬ (r634 * r630) ≤ ((r630 - r628) * r636) → False)))))))))) ∧ (r626 = false → False)))) ∧ (r624 = 0 → p_L_law_672 L xs K91 K259 (p_L_law_370 L xs K91 K259 post fu370) post S623 x4 x5 x6 x7 x8 x9 x11 x12 x14 x15))))))
theorem e_L_law_370 (L : Nat) (xs : Nat → Int32)   (K91 : vSt → Int32 → Int32 → Int32 → Prop) (K259 : vSt → Int32 → Int32 → Int32 → Int32 → Int32 → Int32 → Int32 → Int32 → Prop) (post : Unit) (fu370 : Nat) (S : vSt) (x4 : Int32) (x5 : Int32) (x6 : Int32) (x7 : Int32) (x8 : Int32) (x9 : Int32) (x11 : Int32) (x12 : Int32) (x14 : Int32) (x15 : Int32) : p_L_law_370 L xs K91 K259 post (fu370 + 1) S x4 x5 x6 x7 x8 x9 x11 x12 x14 x15 = ((vp_in 0 29 ∧ (((S.1 144 (Int32.toNatClampNeg 0)) ≤ x15 → ∀ y622 : Int32, y622 = x12 + 1 → K259 S x4 x5 x6 x7 x8 x9 x11 y622) ∧ (¬ (S.1 144 (Int32.toNatClampNeg 0)) ≤ x15 → p_X10_can  S x15 x12 (fun r624 S623 => ((¬ r624 = 0 → p_X10_wins  S623 x15 x12 (fun r626 S625 => ((r626 = true → p_X10_top  S625  (fun r628 S627 => p_X10_bottom  S627  (fun r630 S629 => p_X10_owes  S629 x15 x12 (fun r632 S631 => ((r632 = false → False) ∧ (r632 = true → p_X10_top  S631  (fun r634 S633 => p_X10_bottom  S633  (fun r636 S635 => (((r634 * r630) ≤ ((r630 - r628) * r636) → p_X10_gain  S635 x15 x12 (fun r638 S637 => ((r638 = true → p_X10_top  S637  (fun r640 S639 => p_X10_bottom  S639  (fun r642 S641 => ((r640 ≤ 0 → p_L_law_488 L xs K91 K259 (p_L_law_370 L xs K91 K259 post fu370) post S641 x4 x5 x6 x7 x8 x9 x11 x12 x14 x15 r640 r642) ∧ (¬ r640 ≤ 0 → ((x14 < 0 → False) ∧ (¬ x14 < 0 → p_L_law_488 L xs K91 K259 (p_L_law_370 L xs K91 K259 post fu370) post S641 x4 x5 x6 x7 x8 x9 x11 x12 x14 x15 r640 r642))))))) ∧ (r638 = false → False)))) ∧ (¬ (r634 * r630) ≤ ((r630 - r628) * r636) → False)))))))))) ∧ (r626 = false → False)))) ∧ (r624 = 0 → p_L_law_672 L xs K91 K259 (p_L_law_370 L xs K91 K259 post fu370) post S623 x4 x5 x6 x7 x8 x9 x11 x12 x14 x15))))))) := rfl
def p_L_law_367 (L : Nat) (xs : Nat → Int32)   (K91 : vSt → Int32 → Int32 → Int32 → Prop) (K259 : vSt → Int32 → Int32 → Int32 → Int32 → Int32 → Int32 → Int32 → Int32 → Prop) (post : Unit) (S : vSt) (x4 : Int32) (x5 : Int32) (x6 : Int32) (x7 : Int32) (x8 : Int32) (x9 : Int32) (x11 : Int32) (x12 : Int32) (x14 : Int32) : Prop := ∃ fu370, p_L_law_370 L xs K91 K259 post fu370 S x4 x5 x6 x7 x8 x9 x11 x12 x14 0
def p_L_law_304 (L : Nat) (xs : Nat → Int32)   (K91 : vSt → Int32 → Int32 → Int32 → Prop) (K259 : vSt → Int32 → Int32 → Int32 → Int32 → Int32 → Int32 → Int32 → Int32 → Prop) (post : Unit) (S : vSt) (x4 : Int32) (x5 : Int32) (x6 : Int32) (x7 : Int32) (x8 : Int32) (x9 : Int32) (x11 : Int32) (x12 : Int32) (x13 : Bool) (x14 : Int32) (s0 : Bool) (s1 : Bool) : Prop := ((¬ (v_b s1) = (v_b s0) → False) ∧ ((v_b s1) = (v_b s0) → ((x13 = false → p_L_law_367 L xs K91 K259 post S x4 x5 x6 x7 x8 x9 x11 x12 x14) ∧ (x13 = true → p_X10_leastShare  S x12 (fun r623 S622 => p_X10_many  S622 5 (fun r625 S624 => ((r625 < r623 → False) ∧ (¬ r625 < r623 → p_X10_mostPenalty  S624 x12 (fun r627 S626 => p_X10_many  S626 4 (fun r629 S628 => ((r627 < r629 → False) ∧ (¬ r627 < r629 → p_X10_leastFine  S628 x12 (fun r631 S630 => p_X10_deed  S630 x12 1 (fun r633 S632 => ((r633 < r631 → False) ∧ (¬ r633 < r631 → p_X10_friend  S632 x12 (fun r635 S634 => ((0 ≤ r635 → p_L_law_367 L xs K91 K259 post S634 x4 x5 x6 x7 x8 x9 x11 x12 x14) ∧ (¬ 0 ≤ r635 → False)))))))))))))))))))
def p_L_law_282 (L : Nat) (xs : Nat → Int32)   (K91 : vSt → Int32 → Int32 → Int32 → Prop) (K259 : vSt → Int32 → Int32 → Int32 → Int32 → Int32 → Int32 → Int32 → Int32 → Prop) (post : Unit) (S : vSt) (x4 : Int32) (x5 : Int32) (x6 : Int32) (x7 : Int32) (x8 : Int32) (x9 : Int32) (x11 : Int32) (x12 : Int32) (s0 : Bool) : Prop := p_X10_accuser  S x12 (fun r621 S620 => ((r621 < 0 → p_L_law_304 L xs K91 K259 post S620 x4 x5 x6 x7 x8 x9 x11 x12 s0 r621 false s0) ∧ (¬ r621 < 0 → p_L_law_304 L xs K91 K259 post S620 x4 x5 x6 x7 x8 x9 x11 x12 s0 r621 true s0)))
def p_L_law_259 (L : Nat) (xs : Nat → Int32)   (K91 : vSt → Int32 → Int32 → Int32 → Prop) (post : Unit) : Nat → vSt → Int32 → Int32 → Int32 → Int32 → Int32 → Int32 → Int32 → Int32 → Prop
  | 0 => fun _ _ _ _ _ _ _ _ _ => False
  | fu259 + 1 => fun S x4 x5 x6 x7 x8 x9 x11 x12 => ((x8 ≤ x12 → ∃ fu687, p_L_law_687 L xs K91 post fu687 S x4 x5 x6 x7 x8 x9 x11 0) ∧ (¬ x8 ≤ x12 → ((¬ ((x11 >>> (x12 &&& 31)) &&& 1) = 1 → p_L_law_282 L xs K91 (p_L_law_259 L xs K91 post fu259) post S x4 x5 x6 x7 x8 x9 x11 x12 false) ∧ (((x11 >>> (x12 &&& 31)) &&& 1) = 1 → p_L_law_282 L xs K91 (p_L_law_259 L xs K91 post fu259) post S x4 x5 x6 x7 x8 x9 x11 x12 true))))
theorem e_L_law_259 (L : Nat) (xs : Nat → Int32)   (K91 : vSt → Int32 → Int32 → Int32 → Prop) (post : Unit) (fu259 : Nat) (S : vSt) (x4 : Int32) (x5 : Int32) (x6 : Int32) (x7 : Int32) (x8 : Int32) (x9 : Int32) (x11 : Int32) (x12 : Int32) : p_L_law_259 L xs K91 post (fu259 + 1) S x4 x5 x6 x7 x8 x9 x11 x12 = (((x8 ≤ x12 → ∃ fu687, p_L_law_687 L xs K91 post fu687 S x4 x5 x6 x7 x8 x9 x11 0) ∧ (¬ x8 ≤ x12 → ((¬ ((x11 >>> (x12 &&& 31)) &&& 1) = 1 → p_L_law_282 L xs K91 (p_L_law_259 L xs K91 post fu259) post S x4 x5 x6 x7 x8 x9 x11 x12 false) ∧ (((x11 >>> (x12 &&& 31)) &&& 1) = 1 → p_L_law_282 L xs K91 (p_L_law_259 L xs K91 post fu259) post S x4 x5 x6 x7 x8 x9 x11 x12 true))))) := rfl
def p_L_law_157 (L : Nat) (xs : Nat → Int32)   (K91 : vSt → Int32 → Int32 → Int32 → Prop) (post : Unit) : Nat → vSt → Int32 → Int32 → Int32 → Int32 → Int32 → Int32 → Int32 → Int32 → Prop
  | 0 => fun _ _ _ _ _ _ _ _ _ => False
  | fu157 + 1 => fun S x4 x5 x6 x7 x8 x9 x10 x11 => (vp_in 0 29 ∧ (((S.1 144 (Int32.toNatClampNeg 0)) ≤ x11 → ((¬ x10 = x5 → False) ∧ (x10 = x5 → p_X10_many  S 8 (fun r607 S606 => ((¬ (x9 &&& r607) = 0 → False) ∧ ((x9 &&& r607) = 0 → p_X10_quiet  S606  (fun r609 S608 => (((r609 &&& (x9 ^^^ (-1))) = 0 → p_X10_many  S608 5 (fun r611 S610 => p_X10_many  S610 4 (fun r613 S612 => p_X10_gladBy  S612 r611 r613 (fun r615 S614 => p_X10_quiet  S614  (fun r617 S616 => ((¬ (r615 &&& r617) = 0 → False) ∧ ((r615 &&& r617) = 0 → p_X10_quiet  S616  (fun r619 S618 => (((r615 ||| r619) = x9 → ∃ fu259, p_L_law_259 L xs K91 post fu259 S618 x4 x5 x6 x7 x8 x9 r615 0) ∧ (¬ (r615 ||| r619) = x9 → False)))))))))) ∧ (¬ (r609 &&& (x9 ^^^ (-1))) = 0 → False))))))))) ∧ (¬ (S.1 144 (Int32.toNatClampNeg 0)) ≤ x11 → p_X10_person  S x11 0 (fun r621 S620 => ∀ y622 : Int32, y622 = (x10 + r621) → ∀ y623 : Int32, y623 = x11 + 1 → (p_L_law_157 L xs K91 post fu157) S620 x4 x5 x6 x7 x8 x9 y622 y623))))
theorem e_L_law_157 (L : Nat) (xs : Nat → Int32)   (K91 : vSt → Int32 → Int32 → Int32 → Prop) (post : Unit) (fu157 : Nat) (S : vSt) (x4 : Int32) (x5 : Int32) (x6 : Int32) (x7 : Int32) (x8 : Int32) (x9 : Int32) (x10 : Int32) (x11 : Int32) : p_L_law_157 L xs K91 post (fu157 + 1) S x4 x5 x6 x7 x8 x9 x10 x11 = ((vp_in 0 29 ∧ (((S.1 144 (Int32.toNatClampNeg 0)) ≤ x11 → ((¬ x10 = x5 → False) ∧ (x10 = x5 → p_X10_many  S 8 (fun r607 S606 => ((¬ (x9 &&& r607) = 0 → False) ∧ ((x9 &&& r607) = 0 → p_X10_quiet  S606  (fun r609 S608 => (((r609 &&& (x9 ^^^ (-1))) = 0 → p_X10_many  S608 5 (fun r611 S610 => p_X10_many  S610 4 (fun r613 S612 => p_X10_gladBy  S612 r611 r613 (fun r615 S614 => p_X10_quiet  S614  (fun r617 S616 => ((¬ (r615 &&& r617) = 0 → False) ∧ ((r615 &&& r617) = 0 → p_X10_quiet  S616  (fun r619 S618 => (((r615 ||| r619) = x9 → ∃ fu259, p_L_law_259 L xs K91 post fu259 S618 x4 x5 x6 x7 x8 x9 r615 0) ∧ (¬ (r615 ||| r619) = x9 → False)))))))))) ∧ (¬ (r609 &&& (x9 ^^^ (-1))) = 0 → False))))))))) ∧ (¬ (S.1 144 (Int32.toNatClampNeg 0)) ≤ x11 → p_X10_person  S x11 0 (fun r621 S620 => ∀ y622 : Int32, y622 = (x10 + r621) → ∀ y623 : Int32, y623 = x11 + 1 → (p_L_law_157 L xs K91 post fu157) S620 x4 x5 x6 x7 x8 x9 y622 y623))))) := rfl
def p_L_law_129 (L : Nat) (xs : Nat → Int32)   (K91 : vSt → Int32 → Int32 → Int32 → Prop) (post : Unit) (S : vSt) (x4 : Int32) (x5 : Int32) (x6 : Int32) (s0 : Int32) : Prop := p_X10_many  S 1 (fun r601 S600 => p_X10_many  S600 7 (fun r603 S602 => p_X10_many  S602 6 (fun r605 S604 => ∃ fu157, p_L_law_157 L xs K91 post fu157 S604 x4 x5 x6 s0 r601 r603 r605 0)))
def p_L_law_91 (L : Nat) (xs : Nat → Int32)    (post : Unit) : Nat → vSt → Int32 → Int32 → Int32 → Prop
  | 0 => fun _ _ _ _ => False
  | fu91 + 1 => fun S x4 x5 x6 => ((7 ≤ x6 → True) ∧ (¬ 7 ≤ x6 → (((Int32.ofNat L) ≤ x6 → p_L_law_129 L xs (p_L_law_91 L xs post fu91) post S x4 x5 x6 ((401 * x6) + x4)) ∧ (¬ (Int32.ofNat L) ≤ x6 → (vp_in x6 L ∧ p_L_law_129 L xs (p_L_law_91 L xs post fu91) post S x4 x5 x6 (((xs (Int32.toNatClampNeg x6)) >>> ((1 : Int32) &&& 31)) ^^^ (73 * x6)))))))
theorem e_L_law_91 (L : Nat) (xs : Nat → Int32)    (post : Unit) (fu91 : Nat) (S : vSt) (x4 : Int32) (x5 : Int32) (x6 : Int32) : p_L_law_91 L xs post (fu91 + 1) S x4 x5 x6 = (((7 ≤ x6 → True) ∧ (¬ 7 ≤ x6 → (((Int32.ofNat L) ≤ x6 → p_L_law_129 L xs (p_L_law_91 L xs post fu91) post S x4 x5 x6 ((401 * x6) + x4)) ∧ (¬ (Int32.ofNat L) ≤ x6 → (vp_in x6 L ∧ p_L_law_129 L xs (p_L_law_91 L xs post fu91) post S x4 x5 x6 (((xs (Int32.toNatClampNeg x6)) >>> ((1 : Int32) &&& 31)) ^^^ (73 * x6)))))))) := rfl
def p_L_law_62 (L : Nat) (xs : Nat → Int32)    (post : Unit) : Nat → vSt → Int32 → Int32 → Int32 → Prop
  | 0 => fun _ _ _ _ => False
  | fu62 + 1 => fun S x4 x5 x6 => (vp_in 0 29 ∧ (((S.1 144 (Int32.toNatClampNeg 0)) ≤ x6 → ∃ fu91, p_L_law_91 L xs post fu91 S x4 x5 0) ∧ (¬ (S.1 144 (Int32.toNatClampNeg 0)) ≤ x6 → p_X10_person  S x6 0 (fun r601 S600 => ∀ y602 : Int32, y602 = (x5 + r601) → ∀ y603 : Int32, y603 = x6 + 1 → (p_L_law_62 L xs post fu62) S600 x4 y602 y603))))
theorem e_L_law_62 (L : Nat) (xs : Nat → Int32)    (post : Unit) (fu62 : Nat) (S : vSt) (x4 : Int32) (x5 : Int32) (x6 : Int32) : p_L_law_62 L xs post (fu62 + 1) S x4 x5 x6 = ((vp_in 0 29 ∧ (((S.1 144 (Int32.toNatClampNeg 0)) ≤ x6 → ∃ fu91, p_L_law_91 L xs post fu91 S x4 x5 0) ∧ (¬ (S.1 144 (Int32.toNatClampNeg 0)) ≤ x6 → p_X10_person  S x6 0 (fun r601 S600 => ∀ y602 : Int32, y602 = (x5 + r601) → ∀ y603 : Int32, y603 = x6 + 1 → (p_L_law_62 L xs post fu62) S600 x4 y602 y603))))) := rfl
def p_L_law_33 (L : Nat) (xs : Nat → Int32)    (post : Unit) (S : vSt) (s0 : Int32) : Prop := p_L_draw L xs S  (fun S595 => p_L_lay  S595  (fun r597 S596 => ((r597 = true → p_X10_many  S596 6 (fun r599 S598 => ∃ fu62, p_L_law_62 L xs post fu62 S598 s0 r599 0)) ∧ (r597 = false → False))))
def p_L_law_18 (L : Nat) (xs : Nat → Int32)    (post : Unit) (S : vSt)  : Prop := ((¬ (Int32.ofNat L) = 0 → (vp_in ((Int32.ofNat L) - 1) L ∧ p_L_law_33 L xs post S (xs (Int32.toNatClampNeg ((Int32.ofNat L) - 1))))) ∧ ((Int32.ofNat L) = 0 → p_L_law_33 L xs post S 5))
set_option maxHeartbeats 16000000 in
set_option maxRecDepth 100000 in
theorem q_L_law_1558 {X : vX} {G : vG}  {post : Unit} (C : v_Cx X G cL_law RL 26 room_1) (D : ∀ H locs ls, va_S (v_AA X) (v_s X).heap H locs → v_W X H locs (F0 (v_m X) 1565 ls [.int 1])) {L : Nat} {xs : Nat → Int32} (hX : v_XX G L xs)   {K91 : vSt → Int32 → Int32 → Int32 → Prop} (hK91 : ∀ S x4 x5 x6, K91 S x4 x5 x6 → VJ X G S 91 [(0, .ref (G.1 (145 + 99))), (1, .ref (G.1 0)), (3, .ref (G.1 144)), (4, .int x4), (5, .int x5), (6, .int x6)] []) : ∀ (S : vSt) (x4 : Int32) (x5 : Int32) (x6 : Int32), p_L_law_1558 L xs K91 post S x4 x5 x6 → VJ X G S 1558 [(0, .ref (G.1 (145 + 99))), (1, .ref (G.1 0)), (3, .ref (G.1 144)), (4, .int x4), (5, .int x5), (6, .int x6)] [] := by
  intro S x4 x5 x6 h
  obtain ⟨y631, ey631⟩ : ∃ z : Int32, z = x6 + 1 := ⟨_, rfl⟩
  have h := h y631 ey631
  refine V_iinc (lv' := [(0, .ref (G.1 (145 + 99))), (1, .ref (G.1 0)), (3, .ref (G.1 144)), (4, .int x4), (5, .int x5), (6, .int y631)]) C 5 [1, 2, 3, 4, 5, 0] y631 dL_law_1558 rfl (by rw [ey631]; rfl) (by decide) rfl ?_
  refine V_goto (tgt := 91) C dL_law_1561 (by decide) ?_
  exact hK91 _ _ _ _ h
set_option maxHeartbeats 16000000 in
set_option maxRecDepth 100000 in
theorem q_L_law_1517 {X : vX} {G : vG}  {post : Unit} (C : v_Cx X G cL_law RL 26 room_1) (D : ∀ H locs ls, va_S (v_AA X) (v_s X).heap H locs → v_W X H locs (F0 (v_m X) 1565 ls [.int 1])) {L : Nat} {xs : Nat → Int32} (hX : v_XX G L xs)   {K91 : vSt → Int32 → Int32 → Int32 → Prop} (hK91 : ∀ S x4 x5 x6, K91 S x4 x5 x6 → VJ X G S 91 [(0, .ref (G.1 (145 + 99))), (1, .ref (G.1 0)), (3, .ref (G.1 144)), (4, .int x4), (5, .int x5), (6, .int x6)] []) : ∀ (S : vSt) (x4 : Int32) (x5 : Int32) (x6 : Int32) (x7 : Int32) (x8 : Int32) (x13 : Int32), p_L_law_1517 L xs K91 post S x4 x5 x6 x7 x8 x13 → VJ X G S 1517 [(0, .ref (G.1 (145 + 99))), (1, .ref (G.1 0)), (3, .ref (G.1 144)), (4, .int x4), (5, .int x5), (6, .int x6), (7, .int x7), (8, .int x8), (13, .int x13)] [] := by
  intro S x4 x5 x6 x7 x8 x13 h
  refine V_iload C 6 dL_law_1517 rfl ?_
  refine V_iconst (v := 5) C dL_law_1519 (by decide) ?_
  refine V_ishr C dL_law_1520 ?_
  refine V_iconst (v := 3) C dL_law_1521 (by decide) ?_
  refine V_iand C dL_law_1522 ?_
  refine V_iconst (v := 1) C dL_law_1523 (by decide) ?_
  refine V_icmp_ne (tgt := 1558) C dL_law_1524 (by decide) (fun c => ?_) (fun c => ?_)
  · have h := h.1 c
    refine V_loc (lv' := [(0, .ref (G.1 (145 + 99))), (1, .ref (G.1 0)), (3, .ref (G.1 144)), (4, .int x4), (5, .int x5), (6, .int x6)]) [0, 1, 2, 3, 4, 5] rfl ?_
    exact q_L_law_1558 C D hX hK91 _ _ _ _ h
  · have h := h.2 c
    refine V_iload C 7 dL_law_1527 rfl ?_
    refine V_bipush (v := 8) C dL_law_1529 (by decide) ?_
    refine V_icmp_ge (tgt := 1558) C dL_law_1531 (by decide) (fun c => ?_) (fun c => ?_)
    · have h := h.1 c
      refine V_loc (lv' := [(0, .ref (G.1 (145 + 99))), (1, .ref (G.1 0)), (3, .ref (G.1 144)), (4, .int x4), (5, .int x5), (6, .int x6)]) [0, 1, 2, 3, 4, 5] rfl ?_
      exact q_L_law_1558 C D hX hK91 _ _ _ _ h
    · have h := h.2 c
      refine V_aload_n C 1 dL_law_1534 rfl rfl ?_
      refine V_iload C 8 dL_law_1535 rfl ?_
      refine V_iconst (v := 1) C dL_law_1537 (by decide) ?_
      refine V_iload C 6 dL_law_1538 rfl ?_
      refine V_bipush (v := 63) C dL_law_1540 (by decide) ?_
      refine V_iand C dL_law_1542 ?_
      refine V_iadd C dL_law_1543 ?_
      refine V_iload C 6 dL_law_1544 rfl ?_
      refine V_iconst (v := 2) C dL_law_1546 (by decide) ?_
      refine V_ishr C dL_law_1547 ?_
      refine V_bipush (v := 31) C dL_law_1548 (by decide) ?_
      refine V_iand C dL_law_1550 ?_
      refine V_bipush (v := 17) C dL_law_1551 (by decide) ?_
      refine V_irem C dL_law_1553 (by decide) ?_
      refine V_callVi (As := [.int x13, .int (1 + (x7 &&& 63)), .int (((x7 >>> ((2 : Int32) &&& 31)) &&& 31) - ((x7 >>> ((2 : Int32) &&& 31)) &&& 31) / 17 * 17)]) (rest := []) C (c_X10_commit (v_l X) G  _ _ _ _ h) 0 10 (by decide) (by decide) (by decide) rfl KV_X10_commit k_RL_223 rfl rfl rfl (Nat.le_of_ble_eq_true rfl) ⟨by decide, by decide⟩ dL_law_1554 (fun r632 S631 h => ?_)
      refine V_pop C dL_law_1557 rfl ?_
      refine V_loc (lv' := [(0, .ref (G.1 (145 + 99))), (1, .ref (G.1 0)), (3, .ref (G.1 144)), (4, .int x4), (5, .int x5), (6, .int x6)]) [0, 1, 2, 3, 4, 5] rfl ?_
      exact q_L_law_1558 C D hX hK91 _ _ _ _ h
set_option maxHeartbeats 16000000 in
set_option maxRecDepth 100000 in
theorem q_L_law_1492 {X : vX} {G : vG}  {post : Unit} (C : v_Cx X G cL_law RL 26 room_1) (D : ∀ H locs ls, va_S (v_AA X) (v_s X).heap H locs → v_W X H locs (F0 (v_m X) 1565 ls [.int 1])) {L : Nat} {xs : Nat → Int32} (hX : v_XX G L xs)   {K91 : vSt → Int32 → Int32 → Int32 → Prop} (hK91 : ∀ S x4 x5 x6, K91 S x4 x5 x6 → VJ X G S 91 [(0, .ref (G.1 (145 + 99))), (1, .ref (G.1 0)), (3, .ref (G.1 144)), (4, .int x4), (5, .int x5), (6, .int x6)] []) : ∀ (S : vSt) (x4 : Int32) (x5 : Int32) (x6 : Int32) (x7 : Int32) (x8 : Int32) (x13 : Int32), p_L_law_1492 L xs K91 post S x4 x5 x6 x7 x8 x13 → VJ X G S 1492 [(0, .ref (G.1 (145 + 99))), (1, .ref (G.1 0)), (3, .ref (G.1 144)), (4, .int x4), (5, .int x5), (6, .int x6), (7, .int x7), (8, .int x8), (13, .int x13)] [] := by
  intro S x4 x5 x6 x7 x8 x13 h
  refine V_iload C 6 dL_law_1492 rfl ?_
  refine V_bipush (v := 7) C dL_law_1494 (by decide) ?_
  refine V_ishr C dL_law_1496 ?_
  refine V_iconst (v := 1) C dL_law_1497 (by decide) ?_
  refine V_iand C dL_law_1498 ?_
  refine V_if_ne (tgt := 1517) C dL_law_1499 (by decide) (fun c => ?_) (fun c => ?_)
  · have h := h.1 c
    exact q_L_law_1517 C D hX hK91 _ _ _ _ _ _ _ h
  · have h := h.2 c
    refine V_aload_n C 1 dL_law_1502 rfl rfl ?_
    refine V_iload C 6 dL_law_1503 rfl ?_
    refine V_iconst (v := 3) C dL_law_1505 (by decide) ?_
    refine V_ishr C dL_law_1506 ?_
    refine V_bipush (v := 7) C dL_law_1507 (by decide) ?_
    refine V_iand C dL_law_1509 ?_
    refine V_iload C 7 dL_law_1510 rfl ?_
    obtain ⟨hz, h⟩ := h
    refine V_irem C dL_law_1512 hz ?_
    refine V_callVz (As := [.int (((x7 >>> ((3 : Int32) &&& 31)) &&& 7) - ((x7 >>> ((3 : Int32) &&& 31)) &&& 7) / x8 * x8)]) (rest := []) C (c_X10_reopen (v_l X) G  _ _ h) 0 10 (by decide) (by decide) (by decide) rfl KV_X10_reopen k_RL_220 rfl rfl rfl (Nat.le_of_ble_eq_true rfl) ⟨by decide, by decide⟩ dL_law_1513 (fun r632 S631 h => ?_)
    refine V_pop C dL_law_1516 rfl ?_
    exact q_L_law_1517 C D hX hK91 _ _ _ _ _ _ _ h
set_option maxHeartbeats 16000000 in
set_option maxRecDepth 100000 in
theorem q_L_law_1430 {X : vX} {G : vG}  {post : Unit} (C : v_Cx X G cL_law RL 26 room_1) (D : ∀ H locs ls, va_S (v_AA X) (v_s X).heap H locs → v_W X H locs (F0 (v_m X) 1565 ls [.int 1])) {L : Nat} {xs : Nat → Int32} (hX : v_XX G L xs)   {K91 : vSt → Int32 → Int32 → Int32 → Prop} (hK91 : ∀ S x4 x5 x6, K91 S x4 x5 x6 → VJ X G S 91 [(0, .ref (G.1 (145 + 99))), (1, .ref (G.1 0)), (3, .ref (G.1 144)), (4, .int x4), (5, .int x5), (6, .int x6)] []) : ∀ (S : vSt) (x4 : Int32) (x5 : Int32) (x6 : Int32) (x7 : Int32) (x8 : Int32) (x13 : Int32) (x14 : Int32), p_L_law_1430 L xs K91 post S x4 x5 x6 x7 x8 x13 x14 → VJ X G S 1430 [(0, .ref (G.1 (145 + 99))), (1, .ref (G.1 0)), (3, .ref (G.1 144)), (4, .int x4), (5, .int x5), (6, .int x6), (7, .int x7), (8, .int x8), (13, .int x13), (14, .int x14)] [] := by
  intro S x4 x5 x6 x7 x8 x13 x14 h
  refine V_aload_n C 1 dL_law_1430 rfl rfl ?_
  refine V_callVi (As := []) (rest := []) C (c_X10_back (v_l X) G  _ h) 0 10 (by decide) (by decide) (by decide) rfl KV_X10_back k_RL_211 rfl rfl rfl (Nat.le_of_ble_eq_true rfl) ⟨by decide, by decide⟩ dL_law_1431 (fun r628 S627 h => ?_)
  refine V_if_eq (tgt := 1439) C dL_law_1434 (by decide) (fun c => ?_) (fun c => ?_)
  · have h := h.1 c
    refine V_iload C 6 dL_law_1439 rfl ?_
    refine V_bipush (v := 6) C dL_law_1441 (by decide) ?_
    refine V_ishr C dL_law_1443 ?_
    refine V_iconst (v := 1) C dL_law_1444 (by decide) ?_
    refine V_iand C dL_law_1445 ?_
    refine V_if_ne (tgt := 1476) C dL_law_1446 (by decide) (fun c => ?_) (fun c => ?_)
    · have h := h.1 c
      refine V_aload_n C 1 dL_law_1476 rfl rfl ?_
      refine V_iload C 8 dL_law_1477 rfl ?_
      refine V_iload C 9 dL_law_1479 rfl ?_
      refine V_iload C 6 dL_law_1481 rfl ?_
      refine V_iconst (v := 5) C dL_law_1483 (by decide) ?_
      refine V_ishr C dL_law_1484 ?_
      refine V_bipush (v := 31) C dL_law_1485 (by decide) ?_
      refine V_iand C dL_law_1487 ?_
      refine V_callVi (As := [.int x13, .int x14, .int ((x7 >>> ((5 : Int32) &&& 31)) &&& 31)]) (rest := []) C (c_X10_drop (v_l X) G  _ _ _ _ h) 0 10 (by decide) (by decide) (by decide) rfl KV_X10_drop k_RL_217 rfl rfl rfl (Nat.le_of_ble_eq_true rfl) ⟨by decide, by decide⟩ dL_law_1488 (fun r630 S629 h => ?_)
      refine V_pop C dL_law_1491 rfl ?_
      refine V_loc (lv' := [(0, .ref (G.1 (145 + 99))), (1, .ref (G.1 0)), (3, .ref (G.1 144)), (4, .int x4), (5, .int x5), (6, .int x6), (7, .int x7), (8, .int x8), (13, .int x13)]) [0, 1, 2, 3, 4, 5, 6, 7, 8] rfl ?_
      exact q_L_law_1492 C D hX hK91 _ _ _ _ _ _ _ h
    · have h := h.2 c
      refine V_aload_n C 1 dL_law_1449 rfl rfl ?_
      refine V_iload C 8 dL_law_1450 rfl ?_
      refine V_iload C 9 dL_law_1452 rfl ?_
      refine V_iload C 6 dL_law_1454 rfl ?_
      refine V_iconst (v := 4) C dL_law_1456 (by decide) ?_
      refine V_ishr C dL_law_1457 ?_
      refine V_bipush (v := 7) C dL_law_1458 (by decide) ?_
      refine V_iand C dL_law_1460 ?_
      refine V_aload_n C 1 dL_law_1461 rfl rfl ?_
      refine V_iconst (v := 2) C dL_law_1462 (by decide) ?_
      refine V_callVi (As := [.int 2]) (rest := [.int ((x7 >>> ((4 : Int32) &&& 31)) &&& 7), .int x14, .int x13, .ref (G.1 0)]) C (c_X10_many (v_l X) G  _ _ h) 0 10 (by decide) (by decide) (by decide) rfl KV_X10_many k_RL_121 rfl rfl rfl (Nat.le_of_ble_eq_true rfl) ⟨by decide, by decide⟩ dL_law_1463 (fun r632 S631 h => ?_)
      refine V_iconst (v := 1) C dL_law_1466 (by decide) ?_
      refine V_iadd C dL_law_1467 ?_
      obtain ⟨hz, h⟩ := h
      refine V_irem C dL_law_1468 hz ?_
      refine V_callVi (As := [.int x13, .int x14, .int (((x7 >>> ((4 : Int32) &&& 31)) &&& 7) - ((x7 >>> ((4 : Int32) &&& 31)) &&& 7) / (r632 + 1) * (r632 + 1))]) (rest := []) C (c_X10_charge (v_l X) G  _ _ _ _ h) 0 10 (by decide) (by decide) (by decide) rfl KV_X10_charge k_RL_214 rfl rfl rfl (Nat.le_of_ble_eq_true rfl) ⟨by decide, by decide⟩ dL_law_1469 (fun r634 S633 h => ?_)
      refine V_pop C dL_law_1472 rfl ?_
      refine V_goto (tgt := 1492) C dL_law_1473 (by decide) ?_
      refine V_loc (lv' := [(0, .ref (G.1 (145 + 99))), (1, .ref (G.1 0)), (3, .ref (G.1 144)), (4, .int x4), (5, .int x5), (6, .int x6), (7, .int x7), (8, .int x8), (13, .int x13)]) [0, 1, 2, 3, 4, 5, 6, 7, 8] rfl ?_
      exact q_L_law_1492 C D hX hK91 _ _ _ _ _ _ _ h
  · have h := h.2 c
    refine V_iconst (v := 0) C dL_law_1437 (by decide) ?_
    exact h.elim
set_option maxHeartbeats 16000000 in
set_option maxRecDepth 100000 in
theorem q_L_law_1427 {X : vX} {G : vG}  {post : Unit} (C : v_Cx X G cL_law RL 26 room_1) (D : ∀ H locs ls, va_S (v_AA X) (v_s X).heap H locs → v_W X H locs (F0 (v_m X) 1565 ls [.int 1])) {L : Nat} {xs : Nat → Int32} (hX : v_XX G L xs)   {K91 : vSt → Int32 → Int32 → Int32 → Prop} (hK91 : ∀ S x4 x5 x6, K91 S x4 x5 x6 → VJ X G S 91 [(0, .ref (G.1 (145 + 99))), (1, .ref (G.1 0)), (3, .ref (G.1 144)), (4, .int x4), (5, .int x5), (6, .int x6)] []) : ∀ (S : vSt) (x4 : Int32) (x5 : Int32) (x6 : Int32) (x7 : Int32) (x8 : Int32) (x13 : Int32) (x14 : Int32) (s0 : Bool) (s1 : Bool), p_L_law_1427 L xs K91 post S x4 x5 x6 x7 x8 x13 x14 s0 s1 → VJ X G S 1427 [(0, .ref (G.1 (145 + 99))), (1, .ref (G.1 0)), (3, .ref (G.1 144)), (4, .int x4), (5, .int x5), (6, .int x6), (7, .int x7), (8, .int x8), (13, .int x13), (14, .int x14)] [.int (v_b s0), .int (v_b s1)] := by
  intro S x4 x5 x6 x7 x8 x13 x14 s0 s1 h
  refine V_icmp_ne (tgt := 1437) C dL_law_1427 (by decide) (fun c => ?_) (fun c => ?_)
  · have h := h.1 c
    refine V_iconst (v := 0) C dL_law_1437 (by decide) ?_
    exact h.elim
  · have h := h.2 c
    exact q_L_law_1430 C D hX hK91 _ _ _ _ _ _ _ _ h
set_option maxHeartbeats 16000000 in
set_option maxRecDepth 100000 in
theorem q_L_law_1410 {X : vX} {G : vG}  {post : Unit} (C : v_Cx X G cL_law RL 26 room_1) (D : ∀ H locs ls, va_S (v_AA X) (v_s X).heap H locs → v_W X H locs (F0 (v_m X) 1565 ls [.int 1])) {L : Nat} {xs : Nat → Int32} (hX : v_XX G L xs)   {K91 : vSt → Int32 → Int32 → Int32 → Prop} (hK91 : ∀ S x4 x5 x6, K91 S x4 x5 x6 → VJ X G S 91 [(0, .ref (G.1 (145 + 99))), (1, .ref (G.1 0)), (3, .ref (G.1 144)), (4, .int x4), (5, .int x5), (6, .int x6)] []) : ∀ (S : vSt) (x4 : Int32) (x5 : Int32) (x6 : Int32) (x7 : Int32) (x8 : Int32) (x13 : Int32) (x14 : Int32) (x15 : Int32) (s0 : Bool), p_L_law_1410 L xs K91 post S x4 x5 x6 x7 x8 x13 x14 x15 s0 → VJ X G S 1410 [(0, .ref (G.1 (145 + 99))), (1, .ref (G.1 0)), (3, .ref (G.1 144)), (4, .int x4), (5, .int x5), (6, .int x6), (7, .int x7), (8, .int x8), (13, .int x13), (14, .int x14), (15, .int x15)] [.int (v_b s0)] := by
  intro S x4 x5 x6 x7 x8 x13 x14 x15 s0 h
  refine V_iconst (v := 2) C dL_law_1410 (by decide) ?_
  refine V_iload C 10 dL_law_1411 rfl ?_
  refine V_imul C dL_law_1413 ?_
  refine V_aload_n C 1 dL_law_1414 rfl rfl ?_
  refine V_iconst (v := 2) C dL_law_1415 (by decide) ?_
  refine V_callVi (As := [.int 2]) (rest := [.int (2 * x15), .int (v_b s0)]) C (c_X10_many (v_l X) G  _ _ h) 0 10 (by decide) (by decide) (by decide) rfl KV_X10_many k_RL_121 rfl rfl rfl (Nat.le_of_ble_eq_true rfl) ⟨by decide, by decide⟩ dL_law_1416 (fun r630 S629 h => ?_)
  refine V_icmp_le (tgt := 1426) C dL_law_1419 (by decide) (fun c => ?_) (fun c => ?_)
  · have h := h.1 c
    refine V_iconst (v := 0) C dL_law_1426 (by decide) ?_
    refine V_loc (lv' := [(0, .ref (G.1 (145 + 99))), (1, .ref (G.1 0)), (3, .ref (G.1 144)), (4, .int x4), (5, .int x5), (6, .int x6), (7, .int x7), (8, .int x8), (13, .int x13), (14, .int x14)]) [0, 1, 2, 3, 4, 5, 6, 7, 8, 9] rfl ?_
    exact q_L_law_1427 C D hX hK91 _ _ _ _ _ _ _ _ _ _ h
  · have h := h.2 c
    refine V_iconst (v := 1) C dL_law_1422 (by decide) ?_
    refine V_goto (tgt := 1427) C dL_law_1423 (by decide) ?_
    refine V_loc (lv' := [(0, .ref (G.1 (145 + 99))), (1, .ref (G.1 0)), (3, .ref (G.1 144)), (4, .int x4), (5, .int x5), (6, .int x6), (7, .int x7), (8, .int x8), (13, .int x13), (14, .int x14)]) [0, 1, 2, 3, 4, 5, 6, 7, 8, 9] rfl ?_
    exact q_L_law_1427 C D hX hK91 _ _ _ _ _ _ _ _ _ _ h
set_option maxHeartbeats 16000000 in
set_option maxRecDepth 100000 in
theorem q_L_law_1384 {X : vX} {G : vG}  {post : Unit} (C : v_Cx X G cL_law RL 26 room_1) (D : ∀ H locs ls, va_S (v_AA X) (v_s X).heap H locs → v_W X H locs (F0 (v_m X) 1565 ls [.int 1])) {L : Nat} {xs : Nat → Int32} (hX : v_XX G L xs)   {K91 : vSt → Int32 → Int32 → Int32 → Prop} (hK91 : ∀ S x4 x5 x6, K91 S x4 x5 x6 → VJ X G S 91 [(0, .ref (G.1 (145 + 99))), (1, .ref (G.1 0)), (3, .ref (G.1 144)), (4, .int x4), (5, .int x5), (6, .int x6)] []) : ∀ (S : vSt) (x4 : Int32) (x5 : Int32) (x6 : Int32) (x7 : Int32) (x8 : Int32) (x13 : Int32) (x14 : Int32) (x15 : Int32) (s0 : Bool) (s1 : Bool), p_L_law_1384 L xs K91 post S x4 x5 x6 x7 x8 x13 x14 x15 s0 s1 → VJ X G S 1384 [(0, .ref (G.1 (145 + 99))), (1, .ref (G.1 0)), (3, .ref (G.1 144)), (4, .int x4), (5, .int x5), (6, .int x6), (7, .int x7), (8, .int x8), (13, .int x13), (14, .int x14), (15, .int x15)] [.int (v_b s0), .int (v_b s1)] := by
  intro S x4 x5 x6 x7 x8 x13 x14 x15 s0 s1 h
  refine V_icmp_eq (tgt := 1389) C dL_law_1384 (by decide) (fun c => ?_) (fun c => ?_)
  · have h := h.1 c
    refine V_iload C 10 dL_law_1389 rfl ?_
    refine V_if_lt (tgt := 1430) C dL_law_1391 (by decide) (fun c => ?_) (fun c => ?_)
    · have h := h.1 c
      refine V_loc (lv' := [(0, .ref (G.1 (145 + 99))), (1, .ref (G.1 0)), (3, .ref (G.1 144)), (4, .int x4), (5, .int x5), (6, .int x6), (7, .int x7), (8, .int x8), (13, .int x13), (14, .int x14)]) [0, 1, 2, 3, 4, 5, 6, 7, 8, 9] rfl ?_
      exact q_L_law_1430 C D hX hK91 _ _ _ _ _ _ _ _ h
    · have h := h.2 c
      refine V_aload_n C 1 dL_law_1394 rfl rfl ?_
      refine V_iload C 9 dL_law_1395 rfl ?_
      refine V_iconst (v := 3) C dL_law_1397 (by decide) ?_
      refine V_callVi (As := [.int x14, .int 3]) (rest := []) C (c_X10_deed (v_l X) G  _ _ _ h) 0 10 (by decide) (by decide) (by decide) rfl KV_X10_deed k_RL_145 rfl rfl rfl (Nat.le_of_ble_eq_true rfl) ⟨by decide, by decide⟩ dL_law_1398 (fun r628 S627 h => ?_)
      refine V_iconst (v := 1) C dL_law_1401 (by decide) ?_
      refine V_icmp_ne (tgt := 1409) C dL_law_1402 (by decide) (fun c => ?_) (fun c => ?_)
      · have h := h.1 c
        refine V_iconst (v := 0) C dL_law_1409 (by decide) ?_
        exact q_L_law_1410 C D hX hK91 _ _ _ _ _ _ _ _ _ _ h
      · have h := h.2 c
        refine V_iconst (v := 1) C dL_law_1405 (by decide) ?_
        refine V_goto (tgt := 1410) C dL_law_1406 (by decide) ?_
        exact q_L_law_1410 C D hX hK91 _ _ _ _ _ _ _ _ _ _ h
  · have h := h.2 c
    refine V_iconst (v := 0) C dL_law_1387 (by decide) ?_
    exact h.elim
set_option maxHeartbeats 16000000 in
set_option maxRecDepth 100000 in
theorem q_L_law_1383 {X : vX} {G : vG}  {post : Unit} (C : v_Cx X G cL_law RL 26 room_1) (D : ∀ H locs ls, va_S (v_AA X) (v_s X).heap H locs → v_W X H locs (F0 (v_m X) 1565 ls [.int 1])) {L : Nat} {xs : Nat → Int32} (hX : v_XX G L xs)   {K91 : vSt → Int32 → Int32 → Int32 → Prop} (hK91 : ∀ S x4 x5 x6, K91 S x4 x5 x6 → VJ X G S 91 [(0, .ref (G.1 (145 + 99))), (1, .ref (G.1 0)), (3, .ref (G.1 144)), (4, .int x4), (5, .int x5), (6, .int x6)] []) : ∀ (S : vSt) (x4 : Int32) (x5 : Int32) (x6 : Int32) (x7 : Int32) (x8 : Int32) (x13 : Int32) (x14 : Int32) (x15 : Int32) (s0 : Bool), p_L_law_1383 L xs K91 post S x4 x5 x6 x7 x8 x13 x14 x15 s0 → VJ X G S 1383 [(0, .ref (G.1 (145 + 99))), (1, .ref (G.1 0)), (3, .ref (G.1 144)), (4, .int x4), (5, .int x5), (6, .int x6), (7, .int x7), (8, .int x8), (13, .int x13), (14, .int x14), (15, .int x15)] [.int (v_b s0)] := by
  intro S x4 x5 x6 x7 x8 x13 x14 x15 s0 h
  refine V_iconst (v := 0) C dL_law_1383 (by decide) ?_
  exact q_L_law_1384 C D hX hK91 _ _ _ _ _ _ _ _ _ _ _ h
set_option maxHeartbeats 16000000 in
set_option maxRecDepth 100000 in
theorem q_L_law_1344 {X : vX} {G : vG}  {post : Unit} (C : v_Cx X G cL_law RL 26 room_1) (D : ∀ H locs ls, va_S (v_AA X) (v_s X).heap H locs → v_W X H locs (F0 (v_m X) 1565 ls [.int 1])) {L : Nat} {xs : Nat → Int32} (hX : v_XX G L xs)   {K91 : vSt → Int32 → Int32 → Int32 → Prop} (hK91 : ∀ S x4 x5 x6, K91 S x4 x5 x6 → VJ X G S 91 [(0, .ref (G.1 (145 + 99))), (1, .ref (G.1 0)), (3, .ref (G.1 144)), (4, .int x4), (5, .int x5), (6, .int x6)] []) : ∀ (S : vSt) (x4 : Int32) (x5 : Int32) (x6 : Int32) (x7 : Int32) (x8 : Int32) (x9 : Int32) (x13 : Int32) (x14 : Int32) (x15 : Int32) (s0 : Bool), p_L_law_1344 L xs K91 post S x4 x5 x6 x7 x8 x9 x13 x14 x15 s0 → VJ X G S 1344 [(0, .ref (G.1 (145 + 99))), (1, .ref (G.1 0)), (3, .ref (G.1 144)), (4, .int x4), (5, .int x5), (6, .int x6), (7, .int x7), (8, .int x8), (9, .int x9), (13, .int x13), (14, .int x14), (15, .int x15)] [.int (v_b s0)] := by
  intro S x4 x5 x6 x7 x8 x9 x13 x14 x15 s0 h
  refine V_iload C 8 dL_law_1344 rfl ?_
  refine V_iload C 10 dL_law_1346 rfl ?_
  refine V_ishr C dL_law_1348 ?_
  refine V_iconst (v := 1) C dL_law_1349 (by decide) ?_
  refine V_iand C dL_law_1350 ?_
  refine V_iconst (v := 1) C dL_law_1351 (by decide) ?_
  refine V_icmp_ne (tgt := 1383) C dL_law_1352 (by decide) (fun c => ?_) (fun c => ?_)
  · have h := h.1 c
    refine V_loc (lv' := [(0, .ref (G.1 (145 + 99))), (1, .ref (G.1 0)), (3, .ref (G.1 144)), (4, .int x4), (5, .int x5), (6, .int x6), (7, .int x7), (8, .int x8), (13, .int x13), (14, .int x14), (15, .int x15)]) [0, 1, 2, 3, 4, 5, 6, 7, 9, 10, 11] rfl ?_
    exact q_L_law_1383 C D hX hK91 _ _ _ _ _ _ _ _ _ _ h
  · have h := h.2 c
    refine V_aload_n C 1 dL_law_1355 rfl rfl ?_
    refine V_iload C 10 dL_law_1356 rfl ?_
    refine V_iconst (v := 5) C dL_law_1358 (by decide) ?_
    refine V_callVi (As := [.int x14, .int 5]) (rest := [.int (v_b s0)]) C (c_X10_deed (v_l X) G  _ _ _ h) 0 10 (by decide) (by decide) (by decide) rfl KV_X10_deed k_RL_145 rfl rfl rfl (Nat.le_of_ble_eq_true rfl) ⟨by decide, by decide⟩ dL_law_1359 (fun r628 S627 h => ?_)
    refine V_iload C 11 dL_law_1362 rfl ?_
    refine V_icmp_ne (tgt := 1383) C dL_law_1364 (by decide) (fun c => ?_) (fun c => ?_)
    · have h := h.1 c
      refine V_loc (lv' := [(0, .ref (G.1 (145 + 99))), (1, .ref (G.1 0)), (3, .ref (G.1 144)), (4, .int x4), (5, .int x5), (6, .int x6), (7, .int x7), (8, .int x8), (13, .int x13), (14, .int x14), (15, .int x15)]) [0, 1, 2, 3, 4, 5, 6, 7, 9, 10, 11] rfl ?_
      exact q_L_law_1383 C D hX hK91 _ _ _ _ _ _ _ _ _ _ h
    · have h := h.2 c
      refine V_aload_n C 1 dL_law_1367 rfl rfl ?_
      refine V_iload C 10 dL_law_1368 rfl ?_
      refine V_iconst (v := 4) C dL_law_1370 (by decide) ?_
      refine V_callVi (As := [.int x14, .int 4]) (rest := [.int (v_b s0)]) C (c_X10_deed (v_l X) G  _ _ _ h) 0 10 (by decide) (by decide) (by decide) rfl KV_X10_deed k_RL_145 rfl rfl rfl (Nat.le_of_ble_eq_true rfl) ⟨by decide, by decide⟩ dL_law_1371 (fun r630 S629 h => ?_)
      refine V_iload C 9 dL_law_1374 rfl ?_
      refine V_icmp_ne (tgt := 1383) C dL_law_1376 (by decide) (fun c => ?_) (fun c => ?_)
      · have h := h.1 c
        refine V_loc (lv' := [(0, .ref (G.1 (145 + 99))), (1, .ref (G.1 0)), (3, .ref (G.1 144)), (4, .int x4), (5, .int x5), (6, .int x6), (7, .int x7), (8, .int x8), (13, .int x13), (14, .int x14), (15, .int x15)]) [0, 1, 2, 3, 4, 5, 6, 7, 9, 10, 11] rfl ?_
        exact q_L_law_1383 C D hX hK91 _ _ _ _ _ _ _ _ _ _ h
      · have h := h.2 c
        refine V_iconst (v := 1) C dL_law_1379 (by decide) ?_
        refine V_goto (tgt := 1384) C dL_law_1380 (by decide) ?_
        refine V_loc (lv' := [(0, .ref (G.1 (145 + 99))), (1, .ref (G.1 0)), (3, .ref (G.1 144)), (4, .int x4), (5, .int x5), (6, .int x6), (7, .int x7), (8, .int x8), (13, .int x13), (14, .int x14), (15, .int x15)]) [0, 1, 2, 3, 4, 5, 6, 7, 9, 10, 11] rfl ?_
        exact q_L_law_1384 C D hX hK91 _ _ _ _ _ _ _ _ _ _ _ h
set_option maxHeartbeats 16000000 in
set_option maxRecDepth 100000 in
theorem q_L_law_1276 {X : vX} {G : vG}  {post : Unit} (C : v_Cx X G cL_law RL 26 room_1) (D : ∀ H locs ls, va_S (v_AA X) (v_s X).heap H locs → v_W X H locs (F0 (v_m X) 1565 ls [.int 1])) {L : Nat} {xs : Nat → Int32} (hX : v_XX G L xs)   {K91 : vSt → Int32 → Int32 → Int32 → Prop} (hK91 : ∀ S x4 x5 x6, K91 S x4 x5 x6 → VJ X G S 91 [(0, .ref (G.1 (145 + 99))), (1, .ref (G.1 0)), (3, .ref (G.1 144)), (4, .int x4), (5, .int x5), (6, .int x6)] []) : ∀ (S : vSt) (x4 : Int32) (x5 : Int32) (x6 : Int32) (x7 : Int32) (x8 : Int32) (x9 : Int32), p_L_law_1276 L xs K91 post S x4 x5 x6 x7 x8 x9 → VJ X G S 1276 [(0, .ref (G.1 (145 + 99))), (1, .ref (G.1 0)), (3, .ref (G.1 144)), (4, .int x4), (5, .int x5), (6, .int x6), (7, .int x7), (8, .int x8), (9, .int x9)] [] := by
  intro S x4 x5 x6 x7 x8 x9 h
  refine V_iload C 7 dL_law_1276 rfl ?_
  refine V_if_ne (tgt := 1284) C dL_law_1278 (by decide) (fun c => ?_) (fun c => ?_)
  · have h := h.1 c
    refine V_iload C 6 dL_law_1284 rfl ?_
    refine V_iconst (v := 3) C dL_law_1286 (by decide) ?_
    refine V_iand C dL_law_1287 ?_
    refine V_aload_n C 2 dL_law_1288 rfl rfl ?_
    refine V_iconst (v := 0) C dL_law_1289 (by decide) ?_
    obtain ⟨hi, h⟩ := h
    refine V_iald C 144 29 (by decide) (by decide) hi dL_law_1290 ?_
    obtain ⟨hz, h⟩ := h
    refine V_irem C dL_law_1291 hz ?_
    refine V_topi (fun y621 ey621 => ?_)
    have h := h y621 ey621
    refine V_istore (lv' := [(0, .ref (G.1 (145 + 99))), (1, .ref (G.1 0)), (3, .ref (G.1 144)), (4, .int x4), (5, .int x5), (6, .int x6), (7, .int x7), (8, .int x8), (9, .int x9), (13, .int y621)]) C [1, 2, 3, 4, 5, 6, 7, 8, 9, 0] dL_law_1292 (by decide) rfl ?_
    refine V_iload C 6 dL_law_1294 rfl ?_
    refine V_iconst (v := 2) C dL_law_1296 (by decide) ?_
    refine V_ishr C dL_law_1297 ?_
    refine V_bipush (v := 15) C dL_law_1298 (by decide) ?_
    refine V_iand C dL_law_1300 ?_
    refine V_iload C 7 dL_law_1301 rfl ?_
    obtain ⟨hz, h⟩ := h
    refine V_irem C dL_law_1303 hz ?_
    refine V_topi (fun y622 ey622 => ?_)
    have h := h y622 ey622
    refine V_istore (lv' := [(0, .ref (G.1 (145 + 99))), (1, .ref (G.1 0)), (3, .ref (G.1 144)), (4, .int x4), (5, .int x5), (6, .int x6), (7, .int x7), (8, .int x8), (9, .int x9), (13, .int y621), (14, .int y622)]) C [1, 2, 3, 4, 5, 6, 7, 8, 9, 10, 0] dL_law_1304 (by decide) rfl ?_
    refine V_aload_n C 1 dL_law_1306 rfl rfl ?_
    refine V_callVi (As := []) (rest := []) C (c_X10_mark (v_l X) G  _ h) 0 10 (by decide) (by decide) (by decide) rfl KV_X10_mark k_RL_205 rfl rfl rfl (Nat.le_of_ble_eq_true rfl) ⟨by decide, by decide⟩ dL_law_1307 (fun r624 S623 h => ?_)
    refine V_iconst (v := 1) C dL_law_1310 (by decide) ?_
    refine V_icmp_eq (tgt := 1316) C dL_law_1311 (by decide) (fun c => ?_) (fun c => ?_)
    · have h := h.1 c
      refine V_aload_n C 1 dL_law_1316 rfl rfl ?_
      refine V_iload C 9 dL_law_1317 rfl ?_
      refine V_iload C 10 dL_law_1319 rfl ?_
      refine V_iload C 6 dL_law_1321 rfl ?_
      refine V_iconst (v := 1) C dL_law_1323 (by decide) ?_
      refine V_ishr C dL_law_1324 ?_
      refine V_sipush (v := 4095) C dL_law_1325 (by decide) ?_
      refine V_iand C dL_law_1328 ?_
      refine V_callVi (As := [.int y621, .int y622, .int ((x7 >>> ((1 : Int32) &&& 31)) &&& 4095)]) (rest := []) C (c_X10_hear (v_l X) G  _ _ _ _ h) 0 10 (by decide) (by decide) (by decide) rfl KV_X10_hear k_RL_208 rfl rfl rfl (Nat.le_of_ble_eq_true rfl) ⟨by decide, by decide⟩ dL_law_1329 (fun r626 S625 h => ?_)
      refine V_istore (lv' := [(0, .ref (G.1 (145 + 99))), (1, .ref (G.1 0)), (3, .ref (G.1 144)), (4, .int x4), (5, .int x5), (6, .int x6), (7, .int x7), (8, .int x8), (9, .int x9), (13, .int y621), (14, .int y622), (15, .int r626)]) C [1, 2, 3, 4, 5, 6, 7, 8, 9, 10, 11, 0] dL_law_1332 (by decide) rfl ?_
      refine V_iload C 11 dL_law_1334 rfl ?_
      refine V_if_lt (tgt := 1343) C dL_law_1336 (by decide) (fun c => ?_) (fun c => ?_)
      · have h := h.1 c
        refine V_iconst (v := 0) C dL_law_1343 (by decide) ?_
        exact q_L_law_1344 C D hX hK91 _ _ _ _ _ _ _ _ _ _ _ h
      · have h := h.2 c
        refine V_iconst (v := 1) C dL_law_1339 (by decide) ?_
        refine V_goto (tgt := 1344) C dL_law_1340 (by decide) ?_
        exact q_L_law_1344 C D hX hK91 _ _ _ _ _ _ _ _ _ _ _ h
    · have h := h.2 c
      refine V_iconst (v := 0) C dL_law_1314 (by decide) ?_
      exact h.elim
  · have h := h.2 c
    refine V_goto (tgt := 1558) C dL_law_1281 (by decide) ?_
    refine V_loc (lv' := [(0, .ref (G.1 (145 + 99))), (1, .ref (G.1 0)), (3, .ref (G.1 144)), (4, .int x4), (5, .int x5), (6, .int x6)]) [0, 1, 2, 3, 4, 5] rfl ?_
    exact q_L_law_1558 C D hX hK91 _ _ _ _ h
set_option maxHeartbeats 16000000 in
set_option maxRecDepth 100000 in
theorem q_L_law_1246 {X : vX} {G : vG}  {post : Unit} (C : v_Cx X G cL_law RL 26 room_1) (D : ∀ H locs ls, va_S (v_AA X) (v_s X).heap H locs → v_W X H locs (F0 (v_m X) 1565 ls [.int 1])) {L : Nat} {xs : Nat → Int32} (hX : v_XX G L xs)   {K91 : vSt → Int32 → Int32 → Int32 → Prop} (hK91 : ∀ S x4 x5 x6, K91 S x4 x5 x6 → VJ X G S 91 [(0, .ref (G.1 (145 + 99))), (1, .ref (G.1 0)), (3, .ref (G.1 144)), (4, .int x4), (5, .int x5), (6, .int x6)] []) : ∀ (S : vSt) (x4 : Int32) (x5 : Int32) (x6 : Int32) (x7 : Int32) (x8 : Int32) (x9 : Int32) (x13 : Int64) (x15 : Int64), p_L_law_1246 L xs K91 post S x4 x5 x6 x7 x8 x9 x13 x15 → VJ X G S 1246 [(0, .ref (G.1 (145 + 99))), (1, .ref (G.1 0)), (3, .ref (G.1 144)), (4, .int x4), (5, .int x5), (6, .int x6), (7, .int x7), (8, .int x8), (9, .int x9), (13, .long x13), (15, .long x15)] [] := by
  intro S x4 x5 x6 x7 x8 x9 x13 x15 h
  refine V_aload_n C 1 dL_law_1246 rfl rfl ?_
  refine V_iconst (v := 0) C dL_law_1247 (by decide) ?_
  refine V_iconst (v := 1) C dL_law_1248 (by decide) ?_
  refine V_iconst (v := 2) C dL_law_1249 (by decide) ?_
  refine V_callVz (As := [.int 0, .int 1, .int 2]) (rest := []) C (c_X10_game (v_l X) G  _ _ _ _ h) 0 10 (by decide) (by decide) (by decide) rfl KV_X10_game k_RL_198 rfl rfl rfl (Nat.le_of_ble_eq_true rfl) ⟨by decide, by decide⟩ dL_law_1250 (fun r630 S629 h => ?_)
  refine V_ifb_eq (tgt := 1274) C dL_law_1253 (by decide) (fun c => ?_) (fun c => ?_)
  · have h := h.1 c
    refine V_iconst (v := 0) C dL_law_1274 (by decide) ?_
    exact h.elim
  · have h := h.2 c
    refine V_aload_n C 1 dL_law_1256 rfl rfl ?_
    refine V_callVl (As := []) (rest := []) C (c_X10_top (v_l X) G  _ h) 0 10 (by decide) (by decide) (by decide) rfl KV_X10_top k_RL_109 rfl rfl rfl (Nat.le_of_ble_eq_true rfl) ⟨by decide, by decide⟩ dL_law_1257 (fun r632 S631 h => ?_)
    refine V_lload C 10 dL_law_1260 rfl ?_
    refine V_lmul C dL_law_1262 ?_
    refine V_lload C 9 dL_law_1263 rfl ?_
    refine V_aload_n C 1 dL_law_1265 rfl rfl ?_
    refine V_callVl (As := []) (rest := [.long x13, .long (r632 * x15)]) C (c_X10_bottom (v_l X) G  _ h) 0 10 (by decide) (by decide) (by decide) rfl KV_X10_bottom k_RL_105 rfl rfl rfl (Nat.le_of_ble_eq_true rfl) ⟨by decide, by decide⟩ dL_law_1266 (fun r634 S633 h => ?_)
    refine V_lmul C dL_law_1269 ?_
    refine V_lcmp_le (tgt := 1276) C dL_law_1270 dL_law_1271 (by decide) (fun c => ?_) (fun c => ?_)
    · have h := h.1 c
      refine V_loc (lv' := [(0, .ref (G.1 (145 + 99))), (1, .ref (G.1 0)), (3, .ref (G.1 144)), (4, .int x4), (5, .int x5), (6, .int x6), (7, .int x7), (8, .int x8), (9, .int x9)]) [0, 1, 2, 3, 4, 5, 6, 7, 8] rfl ?_
      exact q_L_law_1276 C D hX hK91 _ _ _ _ _ _ _ h
    · have h := h.2 c
      refine V_iconst (v := 0) C dL_law_1274 (by decide) ?_
      exact h.elim
set_option maxHeartbeats 16000000 in
set_option maxRecDepth 100000 in
theorem q_L_law_1217 {X : vX} {G : vG}  {post : Unit} (C : v_Cx X G cL_law RL 26 room_1) (D : ∀ H locs ls, va_S (v_AA X) (v_s X).heap H locs → v_W X H locs (F0 (v_m X) 1565 ls [.int 1])) {L : Nat} {xs : Nat → Int32} (hX : v_XX G L xs)   {K91 : vSt → Int32 → Int32 → Int32 → Prop} (hK91 : ∀ S x4 x5 x6, K91 S x4 x5 x6 → VJ X G S 91 [(0, .ref (G.1 (145 + 99))), (1, .ref (G.1 0)), (3, .ref (G.1 144)), (4, .int x4), (5, .int x5), (6, .int x6)] []) : ∀ (S : vSt) (x4 : Int32) (x5 : Int32) (x6 : Int32) (x7 : Int32) (x8 : Int32) (x9 : Int32) (x13 : Int64) (x15 : Int64) (x17 : Int32), p_L_law_1217 L xs K91 post S x4 x5 x6 x7 x8 x9 x13 x15 x17 → VJ X G S 1217 [(0, .ref (G.1 (145 + 99))), (1, .ref (G.1 0)), (3, .ref (G.1 144)), (4, .int x4), (5, .int x5), (6, .int x6), (7, .int x7), (8, .int x8), (9, .int x9), (13, .long x13), (15, .long x15), (17, .int x17)] [] := by
  intro S x4 x5 x6 x7 x8 x9 x13 x15 x17 h
  refine V_iload C 11 dL_law_1217 rfl ?_
  refine V_if_lt (tgt := 1246) C dL_law_1219 (by decide) (fun c => ?_) (fun c => ?_)
  · have h := h.1 c
    refine V_loc (lv' := [(0, .ref (G.1 (145 + 99))), (1, .ref (G.1 0)), (3, .ref (G.1 144)), (4, .int x4), (5, .int x5), (6, .int x6), (7, .int x7), (8, .int x8), (9, .int x9), (13, .long x13), (15, .long x15)]) [0, 1, 2, 3, 4, 5, 6, 7, 8, 9, 10] rfl ?_
    exact q_L_law_1246 C D hX hK91 _ _ _ _ _ _ _ _ _ h
  · have h := h.2 c
    refine V_aload_n C 1 dL_law_1222 rfl rfl ?_
    refine V_iload C 11 dL_law_1223 rfl ?_
    refine V_iconst (v := 0) C dL_law_1225 (by decide) ?_
    refine V_callVi (As := [.int x17, .int 0]) (rest := []) C (c_X10_deed (v_l X) G  _ _ _ h) 0 10 (by decide) (by decide) (by decide) rfl KV_X10_deed k_RL_145 rfl rfl rfl (Nat.le_of_ble_eq_true rfl) ⟨by decide, by decide⟩ dL_law_1226 (fun r630 S629 h => ?_)
    refine V_iconst (v := 1) C dL_law_1229 (by decide) ?_
    refine V_icmp_ne (tgt := 1244) C dL_law_1230 (by decide) (fun c => ?_) (fun c => ?_)
    · have h := h.1 c
      refine V_iconst (v := 0) C dL_law_1244 (by decide) ?_
      exact h.elim
    · have h := h.2 c
      refine V_aload_n C 1 dL_law_1233 rfl rfl ?_
      refine V_iconst (v := 0) C dL_law_1234 (by decide) ?_
      refine V_iload C 11 dL_law_1235 rfl ?_
      refine V_callVi (As := [.int 0, .int x17]) (rest := []) C (c_X10_can (v_l X) G  _ _ _ h) 0 10 (by decide) (by decide) (by decide) rfl KV_X10_can k_RL_150 rfl rfl rfl (Nat.le_of_ble_eq_true rfl) ⟨by decide, by decide⟩ dL_law_1237 (fun r632 S631 h => ?_)
      refine V_iconst (v := 1) C dL_law_1240 (by decide) ?_
      refine V_icmp_eq (tgt := 1246) C dL_law_1241 (by decide) (fun c => ?_) (fun c => ?_)
      · have h := h.1 c
        refine V_loc (lv' := [(0, .ref (G.1 (145 + 99))), (1, .ref (G.1 0)), (3, .ref (G.1 144)), (4, .int x4), (5, .int x5), (6, .int x6), (7, .int x7), (8, .int x8), (9, .int x9), (13, .long x13), (15, .long x15)]) [0, 1, 2, 3, 4, 5, 6, 7, 8, 9, 10] rfl ?_
        exact q_L_law_1246 C D hX hK91 _ _ _ _ _ _ _ _ _ h
      · have h := h.2 c
        refine V_iconst (v := 0) C dL_law_1244 (by decide) ?_
        exact h.elim
set_option maxHeartbeats 16000000 in
set_option maxRecDepth 100000 in
theorem q_L_law_1152 {X : vX} {G : vG}  {post : Unit} (C : v_Cx X G cL_law RL 26 room_1) (D : ∀ H locs ls, va_S (v_AA X) (v_s X).heap H locs → v_W X H locs (F0 (v_m X) 1565 ls [.int 1])) {L : Nat} {xs : Nat → Int32} (hX : v_XX G L xs)   {K91 : vSt → Int32 → Int32 → Int32 → Prop} (hK91 : ∀ S x4 x5 x6, K91 S x4 x5 x6 → VJ X G S 91 [(0, .ref (G.1 (145 + 99))), (1, .ref (G.1 0)), (3, .ref (G.1 144)), (4, .int x4), (5, .int x5), (6, .int x6)] []) {K1003 : vSt → Int32 → Int32 → Int32 → Int32 → Int32 → Int32 → Int32 → Int32 → Prop} (hK1003 : ∀ S x4 x5 x6 x7 x8 x9 x12 x13, K1003 S x4 x5 x6 x7 x8 x9 x12 x13 → VJ X G S 1003 [(0, .ref (G.1 (145 + 99))), (1, .ref (G.1 0)), (3, .ref (G.1 144)), (4, .int x4), (5, .int x5), (6, .int x6), (7, .int x7), (8, .int x8), (9, .int x9), (12, .int x12), (13, .int x13)] []) : ∀ (S : vSt) (x4 : Int32) (x5 : Int32) (x6 : Int32) (x7 : Int32) (x8 : Int32) (x9 : Int32) (x12 : Int32) (x13 : Int32), p_L_law_1152 L xs K91 K1003 post S x4 x5 x6 x7 x8 x9 x12 x13 → VJ X G S 1152 [(0, .ref (G.1 (145 + 99))), (1, .ref (G.1 0)), (3, .ref (G.1 144)), (4, .int x4), (5, .int x5), (6, .int x6), (7, .int x7), (8, .int x8), (9, .int x9), (12, .int x12), (13, .int x13)] [] := by
  intro S x4 x5 x6 x7 x8 x9 x12 x13 h
  obtain ⟨y639, ey639⟩ : ∃ z : Int32, z = x13 + 1 := ⟨_, rfl⟩
  have h := h y639 ey639
  refine V_iinc (lv' := [(0, .ref (G.1 (145 + 99))), (1, .ref (G.1 0)), (3, .ref (G.1 144)), (4, .int x4), (5, .int x5), (6, .int x6), (7, .int x7), (8, .int x8), (9, .int x9), (12, .int x12), (13, .int y639)]) C 10 [1, 2, 3, 4, 5, 6, 7, 8, 9, 10, 0] y639 dL_law_1152 rfl (by rw [ey639]; rfl) (by decide) rfl ?_
  refine V_goto (tgt := 1003) C dL_law_1155 (by decide) ?_
  exact hK1003 _ _ _ _ _ _ _ _ _ h
set_option maxHeartbeats 16000000 in
set_option maxRecDepth 100000 in
theorem q_L_law_1146 {X : vX} {G : vG}  {post : Unit} (C : v_Cx X G cL_law RL 26 room_1) (D : ∀ H locs ls, va_S (v_AA X) (v_s X).heap H locs → v_W X H locs (F0 (v_m X) 1565 ls [.int 1])) {L : Nat} {xs : Nat → Int32} (hX : v_XX G L xs)   {K91 : vSt → Int32 → Int32 → Int32 → Prop} (hK91 : ∀ S x4 x5 x6, K91 S x4 x5 x6 → VJ X G S 91 [(0, .ref (G.1 (145 + 99))), (1, .ref (G.1 0)), (3, .ref (G.1 144)), (4, .int x4), (5, .int x5), (6, .int x6)] []) {K1003 : vSt → Int32 → Int32 → Int32 → Int32 → Int32 → Int32 → Int32 → Int32 → Prop} (hK1003 : ∀ S x4 x5 x6 x7 x8 x9 x12 x13, K1003 S x4 x5 x6 x7 x8 x9 x12 x13 → VJ X G S 1003 [(0, .ref (G.1 (145 + 99))), (1, .ref (G.1 0)), (3, .ref (G.1 144)), (4, .int x4), (5, .int x5), (6, .int x6), (7, .int x7), (8, .int x8), (9, .int x9), (12, .int x12), (13, .int x13)] []) {K1098 : vSt → Int32 → Int32 → Int32 → Int32 → Int32 → Int32 → Int32 → Int32 → Int32 → Int64 → Int64 → Int32 → Prop} (hK1098 : ∀ S x4 x5 x6 x7 x8 x9 x12 x13 x14 x15 x17 x19, K1098 S x4 x5 x6 x7 x8 x9 x12 x13 x14 x15 x17 x19 → VJ X G S 1098 [(0, .ref (G.1 (145 + 99))), (1, .ref (G.1 0)), (3, .ref (G.1 144)), (4, .int x4), (5, .int x5), (6, .int x6), (7, .int x7), (8, .int x8), (9, .int x9), (12, .int x12), (13, .int x13), (14, .int x14), (15, .long x15), (17, .long x17), (19, .int x19)] []) : ∀ (S : vSt) (x4 : Int32) (x5 : Int32) (x6 : Int32) (x7 : Int32) (x8 : Int32) (x9 : Int32) (x12 : Int32) (x13 : Int32) (x14 : Int32) (x15 : Int64) (x17 : Int64) (x19 : Int32), p_L_law_1146 L xs K91 K1003 K1098 post S x4 x5 x6 x7 x8 x9 x12 x13 x14 x15 x17 x19 → VJ X G S 1146 [(0, .ref (G.1 (145 + 99))), (1, .ref (G.1 0)), (3, .ref (G.1 144)), (4, .int x4), (5, .int x5), (6, .int x6), (7, .int x7), (8, .int x8), (9, .int x9), (12, .int x12), (13, .int x13), (14, .int x14), (15, .long x15), (17, .long x17), (19, .int x19)] [] := by
  intro S x4 x5 x6 x7 x8 x9 x12 x13 x14 x15 x17 x19 h
  obtain ⟨y639, ey639⟩ : ∃ z : Int32, z = x19 + 1 := ⟨_, rfl⟩
  have h := h y639 ey639
  refine V_iinc (lv' := [(0, .ref (G.1 (145 + 99))), (1, .ref (G.1 0)), (3, .ref (G.1 144)), (4, .int x4), (5, .int x5), (6, .int x6), (7, .int x7), (8, .int x8), (9, .int x9), (12, .int x12), (13, .int x13), (14, .int x14), (15, .long x15), (17, .long x17), (19, .int y639)]) C 14 [1, 2, 3, 4, 5, 6, 7, 8, 9, 10, 11, 12, 13, 14, 0] y639 dL_law_1146 rfl (by rw [ey639]; rfl) (by decide) rfl ?_
  refine V_goto (tgt := 1098) C dL_law_1149 (by decide) ?_
  exact hK1098 _ _ _ _ _ _ _ _ _ _ _ _ _ h
set_option maxHeartbeats 16000000 in
set_option maxRecDepth 100000 in
theorem q_L_law_1098 {X : vX} {G : vG}  {post : Unit} (C : v_Cx X G cL_law RL 26 room_1) (D : ∀ H locs ls, va_S (v_AA X) (v_s X).heap H locs → v_W X H locs (F0 (v_m X) 1565 ls [.int 1])) {L : Nat} {xs : Nat → Int32} (hX : v_XX G L xs)   {K91 : vSt → Int32 → Int32 → Int32 → Prop} (hK91 : ∀ S x4 x5 x6, K91 S x4 x5 x6 → VJ X G S 91 [(0, .ref (G.1 (145 + 99))), (1, .ref (G.1 0)), (3, .ref (G.1 144)), (4, .int x4), (5, .int x5), (6, .int x6)] []) {K1003 : vSt → Int32 → Int32 → Int32 → Int32 → Int32 → Int32 → Int32 → Int32 → Prop} (hK1003 : ∀ S x4 x5 x6 x7 x8 x9 x12 x13, K1003 S x4 x5 x6 x7 x8 x9 x12 x13 → VJ X G S 1003 [(0, .ref (G.1 (145 + 99))), (1, .ref (G.1 0)), (3, .ref (G.1 144)), (4, .int x4), (5, .int x5), (6, .int x6), (7, .int x7), (8, .int x8), (9, .int x9), (12, .int x12), (13, .int x13)] []) : ∀ (fu : Nat) (S : vSt) (x4 : Int32) (x5 : Int32) (x6 : Int32) (x7 : Int32) (x8 : Int32) (x9 : Int32) (x12 : Int32) (x13 : Int32) (x14 : Int32) (x15 : Int64) (x17 : Int64) (x19 : Int32), p_L_law_1098 L xs K91 K1003 post fu S x4 x5 x6 x7 x8 x9 x12 x13 x14 x15 x17 x19 → VJ X G S 1098 [(0, .ref (G.1 (145 + 99))), (1, .ref (G.1 0)), (3, .ref (G.1 144)), (4, .int x4), (5, .int x5), (6, .int x6), (7, .int x7), (8, .int x8), (9, .int x9), (12, .int x12), (13, .int x13), (14, .int x14), (15, .long x15), (17, .long x17), (19, .int x19)] [] := by
  intro fu
  induction fu with
  | zero => intro S x4 x5 x6 x7 x8 x9 x12 x13 x14 x15 x17 x19 h; exact absurd h id
  | succ fu ih =>
    intro S x4 x5 x6 x7 x8 x9 x12 x13 x14 x15 x17 x19 h
    have hK1098 := ih
    rw [e_L_law_1098] at h
    refine V_iload C 14 dL_law_1098 rfl ?_
    refine V_aload_n C 2 dL_law_1100 rfl rfl ?_
    refine V_iconst (v := 0) C dL_law_1101 (by decide) ?_
    obtain ⟨hi, h⟩ := h
    refine V_iald C 144 29 (by decide) (by decide) hi dL_law_1102 ?_
    refine V_icmp_ge (tgt := 1152) C dL_law_1103 (by decide) (fun c => ?_) (fun c => ?_)
    · have h := h.1 c
      refine V_loc (lv' := [(0, .ref (G.1 (145 + 99))), (1, .ref (G.1 0)), (3, .ref (G.1 144)), (4, .int x4), (5, .int x5), (6, .int x6), (7, .int x7), (8, .int x8), (9, .int x9), (12, .int x12), (13, .int x13)]) [0, 1, 2, 3, 4, 5, 6, 7, 8, 9, 10] rfl ?_
      exact q_L_law_1152 C D hX hK91 hK1003 _ _ _ _ _ _ _ _ _ h
    · have h := h.2 c
      refine V_iload C 11 dL_law_1106 rfl ?_
      refine V_iload C 14 dL_law_1108 rfl ?_
      refine V_ishr C dL_law_1110 ?_
      refine V_iconst (v := 1) C dL_law_1111 (by decide) ?_
      refine V_iand C dL_law_1112 ?_
      refine V_iconst (v := 1) C dL_law_1113 (by decide) ?_
      refine V_icmp_ne (tgt := 1146) C dL_law_1114 (by decide) (fun c => ?_) (fun c => ?_)
      · have h := h.1 c
        exact q_L_law_1146 C D hX hK91 hK1003 hK1098 _ _ _ _ _ _ _ _ _ _ _ _ _ h
      · have h := h.2 c
        refine V_aload_n C 1 dL_law_1117 rfl rfl ?_
        refine V_iload C 14 dL_law_1118 rfl ?_
        refine V_callVz (As := [.int x19]) (rest := []) C (c_X10_dread (v_l X) G  _ _ h) 0 10 (by decide) (by decide) (by decide) rfl KV_X10_dread k_RL_188 rfl rfl rfl (Nat.le_of_ble_eq_true rfl) ⟨by decide, by decide⟩ dL_law_1120 (fun r640 S639 h => ?_)
        refine V_ifb_eq (tgt := 1144) C dL_law_1123 (by decide) (fun c => ?_) (fun c => ?_)
        · have h := h.1 c
          refine V_iconst (v := 0) C dL_law_1144 (by decide) ?_
          exact h.elim
        · have h := h.2 c
          refine V_aload_n C 1 dL_law_1126 rfl rfl ?_
          refine V_callVl (As := []) (rest := []) C (c_X10_top (v_l X) G  _ h) 0 10 (by decide) (by decide) (by decide) rfl KV_X10_top k_RL_109 rfl rfl rfl (Nat.le_of_ble_eq_true rfl) ⟨by decide, by decide⟩ dL_law_1127 (fun r642 S641 h => ?_)
          refine V_lload C 13 dL_law_1130 rfl ?_
          refine V_lmul C dL_law_1132 ?_
          refine V_lload C 12 dL_law_1133 rfl ?_
          refine V_aload_n C 1 dL_law_1135 rfl rfl ?_
          refine V_callVl (As := []) (rest := [.long x15, .long (r642 * x17)]) C (c_X10_bottom (v_l X) G  _ h) 0 10 (by decide) (by decide) (by decide) rfl KV_X10_bottom k_RL_105 rfl rfl rfl (Nat.le_of_ble_eq_true rfl) ⟨by decide, by decide⟩ dL_law_1136 (fun r644 S643 h => ?_)
          refine V_lmul C dL_law_1139 ?_
          refine V_lcmp_ge (tgt := 1146) C dL_law_1140 dL_law_1141 (by decide) (fun c => ?_) (fun c => ?_)
          · have h := h.1 c
            exact q_L_law_1146 C D hX hK91 hK1003 hK1098 _ _ _ _ _ _ _ _ _ _ _ _ _ h
          · have h := h.2 c
            refine V_iconst (v := 0) C dL_law_1144 (by decide) ?_
            exact h.elim
set_option maxHeartbeats 16000000 in
set_option maxRecDepth 100000 in
theorem q_L_law_1059 {X : vX} {G : vG}  {post : Unit} (C : v_Cx X G cL_law RL 26 room_1) (D : ∀ H locs ls, va_S (v_AA X) (v_s X).heap H locs → v_W X H locs (F0 (v_m X) 1565 ls [.int 1])) {L : Nat} {xs : Nat → Int32} (hX : v_XX G L xs)   {K91 : vSt → Int32 → Int32 → Int32 → Prop} (hK91 : ∀ S x4 x5 x6, K91 S x4 x5 x6 → VJ X G S 91 [(0, .ref (G.1 (145 + 99))), (1, .ref (G.1 0)), (3, .ref (G.1 144)), (4, .int x4), (5, .int x5), (6, .int x6)] []) {K1003 : vSt → Int32 → Int32 → Int32 → Int32 → Int32 → Int32 → Int32 → Int32 → Prop} (hK1003 : ∀ S x4 x5 x6 x7 x8 x9 x12 x13, K1003 S x4 x5 x6 x7 x8 x9 x12 x13 → VJ X G S 1003 [(0, .ref (G.1 (145 + 99))), (1, .ref (G.1 0)), (3, .ref (G.1 144)), (4, .int x4), (5, .int x5), (6, .int x6), (7, .int x7), (8, .int x8), (9, .int x9), (12, .int x12), (13, .int x13)] []) : ∀ (S : vSt) (x4 : Int32) (x5 : Int32) (x6 : Int32) (x7 : Int32) (x8 : Int32) (x9 : Int32) (x12 : Int32) (x13 : Int32) (x14 : Int32) (s0 : Bool) (s1 : Bool), p_L_law_1059 L xs K91 K1003 post S x4 x5 x6 x7 x8 x9 x12 x13 x14 s0 s1 → VJ X G S 1059 [(0, .ref (G.1 (145 + 99))), (1, .ref (G.1 0)), (3, .ref (G.1 144)), (4, .int x4), (5, .int x5), (6, .int x6), (7, .int x7), (8, .int x8), (9, .int x9), (12, .int x12), (13, .int x13), (14, .int x14)] [.int (v_b s0), .int (v_b s1)] := by
  intro S x4 x5 x6 x7 x8 x9 x12 x13 x14 s0 s1 h
  refine V_icmp_eq (tgt := 1064) C dL_law_1059 (by decide) (fun c => ?_) (fun c => ?_)
  · have h := h.1 c
    refine V_iload C 11 dL_law_1064 rfl ?_
    refine V_if_ne (tgt := 1072) C dL_law_1066 (by decide) (fun c => ?_) (fun c => ?_)
    · have h := h.1 c
      refine V_aload_n C 1 dL_law_1072 rfl rfl ?_
      refine V_iload C 11 dL_law_1073 rfl ?_
      refine V_callVz (As := [.int x14]) (rest := []) C (c_X10_clubPart (v_l X) G  _ _ h) 0 10 (by decide) (by decide) (by decide) rfl KV_X10_clubPart k_RL_195 rfl rfl rfl (Nat.le_of_ble_eq_true rfl) ⟨by decide, by decide⟩ dL_law_1075 (fun r634 S633 h => ?_)
      refine V_ifb_ne (tgt := 1083) C dL_law_1078 (by decide) (fun c => ?_) (fun c => ?_)
      · have h := h.1 c
        refine V_aload_n C 1 dL_law_1083 rfl rfl ?_
        refine V_callVl (As := []) (rest := []) C (c_X10_top (v_l X) G  _ h) 0 10 (by decide) (by decide) (by decide) rfl KV_X10_top k_RL_109 rfl rfl rfl (Nat.le_of_ble_eq_true rfl) ⟨by decide, by decide⟩ dL_law_1084 (fun r636 S635 h => ?_)
        refine V_lstore (lv' := [(0, .ref (G.1 (145 + 99))), (1, .ref (G.1 0)), (3, .ref (G.1 144)), (4, .int x4), (5, .int x5), (6, .int x6), (7, .int x7), (8, .int x8), (9, .int x9), (12, .int x12), (13, .int x13), (14, .int x14), (15, .long r636)]) C [1, 2, 3, 4, 5, 6, 7, 8, 9, 10, 11, 12, 0] dL_law_1087 (by decide) rfl ?_
        refine V_aload_n C 1 dL_law_1089 rfl rfl ?_
        refine V_callVl (As := []) (rest := []) C (c_X10_bottom (v_l X) G  _ h) 0 10 (by decide) (by decide) (by decide) rfl KV_X10_bottom k_RL_105 rfl rfl rfl (Nat.le_of_ble_eq_true rfl) ⟨by decide, by decide⟩ dL_law_1090 (fun r638 S637 h => ?_)
        refine V_lstore (lv' := [(0, .ref (G.1 (145 + 99))), (1, .ref (G.1 0)), (3, .ref (G.1 144)), (4, .int x4), (5, .int x5), (6, .int x6), (7, .int x7), (8, .int x8), (9, .int x9), (12, .int x12), (13, .int x13), (14, .int x14), (15, .long r636), (17, .long r638)]) C [1, 2, 3, 4, 5, 6, 7, 8, 9, 10, 11, 12, 13, 0] dL_law_1093 (by decide) rfl ?_
        refine V_iconst (v := 0) C dL_law_1095 (by decide) ?_
        refine V_istore (lv' := [(0, .ref (G.1 (145 + 99))), (1, .ref (G.1 0)), (3, .ref (G.1 144)), (4, .int x4), (5, .int x5), (6, .int x6), (7, .int x7), (8, .int x8), (9, .int x9), (12, .int x12), (13, .int x13), (14, .int x14), (15, .long r636), (17, .long r638), (19, .int 0)]) C [1, 2, 3, 4, 5, 6, 7, 8, 9, 10, 11, 12, 13, 14, 0] dL_law_1096 (by decide) rfl ?_
        obtain ⟨fu1098, h⟩ := h
        exact q_L_law_1098 C D hX hK91 hK1003 fu1098 _ _ _ _ _ _ _ _ _ _ _ _ _ h
      · have h := h.2 c
        refine V_iconst (v := 0) C dL_law_1081 (by decide) ?_
        exact h.elim
    · have h := h.2 c
      refine V_goto (tgt := 1152) C dL_law_1069 (by decide) ?_
      refine V_loc (lv' := [(0, .ref (G.1 (145 + 99))), (1, .ref (G.1 0)), (3, .ref (G.1 144)), (4, .int x4), (5, .int x5), (6, .int x6), (7, .int x7), (8, .int x8), (9, .int x9), (12, .int x12), (13, .int x13)]) [0, 1, 2, 3, 4, 5, 6, 7, 8, 9, 10] rfl ?_
      exact q_L_law_1152 C D hX hK91 hK1003 _ _ _ _ _ _ _ _ _ h
  · have h := h.2 c
    refine V_iconst (v := 0) C dL_law_1062 (by decide) ?_
    exact h.elim
set_option maxHeartbeats 16000000 in
set_option maxRecDepth 100000 in
theorem q_L_law_1049 {X : vX} {G : vG}  {post : Unit} (C : v_Cx X G cL_law RL 26 room_1) (D : ∀ H locs ls, va_S (v_AA X) (v_s X).heap H locs → v_W X H locs (F0 (v_m X) 1565 ls [.int 1])) {L : Nat} {xs : Nat → Int32} (hX : v_XX G L xs)   {K91 : vSt → Int32 → Int32 → Int32 → Prop} (hK91 : ∀ S x4 x5 x6, K91 S x4 x5 x6 → VJ X G S 91 [(0, .ref (G.1 (145 + 99))), (1, .ref (G.1 0)), (3, .ref (G.1 144)), (4, .int x4), (5, .int x5), (6, .int x6)] []) {K1003 : vSt → Int32 → Int32 → Int32 → Int32 → Int32 → Int32 → Int32 → Int32 → Prop} (hK1003 : ∀ S x4 x5 x6 x7 x8 x9 x12 x13, K1003 S x4 x5 x6 x7 x8 x9 x12 x13 → VJ X G S 1003 [(0, .ref (G.1 (145 + 99))), (1, .ref (G.1 0)), (3, .ref (G.1 144)), (4, .int x4), (5, .int x5), (6, .int x6), (7, .int x7), (8, .int x8), (9, .int x9), (12, .int x12), (13, .int x13)] []) : ∀ (S : vSt) (x4 : Int32) (x5 : Int32) (x6 : Int32) (x7 : Int32) (x8 : Int32) (x9 : Int32) (x12 : Int32) (x13 : Int32) (x14 : Int32) (s0 : Bool), p_L_law_1049 L xs K91 K1003 post S x4 x5 x6 x7 x8 x9 x12 x13 x14 s0 → VJ X G S 1049 [(0, .ref (G.1 (145 + 99))), (1, .ref (G.1 0)), (3, .ref (G.1 144)), (4, .int x4), (5, .int x5), (6, .int x6), (7, .int x7), (8, .int x8), (9, .int x9), (12, .int x12), (13, .int x13), (14, .int x14)] [.int (v_b s0)] := by
  intro S x4 x5 x6 x7 x8 x9 x12 x13 x14 s0 h
  refine V_iload C 10 dL_law_1049 rfl ?_
  refine V_if_ne (tgt := 1058) C dL_law_1051 (by decide) (fun c => ?_) (fun c => ?_)
  · have h := h.1 c
    refine V_iconst (v := 0) C dL_law_1058 (by decide) ?_
    exact q_L_law_1059 C D hX hK91 hK1003 _ _ _ _ _ _ _ _ _ _ _ _ h
  · have h := h.2 c
    refine V_iconst (v := 1) C dL_law_1054 (by decide) ?_
    refine V_goto (tgt := 1059) C dL_law_1055 (by decide) ?_
    exact q_L_law_1059 C D hX hK91 hK1003 _ _ _ _ _ _ _ _ _ _ _ _ h
set_option maxHeartbeats 16000000 in
set_option maxRecDepth 100000 in
theorem q_L_law_1003 {X : vX} {G : vG}  {post : Unit} (C : v_Cx X G cL_law RL 26 room_1) (D : ∀ H locs ls, va_S (v_AA X) (v_s X).heap H locs → v_W X H locs (F0 (v_m X) 1565 ls [.int 1])) {L : Nat} {xs : Nat → Int32} (hX : v_XX G L xs)   {K91 : vSt → Int32 → Int32 → Int32 → Prop} (hK91 : ∀ S x4 x5 x6, K91 S x4 x5 x6 → VJ X G S 91 [(0, .ref (G.1 (145 + 99))), (1, .ref (G.1 0)), (3, .ref (G.1 144)), (4, .int x4), (5, .int x5), (6, .int x6)] []) : ∀ (fu : Nat) (S : vSt) (x4 : Int32) (x5 : Int32) (x6 : Int32) (x7 : Int32) (x8 : Int32) (x9 : Int32) (x12 : Int32) (x13 : Int32), p_L_law_1003 L xs K91 post fu S x4 x5 x6 x7 x8 x9 x12 x13 → VJ X G S 1003 [(0, .ref (G.1 (145 + 99))), (1, .ref (G.1 0)), (3, .ref (G.1 144)), (4, .int x4), (5, .int x5), (6, .int x6), (7, .int x7), (8, .int x8), (9, .int x9), (12, .int x12), (13, .int x13)] [] := by
  intro fu
  induction fu with
  | zero => intro S x4 x5 x6 x7 x8 x9 x12 x13 h; exact absurd h id
  | succ fu ih =>
    intro S x4 x5 x6 x7 x8 x9 x12 x13 h
    have hK1003 := ih
    rw [e_L_law_1003] at h
    refine V_iload C 10 dL_law_1003 rfl ?_
    refine V_iload C 9 dL_law_1005 rfl ?_
    refine V_icmp_gt (tgt := 1158) C dL_law_1007 (by decide) (fun c => ?_) (fun c => ?_)
    · have h := h.1 c
      refine V_aload_n C 2 dL_law_1158 rfl rfl ?_
      refine V_iconst (v := 0) C dL_law_1159 (by decide) ?_
      obtain ⟨hi, h⟩ := h
      refine V_iald C 144 29 (by decide) (by decide) hi dL_law_1160 ?_
      refine V_iconst (v := 1) C dL_law_1161 (by decide) ?_
      refine V_icmp_le (tgt := 1276) C dL_law_1162 (by decide) (fun c => ?_) (fun c => ?_)
      · have h := h.1 c
        refine V_loc (lv' := [(0, .ref (G.1 (145 + 99))), (1, .ref (G.1 0)), (3, .ref (G.1 144)), (4, .int x4), (5, .int x5), (6, .int x6), (7, .int x7), (8, .int x8), (9, .int x9)]) [0, 1, 2, 3, 4, 5, 6, 7, 8] rfl ?_
        exact q_L_law_1276 C D hX hK91 _ _ _ _ _ _ _ h
      · have h := h.2 c
        refine V_aload_n C 1 dL_law_1165 rfl rfl ?_
        refine V_iconst (v := 0) C dL_law_1166 (by decide) ?_
        refine V_iconst (v := 1) C dL_law_1167 (by decide) ?_
        refine V_iconst (v := 1) C dL_law_1168 (by decide) ?_
        refine V_callVz (As := [.int 0, .int 1, .int 1]) (rest := []) C (c_X10_game (v_l X) G  _ _ _ _ h) 0 10 (by decide) (by decide) (by decide) rfl KV_X10_game k_RL_198 rfl rfl rfl (Nat.le_of_ble_eq_true rfl) ⟨by decide, by decide⟩ dL_law_1169 (fun r622 S621 h => ?_)
        refine V_ifb_ne (tgt := 1177) C dL_law_1172 (by decide) (fun c => ?_) (fun c => ?_)
        · have h := h.1 c
          refine V_aload_n C 1 dL_law_1177 rfl rfl ?_
          refine V_callVl (As := []) (rest := []) C (c_X10_top (v_l X) G  _ h) 0 10 (by decide) (by decide) (by decide) rfl KV_X10_top k_RL_109 rfl rfl rfl (Nat.le_of_ble_eq_true rfl) ⟨by decide, by decide⟩ dL_law_1178 (fun r624 S623 h => ?_)
          refine V_lstore (lv' := [(0, .ref (G.1 (145 + 99))), (1, .ref (G.1 0)), (3, .ref (G.1 144)), (4, .int x4), (5, .int x5), (6, .int x6), (7, .int x7), (8, .int x8), (9, .int x9), (12, .int x12), (13, .long r624)]) C [1, 2, 3, 4, 5, 6, 7, 8, 9, 10, 0] dL_law_1181 (by decide) rfl ?_
          refine V_aload_n C 1 dL_law_1183 rfl rfl ?_
          refine V_callVl (As := []) (rest := []) C (c_X10_bottom (v_l X) G  _ h) 0 10 (by decide) (by decide) (by decide) rfl KV_X10_bottom k_RL_105 rfl rfl rfl (Nat.le_of_ble_eq_true rfl) ⟨by decide, by decide⟩ dL_law_1184 (fun r626 S625 h => ?_)
          refine V_lstore (lv' := [(0, .ref (G.1 (145 + 99))), (1, .ref (G.1 0)), (3, .ref (G.1 144)), (4, .int x4), (5, .int x5), (6, .int x6), (7, .int x7), (8, .int x8), (9, .int x9), (12, .int x12), (13, .long r624), (15, .long r626)]) C [1, 2, 3, 4, 5, 6, 7, 8, 9, 10, 11, 0] dL_law_1187 (by decide) rfl ?_
          refine V_aload_n C 1 dL_law_1189 rfl rfl ?_
          refine V_iconst (v := 0) C dL_law_1190 (by decide) ?_
          refine V_iconst (v := 1) C dL_law_1191 (by decide) ?_
          refine V_iconst (v := 1) C dL_law_1192 (by decide) ?_
          refine V_callVi (As := [.int 0, .int 1, .int 1]) (rest := []) C (c_X10_moveOf (v_l X) G  _ _ _ _ h) 0 10 (by decide) (by decide) (by decide) rfl KV_X10_moveOf k_RL_202 rfl rfl rfl (Nat.le_of_ble_eq_true rfl) ⟨by decide, by decide⟩ dL_law_1193 (fun r628 S627 h => ?_)
          refine V_istore (lv' := [(0, .ref (G.1 (145 + 99))), (1, .ref (G.1 0)), (3, .ref (G.1 144)), (4, .int x4), (5, .int x5), (6, .int x6), (7, .int x7), (8, .int x8), (9, .int x9), (12, .int x12), (13, .long r624), (15, .long r626), (17, .int r628)]) C [1, 2, 3, 4, 5, 6, 7, 8, 9, 10, 11, 12, 0] dL_law_1196 (by decide) rfl ?_
          refine V_lload C 10 dL_law_1198 rfl ?_
          refine V_lconst (v := 0) C dL_law_1200 (by decide) ?_
          refine V_lcmp_lt (tgt := 1244) C dL_law_1201 dL_law_1202 (by decide) (fun c => ?_) (fun c => ?_)
          · have h := h.1 c
            refine V_iconst (v := 0) C dL_law_1244 (by decide) ?_
            exact h.elim
          · have h := h.2 c
            refine V_lload C 10 dL_law_1205 rfl ?_
            refine V_lconst (v := 0) C dL_law_1207 (by decide) ?_
            refine V_lcmp_le (tgt := 1217) C dL_law_1208 dL_law_1209 (by decide) (fun c => ?_) (fun c => ?_)
            · have h := h.1 c
              refine V_loc (lv' := [(0, .ref (G.1 (145 + 99))), (1, .ref (G.1 0)), (3, .ref (G.1 144)), (4, .int x4), (5, .int x5), (6, .int x6), (7, .int x7), (8, .int x8), (9, .int x9), (13, .long r624), (15, .long r626), (17, .int r628)]) [0, 1, 2, 3, 4, 5, 6, 7, 8, 10, 11, 12] rfl ?_
              exact q_L_law_1217 C D hX hK91 _ _ _ _ _ _ _ _ _ _ h
            · have h := h.2 c
              refine V_iload C 12 dL_law_1212 rfl ?_
              refine V_if_lt (tgt := 1244) C dL_law_1214 (by decide) (fun c => ?_) (fun c => ?_)
              · have h := h.1 c
                refine V_iconst (v := 0) C dL_law_1244 (by decide) ?_
                exact h.elim
              · have h := h.2 c
                refine V_loc (lv' := [(0, .ref (G.1 (145 + 99))), (1, .ref (G.1 0)), (3, .ref (G.1 144)), (4, .int x4), (5, .int x5), (6, .int x6), (7, .int x7), (8, .int x8), (9, .int x9), (13, .long r624), (15, .long r626), (17, .int r628)]) [0, 1, 2, 3, 4, 5, 6, 7, 8, 10, 11, 12] rfl ?_
                exact q_L_law_1217 C D hX hK91 _ _ _ _ _ _ _ _ _ _ h
        · have h := h.2 c
          refine V_iconst (v := 0) C dL_law_1175 (by decide) ?_
          exact h.elim
    · have h := h.2 c
      refine V_aload_n C 1 dL_law_1010 rfl rfl ?_
      refine V_iload C 10 dL_law_1011 rfl ?_
      refine V_callVi (As := [.int x13]) (rest := []) C (c_X10_club (v_l X) G  _ _ h) 0 10 (by decide) (by decide) (by decide) rfl KV_X10_club k_RL_192 rfl rfl rfl (Nat.le_of_ble_eq_true rfl) ⟨by decide, by decide⟩ dL_law_1013 (fun r630 S629 h => ?_)
      refine V_istore (lv' := [(0, .ref (G.1 (145 + 99))), (1, .ref (G.1 0)), (3, .ref (G.1 144)), (4, .int x4), (5, .int x5), (6, .int x6), (7, .int x7), (8, .int x8), (9, .int x9), (12, .int x12), (13, .int x13), (14, .int r630)]) C [1, 2, 3, 4, 5, 6, 7, 8, 9, 10, 11, 0] dL_law_1016 (by decide) rfl ?_
      refine V_iload C 11 dL_law_1018 rfl ?_
      refine V_iload C 10 dL_law_1020 rfl ?_
      refine V_iconst (v := (-1)) C dL_law_1022 (by decide) ?_
      refine V_ixor C dL_law_1023 ?_
      refine V_iand C dL_law_1024 ?_
      refine V_if_ne (tgt := 1062) C dL_law_1025 (by decide) (fun c => ?_) (fun c => ?_)
      · have h := h.1 c
        refine V_iconst (v := 0) C dL_law_1062 (by decide) ?_
        exact h.elim
      · have h := h.2 c
        refine V_aload_n C 1 dL_law_1028 rfl rfl ?_
        refine V_iload C 11 dL_law_1029 rfl ?_
        refine V_callVi (As := [.int r630]) (rest := []) C (c_X10_club (v_l X) G  _ _ h) 0 10 (by decide) (by decide) (by decide) rfl KV_X10_club k_RL_192 rfl rfl rfl (Nat.le_of_ble_eq_true rfl) ⟨by decide, by decide⟩ dL_law_1031 (fun r632 S631 h => ?_)
        refine V_iload C 11 dL_law_1034 rfl ?_
        refine V_icmp_ne (tgt := 1062) C dL_law_1036 (by decide) (fun c => ?_) (fun c => ?_)
        · have h := h.1 c
          refine V_iconst (v := 0) C dL_law_1062 (by decide) ?_
          exact h.elim
        · have h := h.2 c
          refine V_iload C 11 dL_law_1039 rfl ?_
          refine V_if_ne (tgt := 1048) C dL_law_1041 (by decide) (fun c => ?_) (fun c => ?_)
          · have h := h.1 c
            refine V_iconst (v := 0) C dL_law_1048 (by decide) ?_
            exact q_L_law_1049 C D hX hK91 hK1003 _ _ _ _ _ _ _ _ _ _ _ h
          · have h := h.2 c
            refine V_iconst (v := 1) C dL_law_1044 (by decide) ?_
            refine V_goto (tgt := 1049) C dL_law_1045 (by decide) ?_
            exact q_L_law_1049 C D hX hK91 hK1003 _ _ _ _ _ _ _ _ _ _ _ h
set_option maxHeartbeats 16000000 in
set_option maxRecDepth 100000 in
theorem q_L_law_985 {X : vX} {G : vG}  {post : Unit} (C : v_Cx X G cL_law RL 26 room_1) (D : ∀ H locs ls, va_S (v_AA X) (v_s X).heap H locs → v_W X H locs (F0 (v_m X) 1565 ls [.int 1])) {L : Nat} {xs : Nat → Int32} (hX : v_XX G L xs)   {K91 : vSt → Int32 → Int32 → Int32 → Prop} (hK91 : ∀ S x4 x5 x6, K91 S x4 x5 x6 → VJ X G S 91 [(0, .ref (G.1 (145 + 99))), (1, .ref (G.1 0)), (3, .ref (G.1 144)), (4, .int x4), (5, .int x5), (6, .int x6)] []) {K687 : vSt → Int32 → Int32 → Int32 → Int32 → Int32 → Int32 → Int32 → Int32 → Prop} (hK687 : ∀ S x4 x5 x6 x7 x8 x9 x11 x12, K687 S x4 x5 x6 x7 x8 x9 x11 x12 → VJ X G S 687 [(0, .ref (G.1 (145 + 99))), (1, .ref (G.1 0)), (3, .ref (G.1 144)), (4, .int x4), (5, .int x5), (6, .int x6), (7, .int x7), (8, .int x8), (9, .int x9), (11, .int x11), (12, .int x12)] []) : ∀ (S : vSt) (x4 : Int32) (x5 : Int32) (x6 : Int32) (x7 : Int32) (x8 : Int32) (x9 : Int32) (x11 : Int32) (x12 : Int32), p_L_law_985 L xs K91 K687 post S x4 x5 x6 x7 x8 x9 x11 x12 → VJ X G S 985 [(0, .ref (G.1 (145 + 99))), (1, .ref (G.1 0)), (3, .ref (G.1 144)), (4, .int x4), (5, .int x5), (6, .int x6), (7, .int x7), (8, .int x8), (9, .int x9), (11, .int x11), (12, .int x12)] [] := by
  intro S x4 x5 x6 x7 x8 x9 x11 x12 h
  obtain ⟨y655, ey655⟩ : ∃ z : Int32, z = x12 + 1 := ⟨_, rfl⟩
  have h := h y655 ey655
  refine V_iinc (lv' := [(0, .ref (G.1 (145 + 99))), (1, .ref (G.1 0)), (3, .ref (G.1 144)), (4, .int x4), (5, .int x5), (6, .int x6), (7, .int x7), (8, .int x8), (9, .int x9), (11, .int x11), (12, .int y655)]) C 10 [1, 2, 3, 4, 5, 6, 7, 8, 9, 10, 0] y655 dL_law_985 rfl (by rw [ey655]; rfl) (by decide) rfl ?_
  refine V_goto (tgt := 687) C dL_law_988 (by decide) ?_
  exact hK687 _ _ _ _ _ _ _ _ _ h
set_option maxHeartbeats 16000000 in
set_option maxRecDepth 100000 in
theorem q_L_law_953 {X : vX} {G : vG}  {post : Unit} (C : v_Cx X G cL_law RL 26 room_1) (D : ∀ H locs ls, va_S (v_AA X) (v_s X).heap H locs → v_W X H locs (F0 (v_m X) 1565 ls [.int 1])) {L : Nat} {xs : Nat → Int32} (hX : v_XX G L xs)   {K91 : vSt → Int32 → Int32 → Int32 → Prop} (hK91 : ∀ S x4 x5 x6, K91 S x4 x5 x6 → VJ X G S 91 [(0, .ref (G.1 (145 + 99))), (1, .ref (G.1 0)), (3, .ref (G.1 144)), (4, .int x4), (5, .int x5), (6, .int x6)] []) {K687 : vSt → Int32 → Int32 → Int32 → Int32 → Int32 → Int32 → Int32 → Int32 → Prop} (hK687 : ∀ S x4 x5 x6 x7 x8 x9 x11 x12, K687 S x4 x5 x6 x7 x8 x9 x11 x12 → VJ X G S 687 [(0, .ref (G.1 (145 + 99))), (1, .ref (G.1 0)), (3, .ref (G.1 144)), (4, .int x4), (5, .int x5), (6, .int x6), (7, .int x7), (8, .int x8), (9, .int x9), (11, .int x11), (12, .int x12)] []) : ∀ (S : vSt) (x4 : Int32) (x5 : Int32) (x6 : Int32) (x7 : Int32) (x8 : Int32) (x9 : Int32) (x11 : Int32) (x12 : Int32) (x18 : Int32) (s0 : Bool) (s1 : Bool), p_L_law_953 L xs K91 K687 post S x4 x5 x6 x7 x8 x9 x11 x12 x18 s0 s1 → VJ X G S 953 [(0, .ref (G.1 (145 + 99))), (1, .ref (G.1 0)), (3, .ref (G.1 144)), (4, .int x4), (5, .int x5), (6, .int x6), (7, .int x7), (8, .int x8), (9, .int x9), (11, .int x11), (12, .int x12), (18, .int x18)] [.int (v_b s0), .int (v_b s1)] := by
  intro S x4 x5 x6 x7 x8 x9 x11 x12 x18 s0 s1 h
  refine V_icmp_ne (tgt := 983) C dL_law_953 (by decide) (fun c => ?_) (fun c => ?_)
  · have h := h.1 c
    refine V_iconst (v := 0) C dL_law_983 (by decide) ?_
    exact h.elim
  · have h := h.2 c
    refine V_iload C 11 dL_law_956 rfl ?_
    refine V_if_lt (tgt := 985) C dL_law_958 (by decide) (fun c => ?_) (fun c => ?_)
    · have h := h.1 c
      refine V_loc (lv' := [(0, .ref (G.1 (145 + 99))), (1, .ref (G.1 0)), (3, .ref (G.1 144)), (4, .int x4), (5, .int x5), (6, .int x6), (7, .int x7), (8, .int x8), (9, .int x9), (11, .int x11), (12, .int x12)]) [0, 1, 2, 3, 4, 5, 6, 7, 8, 9, 10] rfl ?_
      exact q_L_law_985 C D hX hK91 hK687 _ _ _ _ _ _ _ _ _ h
    · have h := h.2 c
      refine V_aload_n C 1 dL_law_961 rfl rfl ?_
      refine V_iload C 11 dL_law_962 rfl ?_
      refine V_iconst (v := 0) C dL_law_964 (by decide) ?_
      refine V_callVi (As := [.int x18, .int 0]) (rest := []) C (c_X10_deed (v_l X) G  _ _ _ h) 0 10 (by decide) (by decide) (by decide) rfl KV_X10_deed k_RL_145 rfl rfl rfl (Nat.le_of_ble_eq_true rfl) ⟨by decide, by decide⟩ dL_law_965 (fun r656 S655 h => ?_)
      refine V_iload C 10 dL_law_968 rfl ?_
      refine V_icmp_ne (tgt := 983) C dL_law_970 (by decide) (fun c => ?_) (fun c => ?_)
      · have h := h.1 c
        refine V_iconst (v := 0) C dL_law_983 (by decide) ?_
        exact h.elim
      · have h := h.2 c
        refine V_iload C 9 dL_law_973 rfl ?_
        refine V_iload C 11 dL_law_975 rfl ?_
        refine V_ishr C dL_law_977 ?_
        refine V_iconst (v := 1) C dL_law_978 (by decide) ?_
        refine V_iand C dL_law_979 ?_
        refine V_if_ne (tgt := 985) C dL_law_980 (by decide) (fun c => ?_) (fun c => ?_)
        · have h := h.1 c
          refine V_loc (lv' := [(0, .ref (G.1 (145 + 99))), (1, .ref (G.1 0)), (3, .ref (G.1 144)), (4, .int x4), (5, .int x5), (6, .int x6), (7, .int x7), (8, .int x8), (9, .int x9), (11, .int x11), (12, .int x12)]) [0, 1, 2, 3, 4, 5, 6, 7, 8, 9, 10] rfl ?_
          exact q_L_law_985 C D hX hK91 hK687 _ _ _ _ _ _ _ _ _ h
        · have h := h.2 c
          refine V_iconst (v := 0) C dL_law_983 (by decide) ?_
          exact h.elim
set_option maxHeartbeats 16000000 in
set_option maxRecDepth 100000 in
theorem q_L_law_939 {X : vX} {G : vG}  {post : Unit} (C : v_Cx X G cL_law RL 26 room_1) (D : ∀ H locs ls, va_S (v_AA X) (v_s X).heap H locs → v_W X H locs (F0 (v_m X) 1565 ls [.int 1])) {L : Nat} {xs : Nat → Int32} (hX : v_XX G L xs)   {K91 : vSt → Int32 → Int32 → Int32 → Prop} (hK91 : ∀ S x4 x5 x6, K91 S x4 x5 x6 → VJ X G S 91 [(0, .ref (G.1 (145 + 99))), (1, .ref (G.1 0)), (3, .ref (G.1 144)), (4, .int x4), (5, .int x5), (6, .int x6)] []) {K687 : vSt → Int32 → Int32 → Int32 → Int32 → Int32 → Int32 → Int32 → Int32 → Prop} (hK687 : ∀ S x4 x5 x6 x7 x8 x9 x11 x12, K687 S x4 x5 x6 x7 x8 x9 x11 x12 → VJ X G S 687 [(0, .ref (G.1 (145 + 99))), (1, .ref (G.1 0)), (3, .ref (G.1 144)), (4, .int x4), (5, .int x5), (6, .int x6), (7, .int x7), (8, .int x8), (9, .int x9), (11, .int x11), (12, .int x12)] []) : ∀ (S : vSt) (x4 : Int32) (x5 : Int32) (x6 : Int32) (x7 : Int32) (x8 : Int32) (x9 : Int32) (x11 : Int32) (x12 : Int32) (x18 : Int32) (s0 : Bool), p_L_law_939 L xs K91 K687 post S x4 x5 x6 x7 x8 x9 x11 x12 x18 s0 → VJ X G S 939 [(0, .ref (G.1 (145 + 99))), (1, .ref (G.1 0)), (3, .ref (G.1 144)), (4, .int x4), (5, .int x5), (6, .int x6), (7, .int x7), (8, .int x8), (9, .int x9), (11, .int x11), (12, .int x12), (18, .int x18)] [.int (v_b s0)] := by
  intro S x4 x5 x6 x7 x8 x9 x11 x12 x18 s0 h
  refine V_aload_n C 1 dL_law_939 rfl rfl ?_
  refine V_callVl (As := []) (rest := [.int (v_b s0)]) C (c_X10_top (v_l X) G  _ h) 0 10 (by decide) (by decide) (by decide) rfl KV_X10_top k_RL_109 rfl rfl rfl (Nat.le_of_ble_eq_true rfl) ⟨by decide, by decide⟩ dL_law_940 (fun r654 S653 h => ?_)
  refine V_lconst (v := 0) C dL_law_943 (by decide) ?_
  refine V_lcmp_le (tgt := 952) C dL_law_944 dL_law_945 (by decide) (fun c => ?_) (fun c => ?_)
  · have h := h.1 c
    refine V_iconst (v := 0) C dL_law_952 (by decide) ?_
    exact q_L_law_953 C D hX hK91 hK687 _ _ _ _ _ _ _ _ _ _ _ _ h
  · have h := h.2 c
    refine V_iconst (v := 1) C dL_law_948 (by decide) ?_
    refine V_goto (tgt := 953) C dL_law_949 (by decide) ?_
    exact q_L_law_953 C D hX hK91 hK687 _ _ _ _ _ _ _ _ _ _ _ _ h
set_option maxHeartbeats 16000000 in
set_option maxRecDepth 100000 in
theorem q_L_law_802 {X : vX} {G : vG}  {post : Unit} (C : v_Cx X G cL_law RL 26 room_1) (D : ∀ H locs ls, va_S (v_AA X) (v_s X).heap H locs → v_W X H locs (F0 (v_m X) 1565 ls [.int 1])) {L : Nat} {xs : Nat → Int32} (hX : v_XX G L xs)   {K91 : vSt → Int32 → Int32 → Int32 → Prop} (hK91 : ∀ S x4 x5 x6, K91 S x4 x5 x6 → VJ X G S 91 [(0, .ref (G.1 (145 + 99))), (1, .ref (G.1 0)), (3, .ref (G.1 144)), (4, .int x4), (5, .int x5), (6, .int x6)] []) {K687 : vSt → Int32 → Int32 → Int32 → Int32 → Int32 → Int32 → Int32 → Int32 → Prop} (hK687 : ∀ S x4 x5 x6 x7 x8 x9 x11 x12, K687 S x4 x5 x6 x7 x8 x9 x11 x12 → VJ X G S 687 [(0, .ref (G.1 (145 + 99))), (1, .ref (G.1 0)), (3, .ref (G.1 144)), (4, .int x4), (5, .int x5), (6, .int x6), (7, .int x7), (8, .int x8), (9, .int x9), (11, .int x11), (12, .int x12)] []) : ∀ (S : vSt) (x4 : Int32) (x5 : Int32) (x6 : Int32) (x7 : Int32) (x8 : Int32) (x9 : Int32) (x11 : Int32) (x12 : Int32) (x14 : Int64) (x16 : Int64), p_L_law_802 L xs K91 K687 post S x4 x5 x6 x7 x8 x9 x11 x12 x14 x16 → VJ X G S 802 [(0, .ref (G.1 (145 + 99))), (1, .ref (G.1 0)), (3, .ref (G.1 144)), (4, .int x4), (5, .int x5), (6, .int x6), (7, .int x7), (8, .int x8), (9, .int x9), (11, .int x11), (12, .int x12), (14, .long x14), (16, .long x16)] [] := by
  intro S x4 x5 x6 x7 x8 x9 x11 x12 x14 x16 h
  refine V_aload_n C 1 dL_law_802 rfl rfl ?_
  refine V_iload C 10 dL_law_803 rfl ?_
  refine V_bipush (v := 10) C dL_law_805 (by decide) ?_
  refine V_callVz (As := [.int x12, .int 10]) (rest := []) C (c_X10_plan (v_l X) G  _ _ _ h) 0 10 (by decide) (by decide) (by decide) rfl KV_X10_plan k_RL_173 rfl rfl rfl (Nat.le_of_ble_eq_true rfl) ⟨by decide, by decide⟩ dL_law_807 (fun r630 S629 h => ?_)
  refine V_ifb_eq (tgt := 831) C dL_law_810 (by decide) (fun c => ?_) (fun c => ?_)
  · have h := h.1 c
    refine V_iconst (v := 0) C dL_law_831 (by decide) ?_
    exact h.elim
  · have h := h.2 c
    refine V_aload_n C 1 dL_law_813 rfl rfl ?_
    refine V_callVl (As := []) (rest := []) C (c_X10_top (v_l X) G  _ h) 0 10 (by decide) (by decide) (by decide) rfl KV_X10_top k_RL_109 rfl rfl rfl (Nat.le_of_ble_eq_true rfl) ⟨by decide, by decide⟩ dL_law_814 (fun r632 S631 h => ?_)
    refine V_lload C 12 dL_law_817 rfl ?_
    refine V_lmul C dL_law_819 ?_
    refine V_lload C 11 dL_law_820 rfl ?_
    refine V_aload_n C 1 dL_law_822 rfl rfl ?_
    refine V_callVl (As := []) (rest := [.long x14, .long (r632 * x16)]) C (c_X10_bottom (v_l X) G  _ h) 0 10 (by decide) (by decide) (by decide) rfl KV_X10_bottom k_RL_105 rfl rfl rfl (Nat.le_of_ble_eq_true rfl) ⟨by decide, by decide⟩ dL_law_823 (fun r634 S633 h => ?_)
    refine V_lmul C dL_law_826 ?_
    refine V_lcmp_ge (tgt := 833) C dL_law_827 dL_law_828 (by decide) (fun c => ?_) (fun c => ?_)
    · have h := h.1 c
      refine V_aload_n C 1 dL_law_833 rfl rfl ?_
      refine V_iload C 10 dL_law_834 rfl ?_
      refine V_iconst (v := 0) C dL_law_836 (by decide) ?_
      refine V_callVi (As := [.int x12, .int 0]) (rest := []) C (c_X10_bound (v_l X) G  _ _ _ h) 0 10 (by decide) (by decide) (by decide) rfl KV_X10_bound k_RL_176 rfl rfl rfl (Nat.le_of_ble_eq_true rfl) ⟨by decide, by decide⟩ dL_law_837 (fun r636 S635 h => ?_)
      refine V_if_lt (tgt := 910) C dL_law_840 (by decide) (fun c => ?_) (fun c => ?_)
      · have h := h.1 c
        refine V_iconst (v := 0) C dL_law_910 (by decide) ?_
        exact h.elim
      · have h := h.2 c
        refine V_aload_n C 1 dL_law_843 rfl rfl ?_
        refine V_iload C 10 dL_law_844 rfl ?_
        refine V_iconst (v := 1) C dL_law_846 (by decide) ?_
        refine V_callVi (As := [.int x12, .int 1]) (rest := []) C (c_X10_bound (v_l X) G  _ _ _ h) 0 10 (by decide) (by decide) (by decide) rfl KV_X10_bound k_RL_176 rfl rfl rfl (Nat.le_of_ble_eq_true rfl) ⟨by decide, by decide⟩ dL_law_847 (fun r638 S637 h => ?_)
        refine V_if_gt (tgt := 910) C dL_law_850 (by decide) (fun c => ?_) (fun c => ?_)
        · have h := h.1 c
          refine V_iconst (v := 0) C dL_law_910 (by decide) ?_
          exact h.elim
        · have h := h.2 c
          refine V_aload_n C 1 dL_law_853 rfl rfl ?_
          refine V_iload C 10 dL_law_854 rfl ?_
          refine V_aload_n C 1 dL_law_856 rfl rfl ?_
          refine V_iload C 10 dL_law_857 rfl ?_
          refine V_iconst (v := 0) C dL_law_859 (by decide) ?_
          refine V_callVi (As := [.int x12, .int 0]) (rest := [.int x12, .ref (G.1 0)]) C (c_X10_bound (v_l X) G  _ _ _ h) 0 10 (by decide) (by decide) (by decide) rfl KV_X10_bound k_RL_176 rfl rfl rfl (Nat.le_of_ble_eq_true rfl) ⟨by decide, by decide⟩ dL_law_860 (fun r640 S639 h => ?_)
          refine V_callVi (As := [.int x12, .int r640]) (rest := []) C (c_X10_gained (v_l X) G  _ _ _ h) 0 10 (by decide) (by decide) (by decide) rfl KV_X10_gained k_RL_179 rfl rfl rfl (Nat.le_of_ble_eq_true rfl) ⟨by decide, by decide⟩ dL_law_863 (fun r642 S641 h => ?_)
          refine V_iconst (v := 1) C dL_law_866 (by decide) ?_
          refine V_icmp_lt (tgt := 910) C dL_law_867 (by decide) (fun c => ?_) (fun c => ?_)
          · have h := h.1 c
            refine V_iconst (v := 0) C dL_law_910 (by decide) ?_
            exact h.elim
          · have h := h.2 c
            refine V_aload_n C 1 dL_law_870 rfl rfl ?_
            refine V_iload C 10 dL_law_871 rfl ?_
            refine V_iconst (v := 0) C dL_law_873 (by decide) ?_
            refine V_callVi (As := [.int x12, .int 0]) (rest := []) C (c_X10_gained (v_l X) G  _ _ _ h) 0 10 (by decide) (by decide) (by decide) rfl KV_X10_gained k_RL_179 rfl rfl rfl (Nat.le_of_ble_eq_true rfl) ⟨by decide, by decide⟩ dL_law_874 (fun r644 S643 h => ?_)
            refine V_iconst (v := 1) C dL_law_877 (by decide) ?_
            refine V_icmp_lt (tgt := 910) C dL_law_878 (by decide) (fun c => ?_) (fun c => ?_)
            · have h := h.1 c
              refine V_iconst (v := 0) C dL_law_910 (by decide) ?_
              exact h.elim
            · have h := h.2 c
              refine V_aload_n C 1 dL_law_881 rfl rfl ?_
              refine V_iload C 10 dL_law_882 rfl ?_
              refine V_iconst (v := 0) C dL_law_884 (by decide) ?_
              refine V_callVi (As := [.int x12, .int 0]) (rest := []) C (c_X10_sure (v_l X) G  _ _ _ h) 0 10 (by decide) (by decide) (by decide) rfl KV_X10_sure k_RL_182 rfl rfl rfl (Nat.le_of_ble_eq_true rfl) ⟨by decide, by decide⟩ dL_law_885 (fun r646 S645 h => ?_)
              refine V_iconst (v := 1) C dL_law_888 (by decide) ?_
              refine V_iload C 7 dL_law_889 rfl ?_
              refine V_ishl C dL_law_891 ?_
              refine V_iconst (v := 1) C dL_law_892 (by decide) ?_
              refine V_isub C dL_law_893 ?_
              refine V_aload_n C 1 dL_law_894 rfl rfl ?_
              refine V_iload C 10 dL_law_895 rfl ?_
              refine V_iconst (v := 4) C dL_law_897 (by decide) ?_
              refine V_callVi (As := [.int x12, .int 4]) (rest := [.int (((1 : Int32) <<< (x8 &&& 31)) - 1), .int r646]) C (c_X10_person (v_l X) G  _ _ _ h) 0 10 (by decide) (by decide) (by decide) rfl KV_X10_person k_RL_124 rfl rfl rfl (Nat.le_of_ble_eq_true rfl) ⟨by decide, by decide⟩ dL_law_898 (fun r648 S647 h => ?_)
              refine V_iconst (v := (-1)) C dL_law_901 (by decide) ?_
              refine V_ixor C dL_law_902 ?_
              refine V_iand C dL_law_903 ?_
              refine V_iconst (v := (-1)) C dL_law_904 (by decide) ?_
              refine V_ixor C dL_law_905 ?_
              refine V_iand C dL_law_906 ?_
              refine V_if_eq (tgt := 912) C dL_law_907 (by decide) (fun c => ?_) (fun c => ?_)
              · have h := h.1 c
                refine V_aload_n C 1 dL_law_912 rfl rfl ?_
                refine V_iload C 10 dL_law_913 rfl ?_
                refine V_callVi (As := [.int x12]) (rest := []) C (c_X10_dreaded (v_l X) G  _ _ h) 0 10 (by decide) (by decide) (by decide) rfl KV_X10_dreaded k_RL_185 rfl rfl rfl (Nat.le_of_ble_eq_true rfl) ⟨by decide, by decide⟩ dL_law_915 (fun r650 S649 h => ?_)
                refine V_istore (lv' := [(0, .ref (G.1 (145 + 99))), (1, .ref (G.1 0)), (3, .ref (G.1 144)), (4, .int x4), (5, .int x5), (6, .int x6), (7, .int x7), (8, .int x8), (9, .int x9), (11, .int x11), (12, .int x12), (14, .long x14), (16, .long x16), (18, .int r650)]) C [1, 2, 3, 4, 5, 6, 7, 8, 9, 10, 11, 12, 13, 0] dL_law_918 (by decide) rfl ?_
                refine V_aload_n C 1 dL_law_920 rfl rfl ?_
                refine V_iload C 10 dL_law_921 rfl ?_
                refine V_callVz (As := [.int x12]) (rest := []) C (c_X10_dread (v_l X) G  _ _ h) 0 10 (by decide) (by decide) (by decide) rfl KV_X10_dread k_RL_188 rfl rfl rfl (Nat.le_of_ble_eq_true rfl) ⟨by decide, by decide⟩ dL_law_923 (fun r652 S651 h => ?_)
                refine V_ifb_eq (tgt := 983) C dL_law_926 (by decide) (fun c => ?_) (fun c => ?_)
                · have h := h.1 c
                  refine V_iconst (v := 0) C dL_law_983 (by decide) ?_
                  exact h.elim
                · have h := h.2 c
                  refine V_iload C 13 dL_law_929 rfl ?_
                  refine V_if_lt (tgt := 938) C dL_law_931 (by decide) (fun c => ?_) (fun c => ?_)
                  · have h := h.1 c
                    refine V_iconst (v := 0) C dL_law_938 (by decide) ?_
                    refine V_loc (lv' := [(0, .ref (G.1 (145 + 99))), (1, .ref (G.1 0)), (3, .ref (G.1 144)), (4, .int x4), (5, .int x5), (6, .int x6), (7, .int x7), (8, .int x8), (9, .int x9), (11, .int x11), (12, .int x12), (18, .int r650)]) [0, 1, 2, 3, 4, 5, 6, 7, 8, 9, 10, 13] rfl ?_
                    exact q_L_law_939 C D hX hK91 hK687 _ _ _ _ _ _ _ _ _ _ _ h
                  · have h := h.2 c
                    refine V_iconst (v := 1) C dL_law_934 (by decide) ?_
                    refine V_goto (tgt := 939) C dL_law_935 (by decide) ?_
                    refine V_loc (lv' := [(0, .ref (G.1 (145 + 99))), (1, .ref (G.1 0)), (3, .ref (G.1 144)), (4, .int x4), (5, .int x5), (6, .int x6), (7, .int x7), (8, .int x8), (9, .int x9), (11, .int x11), (12, .int x12), (18, .int r650)]) [0, 1, 2, 3, 4, 5, 6, 7, 8, 9, 10, 13] rfl ?_
                    exact q_L_law_939 C D hX hK91 hK687 _ _ _ _ _ _ _ _ _ _ _ h
              · have h := h.2 c
                refine V_iconst (v := 0) C dL_law_910 (by decide) ?_
                exact h.elim
    · have h := h.2 c
      refine V_iconst (v := 0) C dL_law_831 (by decide) ?_
      exact h.elim
set_option maxHeartbeats 16000000 in
set_option maxRecDepth 100000 in
theorem q_L_law_749 {X : vX} {G : vG}  {post : Unit} (C : v_Cx X G cL_law RL 26 room_1) (D : ∀ H locs ls, va_S (v_AA X) (v_s X).heap H locs → v_W X H locs (F0 (v_m X) 1565 ls [.int 1])) {L : Nat} {xs : Nat → Int32} (hX : v_XX G L xs)   {K91 : vSt → Int32 → Int32 → Int32 → Prop} (hK91 : ∀ S x4 x5 x6, K91 S x4 x5 x6 → VJ X G S 91 [(0, .ref (G.1 (145 + 99))), (1, .ref (G.1 0)), (3, .ref (G.1 144)), (4, .int x4), (5, .int x5), (6, .int x6)] []) {K687 : vSt → Int32 → Int32 → Int32 → Int32 → Int32 → Int32 → Int32 → Int32 → Prop} (hK687 : ∀ S x4 x5 x6 x7 x8 x9 x11 x12, K687 S x4 x5 x6 x7 x8 x9 x11 x12 → VJ X G S 687 [(0, .ref (G.1 (145 + 99))), (1, .ref (G.1 0)), (3, .ref (G.1 144)), (4, .int x4), (5, .int x5), (6, .int x6), (7, .int x7), (8, .int x8), (9, .int x9), (11, .int x11), (12, .int x12)] []) : ∀ (S : vSt) (x4 : Int32) (x5 : Int32) (x6 : Int32) (x7 : Int32) (x8 : Int32) (x9 : Int32) (x11 : Int32) (x12 : Int32) (x13 : Int32) (x14 : Int64) (x16 : Int64) (s0 : Bool) (s1 : Bool), p_L_law_749 L xs K91 K687 post S x4 x5 x6 x7 x8 x9 x11 x12 x13 x14 x16 s0 s1 → VJ X G S 749 [(0, .ref (G.1 (145 + 99))), (1, .ref (G.1 0)), (3, .ref (G.1 144)), (4, .int x4), (5, .int x5), (6, .int x6), (7, .int x7), (8, .int x8), (9, .int x9), (11, .int x11), (12, .int x12), (13, .int x13), (14, .long x14), (16, .long x16)] [.int (v_b s0), .int (v_b s1)] := by
  intro S x4 x5 x6 x7 x8 x9 x11 x12 x13 x14 x16 s0 s1 h
  refine V_icmp_ne (tgt := 800) C dL_law_749 (by decide) (fun c => ?_) (fun c => ?_)
  · have h := h.1 c
    refine V_iconst (v := 0) C dL_law_800 (by decide) ?_
    exact h.elim
  · have h := h.2 c
    refine V_iload C 11 dL_law_752 rfl ?_
    refine V_if_lt (tgt := 802) C dL_law_754 (by decide) (fun c => ?_) (fun c => ?_)
    · have h := h.1 c
      refine V_loc (lv' := [(0, .ref (G.1 (145 + 99))), (1, .ref (G.1 0)), (3, .ref (G.1 144)), (4, .int x4), (5, .int x5), (6, .int x6), (7, .int x7), (8, .int x8), (9, .int x9), (11, .int x11), (12, .int x12), (14, .long x14), (16, .long x16)]) [0, 1, 2, 3, 4, 5, 6, 7, 8, 9, 10, 12, 13] rfl ?_
      exact q_L_law_802 C D hX hK91 hK687 _ _ _ _ _ _ _ _ _ _ _ h
    · have h := h.2 c
      refine V_aload_n C 1 dL_law_757 rfl rfl ?_
      refine V_iload C 10 dL_law_758 rfl ?_
      refine V_iload C 11 dL_law_760 rfl ?_
      refine V_callVi (As := [.int x12, .int x13]) (rest := []) C (c_X10_can (v_l X) G  _ _ _ h) 0 10 (by decide) (by decide) (by decide) rfl KV_X10_can k_RL_150 rfl rfl rfl (Nat.le_of_ble_eq_true rfl) ⟨by decide, by decide⟩ dL_law_762 (fun r630 S629 h => ?_)
      refine V_iconst (v := 1) C dL_law_765 (by decide) ?_
      refine V_icmp_ne (tgt := 800) C dL_law_766 (by decide) (fun c => ?_) (fun c => ?_)
      · have h := h.1 c
        refine V_iconst (v := 0) C dL_law_800 (by decide) ?_
        exact h.elim
      · have h := h.2 c
        refine V_aload_n C 1 dL_law_769 rfl rfl ?_
        refine V_iload C 10 dL_law_770 rfl ?_
        refine V_iload C 11 dL_law_772 rfl ?_
        refine V_callVz (As := [.int x12, .int x13]) (rest := []) C (c_X10_gain (v_l X) G  _ _ _ h) 0 10 (by decide) (by decide) (by decide) rfl KV_X10_gain k_RL_160 rfl rfl rfl (Nat.le_of_ble_eq_true rfl) ⟨by decide, by decide⟩ dL_law_774 (fun r632 S631 h => ?_)
        refine V_ifb_eq (tgt := 800) C dL_law_777 (by decide) (fun c => ?_) (fun c => ?_)
        · have h := h.1 c
          refine V_iconst (v := 0) C dL_law_800 (by decide) ?_
          exact h.elim
        · have h := h.2 c
          refine V_aload_n C 1 dL_law_780 rfl rfl ?_
          refine V_callVl (As := []) (rest := []) C (c_X10_top (v_l X) G  _ h) 0 10 (by decide) (by decide) (by decide) rfl KV_X10_top k_RL_109 rfl rfl rfl (Nat.le_of_ble_eq_true rfl) ⟨by decide, by decide⟩ dL_law_781 (fun r634 S633 h => ?_)
          refine V_lload C 12 dL_law_784 rfl ?_
          refine V_lcmp_ne (tgt := 800) C dL_law_786 dL_law_787 (by decide) (fun c => ?_) (fun c => ?_)
          · have h := h.1 c
            refine V_iconst (v := 0) C dL_law_800 (by decide) ?_
            exact h.elim
          · have h := h.2 c
            refine V_aload_n C 1 dL_law_790 rfl rfl ?_
            refine V_callVl (As := []) (rest := []) C (c_X10_bottom (v_l X) G  _ h) 0 10 (by decide) (by decide) (by decide) rfl KV_X10_bottom k_RL_105 rfl rfl rfl (Nat.le_of_ble_eq_true rfl) ⟨by decide, by decide⟩ dL_law_791 (fun r636 S635 h => ?_)
            refine V_lload C 13 dL_law_794 rfl ?_
            refine V_lcmp_eq (tgt := 802) C dL_law_796 dL_law_797 (by decide) (fun c => ?_) (fun c => ?_)
            · have h := h.1 c
              refine V_loc (lv' := [(0, .ref (G.1 (145 + 99))), (1, .ref (G.1 0)), (3, .ref (G.1 144)), (4, .int x4), (5, .int x5), (6, .int x6), (7, .int x7), (8, .int x8), (9, .int x9), (11, .int x11), (12, .int x12), (14, .long x14), (16, .long x16)]) [0, 1, 2, 3, 4, 5, 6, 7, 8, 9, 10, 12, 13] rfl ?_
              exact q_L_law_802 C D hX hK91 hK687 _ _ _ _ _ _ _ _ _ _ _ h
            · have h := h.2 c
              refine V_iconst (v := 0) C dL_law_800 (by decide) ?_
              exact h.elim
set_option maxHeartbeats 16000000 in
set_option maxRecDepth 100000 in
theorem q_L_law_737 {X : vX} {G : vG}  {post : Unit} (C : v_Cx X G cL_law RL 26 room_1) (D : ∀ H locs ls, va_S (v_AA X) (v_s X).heap H locs → v_W X H locs (F0 (v_m X) 1565 ls [.int 1])) {L : Nat} {xs : Nat → Int32} (hX : v_XX G L xs)   {K91 : vSt → Int32 → Int32 → Int32 → Prop} (hK91 : ∀ S x4 x5 x6, K91 S x4 x5 x6 → VJ X G S 91 [(0, .ref (G.1 (145 + 99))), (1, .ref (G.1 0)), (3, .ref (G.1 144)), (4, .int x4), (5, .int x5), (6, .int x6)] []) {K687 : vSt → Int32 → Int32 → Int32 → Int32 → Int32 → Int32 → Int32 → Int32 → Prop} (hK687 : ∀ S x4 x5 x6 x7 x8 x9 x11 x12, K687 S x4 x5 x6 x7 x8 x9 x11 x12 → VJ X G S 687 [(0, .ref (G.1 (145 + 99))), (1, .ref (G.1 0)), (3, .ref (G.1 144)), (4, .int x4), (5, .int x5), (6, .int x6), (7, .int x7), (8, .int x8), (9, .int x9), (11, .int x11), (12, .int x12)] []) : ∀ (S : vSt) (x4 : Int32) (x5 : Int32) (x6 : Int32) (x7 : Int32) (x8 : Int32) (x9 : Int32) (x11 : Int32) (x12 : Int32) (x13 : Int32) (x14 : Int64) (x16 : Int64) (s0 : Bool), p_L_law_737 L xs K91 K687 post S x4 x5 x6 x7 x8 x9 x11 x12 x13 x14 x16 s0 → VJ X G S 737 [(0, .ref (G.1 (145 + 99))), (1, .ref (G.1 0)), (3, .ref (G.1 144)), (4, .int x4), (5, .int x5), (6, .int x6), (7, .int x7), (8, .int x8), (9, .int x9), (11, .int x11), (12, .int x12), (13, .int x13), (14, .long x14), (16, .long x16)] [.int (v_b s0)] := by
  intro S x4 x5 x6 x7 x8 x9 x11 x12 x13 x14 x16 s0 h
  refine V_lload C 12 dL_law_737 rfl ?_
  refine V_lconst (v := 0) C dL_law_739 (by decide) ?_
  refine V_lcmp_le (tgt := 748) C dL_law_740 dL_law_741 (by decide) (fun c => ?_) (fun c => ?_)
  · have h := h.1 c
    refine V_iconst (v := 0) C dL_law_748 (by decide) ?_
    exact q_L_law_749 C D hX hK91 hK687 _ _ _ _ _ _ _ _ _ _ _ _ _ _ h
  · have h := h.2 c
    refine V_iconst (v := 1) C dL_law_744 (by decide) ?_
    refine V_goto (tgt := 749) C dL_law_745 (by decide) ?_
    exact q_L_law_749 C D hX hK91 hK687 _ _ _ _ _ _ _ _ _ _ _ _ _ _ h
set_option maxHeartbeats 16000000 in
set_option maxRecDepth 100000 in
theorem q_L_law_687 {X : vX} {G : vG}  {post : Unit} (C : v_Cx X G cL_law RL 26 room_1) (D : ∀ H locs ls, va_S (v_AA X) (v_s X).heap H locs → v_W X H locs (F0 (v_m X) 1565 ls [.int 1])) {L : Nat} {xs : Nat → Int32} (hX : v_XX G L xs)   {K91 : vSt → Int32 → Int32 → Int32 → Prop} (hK91 : ∀ S x4 x5 x6, K91 S x4 x5 x6 → VJ X G S 91 [(0, .ref (G.1 (145 + 99))), (1, .ref (G.1 0)), (3, .ref (G.1 144)), (4, .int x4), (5, .int x5), (6, .int x6)] []) : ∀ (fu : Nat) (S : vSt) (x4 : Int32) (x5 : Int32) (x6 : Int32) (x7 : Int32) (x8 : Int32) (x9 : Int32) (x11 : Int32) (x12 : Int32), p_L_law_687 L xs K91 post fu S x4 x5 x6 x7 x8 x9 x11 x12 → VJ X G S 687 [(0, .ref (G.1 (145 + 99))), (1, .ref (G.1 0)), (3, .ref (G.1 144)), (4, .int x4), (5, .int x5), (6, .int x6), (7, .int x7), (8, .int x8), (9, .int x9), (11, .int x11), (12, .int x12)] [] := by
  intro fu
  induction fu with
  | zero => intro S x4 x5 x6 x7 x8 x9 x11 x12 h; exact absurd h id
  | succ fu ih =>
    intro S x4 x5 x6 x7 x8 x9 x11 x12 h
    have hK687 := ih
    rw [e_L_law_687] at h
    refine V_iload C 10 dL_law_687 rfl ?_
    refine V_aload_n C 2 dL_law_689 rfl rfl ?_
    refine V_iconst (v := 0) C dL_law_690 (by decide) ?_
    obtain ⟨hi, h⟩ := h
    refine V_iald C 144 29 (by decide) (by decide) hi dL_law_691 ?_
    refine V_icmp_ge (tgt := 991) C dL_law_692 (by decide) (fun c => ?_) (fun c => ?_)
    · have h := h.1 c
      refine V_iconst (v := 1) C dL_law_991 (by decide) ?_
      refine V_aload_n C 2 dL_law_992 rfl rfl ?_
      refine V_iconst (v := 0) C dL_law_993 (by decide) ?_
      obtain ⟨hi, h⟩ := h
      refine V_iald C 144 29 (by decide) (by decide) hi dL_law_994 ?_
      refine V_ishl C dL_law_995 ?_
      refine V_iconst (v := 1) C dL_law_996 (by decide) ?_
      refine V_isub C dL_law_997 ?_
      refine V_topi (fun y620 ey620 => ?_)
      have h := h y620 ey620
      refine V_istore (lv' := [(0, .ref (G.1 (145 + 99))), (1, .ref (G.1 0)), (3, .ref (G.1 144)), (4, .int x4), (5, .int x5), (6, .int x6), (7, .int x7), (8, .int x8), (9, .int x9), (11, .int x11), (12, .int y620)]) C [1, 2, 3, 4, 5, 6, 7, 8, 9, 10, 0] dL_law_998 (by decide) rfl ?_
      refine V_iconst (v := 0) C dL_law_1000 (by decide) ?_
      refine V_istore (lv' := [(0, .ref (G.1 (145 + 99))), (1, .ref (G.1 0)), (3, .ref (G.1 144)), (4, .int x4), (5, .int x5), (6, .int x6), (7, .int x7), (8, .int x8), (9, .int x9), (11, .int x11), (12, .int y620), (13, .int 0)]) C [1, 2, 3, 4, 5, 6, 7, 8, 9, 10, 11, 0] dL_law_1001 (by decide) rfl ?_
      refine V_loc (lv' := [(0, .ref (G.1 (145 + 99))), (1, .ref (G.1 0)), (3, .ref (G.1 144)), (4, .int x4), (5, .int x5), (6, .int x6), (7, .int x7), (8, .int x8), (9, .int x9), (12, .int y620), (13, .int 0)]) [0, 1, 2, 3, 4, 5, 6, 7, 8, 10, 11] rfl ?_
      obtain ⟨fu1003, h⟩ := h
      exact q_L_law_1003 C D hX hK91 fu1003 _ _ _ _ _ _ _ _ _ h
    · have h := h.2 c
      refine V_aload_n C 1 dL_law_695 rfl rfl ?_
      refine V_iload C 10 dL_law_696 rfl ?_
      refine V_callVi (As := [.int x12]) (rest := []) C (c_X10_best (v_l X) G  _ _ h) 0 10 (by decide) (by decide) (by decide) rfl KV_X10_best k_RL_170 rfl rfl rfl (Nat.le_of_ble_eq_true rfl) ⟨by decide, by decide⟩ dL_law_698 (fun r622 S621 h => ?_)
      refine V_istore (lv' := [(0, .ref (G.1 (145 + 99))), (1, .ref (G.1 0)), (3, .ref (G.1 144)), (4, .int x4), (5, .int x5), (6, .int x6), (7, .int x7), (8, .int x8), (9, .int x9), (11, .int x11), (12, .int x12), (13, .int r622)]) C [1, 2, 3, 4, 5, 6, 7, 8, 9, 10, 11, 0] dL_law_701 (by decide) rfl ?_
      refine V_aload_n C 1 dL_law_703 rfl rfl ?_
      refine V_iload C 10 dL_law_704 rfl ?_
      refine V_iconst (v := 1) C dL_law_706 (by decide) ?_
      refine V_callVz (As := [.int x12, .int 1]) (rest := []) C (c_X10_plan (v_l X) G  _ _ _ h) 0 10 (by decide) (by decide) (by decide) rfl KV_X10_plan k_RL_173 rfl rfl rfl (Nat.le_of_ble_eq_true rfl) ⟨by decide, by decide⟩ dL_law_707 (fun r624 S623 h => ?_)
      refine V_ifb_ne (tgt := 715) C dL_law_710 (by decide) (fun c => ?_) (fun c => ?_)
      · have h := h.1 c
        refine V_aload_n C 1 dL_law_715 rfl rfl ?_
        refine V_callVl (As := []) (rest := []) C (c_X10_top (v_l X) G  _ h) 0 10 (by decide) (by decide) (by decide) rfl KV_X10_top k_RL_109 rfl rfl rfl (Nat.le_of_ble_eq_true rfl) ⟨by decide, by decide⟩ dL_law_716 (fun r626 S625 h => ?_)
        refine V_lstore (lv' := [(0, .ref (G.1 (145 + 99))), (1, .ref (G.1 0)), (3, .ref (G.1 144)), (4, .int x4), (5, .int x5), (6, .int x6), (7, .int x7), (8, .int x8), (9, .int x9), (11, .int x11), (12, .int x12), (13, .int r622), (14, .long r626)]) C [1, 2, 3, 4, 5, 6, 7, 8, 9, 10, 11, 12, 0] dL_law_719 (by decide) rfl ?_
        refine V_aload_n C 1 dL_law_721 rfl rfl ?_
        refine V_callVl (As := []) (rest := []) C (c_X10_bottom (v_l X) G  _ h) 0 10 (by decide) (by decide) (by decide) rfl KV_X10_bottom k_RL_105 rfl rfl rfl (Nat.le_of_ble_eq_true rfl) ⟨by decide, by decide⟩ dL_law_722 (fun r628 S627 h => ?_)
        refine V_lstore (lv' := [(0, .ref (G.1 (145 + 99))), (1, .ref (G.1 0)), (3, .ref (G.1 144)), (4, .int x4), (5, .int x5), (6, .int x6), (7, .int x7), (8, .int x8), (9, .int x9), (11, .int x11), (12, .int x12), (13, .int r622), (14, .long r626), (16, .long r628)]) C [1, 2, 3, 4, 5, 6, 7, 8, 9, 10, 11, 12, 13, 0] dL_law_725 (by decide) rfl ?_
        refine V_iload C 11 dL_law_727 rfl ?_
        refine V_if_lt (tgt := 736) C dL_law_729 (by decide) (fun c => ?_) (fun c => ?_)
        · have h := h.1 c
          refine V_iconst (v := 0) C dL_law_736 (by decide) ?_
          exact q_L_law_737 C D hX hK91 hK687 _ _ _ _ _ _ _ _ _ _ _ _ _ h
        · have h := h.2 c
          refine V_iconst (v := 1) C dL_law_732 (by decide) ?_
          refine V_goto (tgt := 737) C dL_law_733 (by decide) ?_
          exact q_L_law_737 C D hX hK91 hK687 _ _ _ _ _ _ _ _ _ _ _ _ _ h
      · have h := h.2 c
        refine V_iconst (v := 0) C dL_law_713 (by decide) ?_
        exact h.elim
set_option maxHeartbeats 16000000 in
set_option maxRecDepth 100000 in
theorem q_L_law_672 {X : vX} {G : vG}  {post : Unit} (C : v_Cx X G cL_law RL 26 room_1) (D : ∀ H locs ls, va_S (v_AA X) (v_s X).heap H locs → v_W X H locs (F0 (v_m X) 1565 ls [.int 1])) {L : Nat} {xs : Nat → Int32} (hX : v_XX G L xs)   {K91 : vSt → Int32 → Int32 → Int32 → Prop} (hK91 : ∀ S x4 x5 x6, K91 S x4 x5 x6 → VJ X G S 91 [(0, .ref (G.1 (145 + 99))), (1, .ref (G.1 0)), (3, .ref (G.1 144)), (4, .int x4), (5, .int x5), (6, .int x6)] []) {K259 : vSt → Int32 → Int32 → Int32 → Int32 → Int32 → Int32 → Int32 → Int32 → Prop} (hK259 : ∀ S x4 x5 x6 x7 x8 x9 x11 x12, K259 S x4 x5 x6 x7 x8 x9 x11 x12 → VJ X G S 259 [(0, .ref (G.1 (145 + 99))), (1, .ref (G.1 0)), (3, .ref (G.1 144)), (4, .int x4), (5, .int x5), (6, .int x6), (7, .int x7), (8, .int x8), (9, .int x9), (11, .int x11), (12, .int x12)] []) {K370 : vSt → Int32 → Int32 → Int32 → Int32 → Int32 → Int32 → Int32 → Int32 → Int32 → Int32 → Prop} (hK370 : ∀ S x4 x5 x6 x7 x8 x9 x11 x12 x14 x15, K370 S x4 x5 x6 x7 x8 x9 x11 x12 x14 x15 → VJ X G S 370 [(0, .ref (G.1 (145 + 99))), (1, .ref (G.1 0)), (3, .ref (G.1 144)), (4, .int x4), (5, .int x5), (6, .int x6), (7, .int x7), (8, .int x8), (9, .int x9), (11, .int x11), (12, .int x12), (14, .int x14), (15, .int x15)] []) : ∀ (S : vSt) (x4 : Int32) (x5 : Int32) (x6 : Int32) (x7 : Int32) (x8 : Int32) (x9 : Int32) (x11 : Int32) (x12 : Int32) (x14 : Int32) (x15 : Int32), p_L_law_672 L xs K91 K259 K370 post S x4 x5 x6 x7 x8 x9 x11 x12 x14 x15 → VJ X G S 672 [(0, .ref (G.1 (145 + 99))), (1, .ref (G.1 0)), (3, .ref (G.1 144)), (4, .int x4), (5, .int x5), (6, .int x6), (7, .int x7), (8, .int x8), (9, .int x9), (11, .int x11), (12, .int x12), (14, .int x14), (15, .int x15)] [] := by
  intro S x4 x5 x6 x7 x8 x9 x11 x12 x14 x15 h
  obtain ⟨y667, ey667⟩ : ∃ z : Int32, z = x15 + 1 := ⟨_, rfl⟩
  have h := h y667 ey667
  refine V_iinc (lv' := [(0, .ref (G.1 (145 + 99))), (1, .ref (G.1 0)), (3, .ref (G.1 144)), (4, .int x4), (5, .int x5), (6, .int x6), (7, .int x7), (8, .int x8), (9, .int x9), (11, .int x11), (12, .int x12), (14, .int x14), (15, .int y667)]) C 12 [1, 2, 3, 4, 5, 6, 7, 8, 9, 10, 11, 12, 0] y667 dL_law_672 rfl (by rw [ey667]; rfl) (by decide) rfl ?_
  refine V_goto (tgt := 370) C dL_law_675 (by decide) ?_
  exact hK370 _ _ _ _ _ _ _ _ _ _ _ h
set_option maxHeartbeats 16000000 in
set_option maxRecDepth 100000 in
theorem q_L_law_608 {X : vX} {G : vG}  {post : Unit} (C : v_Cx X G cL_law RL 26 room_1) (D : ∀ H locs ls, va_S (v_AA X) (v_s X).heap H locs → v_W X H locs (F0 (v_m X) 1565 ls [.int 1])) {L : Nat} {xs : Nat → Int32} (hX : v_XX G L xs)   {K91 : vSt → Int32 → Int32 → Int32 → Prop} (hK91 : ∀ S x4 x5 x6, K91 S x4 x5 x6 → VJ X G S 91 [(0, .ref (G.1 (145 + 99))), (1, .ref (G.1 0)), (3, .ref (G.1 144)), (4, .int x4), (5, .int x5), (6, .int x6)] []) {K259 : vSt → Int32 → Int32 → Int32 → Int32 → Int32 → Int32 → Int32 → Int32 → Prop} (hK259 : ∀ S x4 x5 x6 x7 x8 x9 x11 x12, K259 S x4 x5 x6 x7 x8 x9 x11 x12 → VJ X G S 259 [(0, .ref (G.1 (145 + 99))), (1, .ref (G.1 0)), (3, .ref (G.1 144)), (4, .int x4), (5, .int x5), (6, .int x6), (7, .int x7), (8, .int x8), (9, .int x9), (11, .int x11), (12, .int x12)] []) {K370 : vSt → Int32 → Int32 → Int32 → Int32 → Int32 → Int32 → Int32 → Int32 → Int32 → Int32 → Prop} (hK370 : ∀ S x4 x5 x6 x7 x8 x9 x11 x12 x14 x15, K370 S x4 x5 x6 x7 x8 x9 x11 x12 x14 x15 → VJ X G S 370 [(0, .ref (G.1 (145 + 99))), (1, .ref (G.1 0)), (3, .ref (G.1 144)), (4, .int x4), (5, .int x5), (6, .int x6), (7, .int x7), (8, .int x8), (9, .int x9), (11, .int x11), (12, .int x12), (14, .int x14), (15, .int x15)] []) : ∀ (S : vSt) (x4 : Int32) (x5 : Int32) (x6 : Int32) (x7 : Int32) (x8 : Int32) (x9 : Int32) (x11 : Int32) (x12 : Int32) (x14 : Int32) (x15 : Int32), p_L_law_608 L xs K91 K259 K370 post S x4 x5 x6 x7 x8 x9 x11 x12 x14 x15 → VJ X G S 608 [(0, .ref (G.1 (145 + 99))), (1, .ref (G.1 0)), (3, .ref (G.1 144)), (4, .int x4), (5, .int x5), (6, .int x6), (7, .int x7), (8, .int x8), (9, .int x9), (11, .int x11), (12, .int x12), (14, .int x14), (15, .int x15)] [] := by
  intro S x4 x5 x6 x7 x8 x9 x11 x12 x14 x15 h
  refine V_aload_n C 1 dL_law_608 rfl rfl ?_
  refine V_iload C 10 dL_law_609 rfl ?_
  refine V_callVi (As := [.int x12]) (rest := []) C (c_X10_friend (v_l X) G  _ _ h) 0 10 (by decide) (by decide) (by decide) rfl KV_X10_friend k_RL_147 rfl rfl rfl (Nat.le_of_ble_eq_true rfl) ⟨by decide, by decide⟩ dL_law_611 (fun r654 S653 h => ?_)
  refine V_istore (lv' := [(0, .ref (G.1 (145 + 99))), (1, .ref (G.1 0)), (3, .ref (G.1 144)), (4, .int x4), (5, .int x5), (6, .int x6), (7, .int x7), (8, .int x8), (9, .int x9), (11, .int x11), (12, .int x12), (14, .int x14), (15, .int x15), (25, .int r654)]) C [1, 2, 3, 4, 5, 6, 7, 8, 9, 10, 11, 12, 13, 0] dL_law_614 (by decide) rfl ?_
  refine V_aload_n C 1 dL_law_616 rfl rfl ?_
  refine V_iload C 12 dL_law_617 rfl ?_
  refine V_iload C 10 dL_law_619 rfl ?_
  refine V_callVz (As := [.int x15, .int x12]) (rest := []) C (c_X10_loss (v_l X) G  _ _ _ h) 0 10 (by decide) (by decide) (by decide) rfl KV_X10_loss k_RL_163 rfl rfl rfl (Nat.le_of_ble_eq_true rfl) ⟨by decide, by decide⟩ dL_law_621 (fun r656 S655 h => ?_)
  refine V_ifb_ne (tgt := 629) C dL_law_624 (by decide) (fun c => ?_) (fun c => ?_)
  · have h := h.1 c
    refine V_aload_n C 1 dL_law_629 rfl rfl ?_
    refine V_callVl (As := []) (rest := []) C (c_X10_top (v_l X) G  _ h) 0 10 (by decide) (by decide) (by decide) rfl KV_X10_top k_RL_109 rfl rfl rfl (Nat.le_of_ble_eq_true rfl) ⟨by decide, by decide⟩ dL_law_630 (fun r658 S657 h => ?_)
    refine V_lstore (lv' := [(0, .ref (G.1 (145 + 99))), (1, .ref (G.1 0)), (3, .ref (G.1 144)), (4, .int x4), (5, .int x5), (6, .int x6), (7, .int x7), (8, .int x8), (9, .int x9), (11, .int x11), (12, .int x12), (14, .int x14), (15, .int x15), (20, .long r658), (25, .int r654)]) C [1, 2, 3, 4, 5, 6, 7, 8, 9, 10, 11, 12, 13, 0, 14] dL_law_633 (by decide) rfl ?_
    refine V_aload_n C 1 dL_law_635 rfl rfl ?_
    refine V_callVl (As := []) (rest := []) C (c_X10_bottom (v_l X) G  _ h) 0 10 (by decide) (by decide) (by decide) rfl KV_X10_bottom k_RL_105 rfl rfl rfl (Nat.le_of_ble_eq_true rfl) ⟨by decide, by decide⟩ dL_law_636 (fun r660 S659 h => ?_)
    refine V_lstore (lv' := [(0, .ref (G.1 (145 + 99))), (1, .ref (G.1 0)), (3, .ref (G.1 144)), (4, .int x4), (5, .int x5), (6, .int x6), (7, .int x7), (8, .int x8), (9, .int x9), (11, .int x11), (12, .int x12), (14, .int x14), (15, .int x15), (20, .long r658), (22, .long r660), (25, .int r654)]) C [1, 2, 3, 4, 5, 6, 7, 8, 9, 10, 11, 12, 13, 14, 0, 15] dL_law_639 (by decide) rfl ?_
    refine V_aload_n C 1 dL_law_641 rfl rfl ?_
    refine V_iload C 15 dL_law_642 rfl ?_
    refine V_iload C 10 dL_law_644 rfl ?_
    refine V_callVz (As := [.int r654, .int x12]) (rest := []) C (c_X10_loss (v_l X) G  _ _ _ h) 0 10 (by decide) (by decide) (by decide) rfl KV_X10_loss k_RL_163 rfl rfl rfl (Nat.le_of_ble_eq_true rfl) ⟨by decide, by decide⟩ dL_law_646 (fun r662 S661 h => ?_)
    refine V_ifb_eq (tgt := 670) C dL_law_649 (by decide) (fun c => ?_) (fun c => ?_)
    · have h := h.1 c
      refine V_iconst (v := 0) C dL_law_670 (by decide) ?_
      exact h.elim
    · have h := h.2 c
      refine V_aload_n C 1 dL_law_652 rfl rfl ?_
      refine V_callVl (As := []) (rest := []) C (c_X10_top (v_l X) G  _ h) 0 10 (by decide) (by decide) (by decide) rfl KV_X10_top k_RL_109 rfl rfl rfl (Nat.le_of_ble_eq_true rfl) ⟨by decide, by decide⟩ dL_law_653 (fun r664 S663 h => ?_)
      refine V_lload C 14 dL_law_656 rfl ?_
      refine V_lmul C dL_law_658 ?_
      refine V_lload C 13 dL_law_659 rfl ?_
      refine V_aload_n C 1 dL_law_661 rfl rfl ?_
      refine V_callVl (As := []) (rest := [.long r658, .long (r664 * r660)]) C (c_X10_bottom (v_l X) G  _ h) 0 10 (by decide) (by decide) (by decide) rfl KV_X10_bottom k_RL_105 rfl rfl rfl (Nat.le_of_ble_eq_true rfl) ⟨by decide, by decide⟩ dL_law_662 (fun r666 S665 h => ?_)
      refine V_lmul C dL_law_665 ?_
      refine V_lcmp_le (tgt := 672) C dL_law_666 dL_law_667 (by decide) (fun c => ?_) (fun c => ?_)
      · have h := h.1 c
        refine V_loc (lv' := [(0, .ref (G.1 (145 + 99))), (1, .ref (G.1 0)), (3, .ref (G.1 144)), (4, .int x4), (5, .int x5), (6, .int x6), (7, .int x7), (8, .int x8), (9, .int x9), (11, .int x11), (12, .int x12), (14, .int x14), (15, .int x15)]) [0, 1, 2, 3, 4, 5, 6, 7, 8, 9, 10, 11, 12] rfl ?_
        exact q_L_law_672 C D hX hK91 hK259 hK370 _ _ _ _ _ _ _ _ _ _ _ h
      · have h := h.2 c
        refine V_iconst (v := 0) C dL_law_670 (by decide) ?_
        exact h.elim
  · have h := h.2 c
    refine V_iconst (v := 0) C dL_law_627 (by decide) ?_
    exact h.elim
set_option maxHeartbeats 16000000 in
set_option maxRecDepth 100000 in
theorem q_L_law_564 {X : vX} {G : vG}  {post : Unit} (C : v_Cx X G cL_law RL 26 room_1) (D : ∀ H locs ls, va_S (v_AA X) (v_s X).heap H locs → v_W X H locs (F0 (v_m X) 1565 ls [.int 1])) {L : Nat} {xs : Nat → Int32} (hX : v_XX G L xs)   {K91 : vSt → Int32 → Int32 → Int32 → Prop} (hK91 : ∀ S x4 x5 x6, K91 S x4 x5 x6 → VJ X G S 91 [(0, .ref (G.1 (145 + 99))), (1, .ref (G.1 0)), (3, .ref (G.1 144)), (4, .int x4), (5, .int x5), (6, .int x6)] []) {K259 : vSt → Int32 → Int32 → Int32 → Int32 → Int32 → Int32 → Int32 → Int32 → Prop} (hK259 : ∀ S x4 x5 x6 x7 x8 x9 x11 x12, K259 S x4 x5 x6 x7 x8 x9 x11 x12 → VJ X G S 259 [(0, .ref (G.1 (145 + 99))), (1, .ref (G.1 0)), (3, .ref (G.1 144)), (4, .int x4), (5, .int x5), (6, .int x6), (7, .int x7), (8, .int x8), (9, .int x9), (11, .int x11), (12, .int x12)] []) {K370 : vSt → Int32 → Int32 → Int32 → Int32 → Int32 → Int32 → Int32 → Int32 → Int32 → Int32 → Prop} (hK370 : ∀ S x4 x5 x6 x7 x8 x9 x11 x12 x14 x15, K370 S x4 x5 x6 x7 x8 x9 x11 x12 x14 x15 → VJ X G S 370 [(0, .ref (G.1 (145 + 99))), (1, .ref (G.1 0)), (3, .ref (G.1 144)), (4, .int x4), (5, .int x5), (6, .int x6), (7, .int x7), (8, .int x8), (9, .int x9), (11, .int x11), (12, .int x12), (14, .int x14), (15, .int x15)] []) : ∀ (S : vSt) (x4 : Int32) (x5 : Int32) (x6 : Int32) (x7 : Int32) (x8 : Int32) (x9 : Int32) (x11 : Int32) (x12 : Int32) (x14 : Int32) (x15 : Int32) (x20 : Int64) (x22 : Int64), p_L_law_564 L xs K91 K259 K370 post S x4 x5 x6 x7 x8 x9 x11 x12 x14 x15 x20 x22 → VJ X G S 564 [(0, .ref (G.1 (145 + 99))), (1, .ref (G.1 0)), (3, .ref (G.1 144)), (4, .int x4), (5, .int x5), (6, .int x6), (7, .int x7), (8, .int x8), (9, .int x9), (11, .int x11), (12, .int x12), (14, .int x14), (15, .int x15), (20, .long x20), (22, .long x22)] [] := by
  intro S x4 x5 x6 x7 x8 x9 x11 x12 x14 x15 x20 x22 h
  refine V_aload_n C 1 dL_law_564 rfl rfl ?_
  refine V_iload C 12 dL_law_565 rfl ?_
  refine V_iload C 10 dL_law_567 rfl ?_
  refine V_iconst (v := 0) C dL_law_569 (by decide) ?_
  refine V_callVi (As := [.int x15, .int x12, .int 0]) (rest := []) C (c_X10_trade (v_l X) G  _ _ _ _ h) 0 10 (by decide) (by decide) (by decide) rfl KV_X10_trade k_RL_166 rfl rfl rfl (Nat.le_of_ble_eq_true rfl) ⟨by decide, by decide⟩ dL_law_570 (fun r652 S651 h => ?_)
  refine V_istore (lv' := [(0, .ref (G.1 (145 + 99))), (1, .ref (G.1 0)), (3, .ref (G.1 144)), (4, .int x4), (5, .int x5), (6, .int x6), (7, .int x7), (8, .int x8), (9, .int x9), (11, .int x11), (12, .int x12), (14, .int x14), (15, .int x15), (20, .long x20), (22, .long x22), (24, .int r652)]) C [1, 2, 3, 4, 5, 6, 7, 8, 9, 10, 11, 12, 13, 14, 15, 0] dL_law_573 (by decide) rfl ?_
  refine V_iload C 15 dL_law_575 rfl ?_
  refine V_if_lt (tgt := 608) C dL_law_577 (by decide) (fun c => ?_) (fun c => ?_)
  · have h := h.1 c
    refine V_loc (lv' := [(0, .ref (G.1 (145 + 99))), (1, .ref (G.1 0)), (3, .ref (G.1 144)), (4, .int x4), (5, .int x5), (6, .int x6), (7, .int x7), (8, .int x8), (9, .int x9), (11, .int x11), (12, .int x12), (14, .int x14), (15, .int x15)]) [0, 1, 2, 3, 4, 5, 6, 7, 8, 9, 10, 11, 12] rfl ?_
    exact q_L_law_608 C D hX hK91 hK259 hK370 _ _ _ _ _ _ _ _ _ _ _ h
  · have h := h.2 c
    refine V_iload C 15 dL_law_580 rfl ?_
    refine V_aload_n C 1 dL_law_582 rfl rfl ?_
    refine V_iload C 12 dL_law_583 rfl ?_
    refine V_iload C 10 dL_law_585 rfl ?_
    refine V_iconst (v := 1) C dL_law_587 (by decide) ?_
    refine V_callVi (As := [.int x15, .int x12, .int 1]) (rest := [.int r652]) C (c_X10_trade (v_l X) G  _ _ _ _ h) 0 10 (by decide) (by decide) (by decide) rfl KV_X10_trade k_RL_166 rfl rfl rfl (Nat.le_of_ble_eq_true rfl) ⟨by decide, by decide⟩ dL_law_588 (fun r654 S653 h => ?_)
    refine V_icmp_gt (tgt := 606) C dL_law_591 (by decide) (fun c => ?_) (fun c => ?_)
    · have h := h.1 c
      refine V_iconst (v := 0) C dL_law_606 (by decide) ?_
      exact h.elim
    · have h := h.2 c
      refine V_lload C 13 dL_law_594 rfl ?_
      refine V_iload C 15 dL_law_596 rfl ?_
      refine V_i2l C dL_law_598 ?_
      refine V_lload C 14 dL_law_599 rfl ?_
      refine V_lmul C dL_law_601 ?_
      refine V_lcmp_le (tgt := 608) C dL_law_602 dL_law_603 (by decide) (fun c => ?_) (fun c => ?_)
      · have h := h.1 c
        refine V_loc (lv' := [(0, .ref (G.1 (145 + 99))), (1, .ref (G.1 0)), (3, .ref (G.1 144)), (4, .int x4), (5, .int x5), (6, .int x6), (7, .int x7), (8, .int x8), (9, .int x9), (11, .int x11), (12, .int x12), (14, .int x14), (15, .int x15)]) [0, 1, 2, 3, 4, 5, 6, 7, 8, 9, 10, 11, 12] rfl ?_
        exact q_L_law_608 C D hX hK91 hK259 hK370 _ _ _ _ _ _ _ _ _ _ _ h
      · have h := h.2 c
        refine V_iconst (v := 0) C dL_law_606 (by decide) ?_
        exact h.elim
set_option maxHeartbeats 16000000 in
set_option maxRecDepth 100000 in
theorem q_L_law_488 {X : vX} {G : vG}  {post : Unit} (C : v_Cx X G cL_law RL 26 room_1) (D : ∀ H locs ls, va_S (v_AA X) (v_s X).heap H locs → v_W X H locs (F0 (v_m X) 1565 ls [.int 1])) {L : Nat} {xs : Nat → Int32} (hX : v_XX G L xs)   {K91 : vSt → Int32 → Int32 → Int32 → Prop} (hK91 : ∀ S x4 x5 x6, K91 S x4 x5 x6 → VJ X G S 91 [(0, .ref (G.1 (145 + 99))), (1, .ref (G.1 0)), (3, .ref (G.1 144)), (4, .int x4), (5, .int x5), (6, .int x6)] []) {K259 : vSt → Int32 → Int32 → Int32 → Int32 → Int32 → Int32 → Int32 → Int32 → Prop} (hK259 : ∀ S x4 x5 x6 x7 x8 x9 x11 x12, K259 S x4 x5 x6 x7 x8 x9 x11 x12 → VJ X G S 259 [(0, .ref (G.1 (145 + 99))), (1, .ref (G.1 0)), (3, .ref (G.1 144)), (4, .int x4), (5, .int x5), (6, .int x6), (7, .int x7), (8, .int x8), (9, .int x9), (11, .int x11), (12, .int x12)] []) {K370 : vSt → Int32 → Int32 → Int32 → Int32 → Int32 → Int32 → Int32 → Int32 → Int32 → Int32 → Prop} (hK370 : ∀ S x4 x5 x6 x7 x8 x9 x11 x12 x14 x15, K370 S x4 x5 x6 x7 x8 x9 x11 x12 x14 x15 → VJ X G S 370 [(0, .ref (G.1 (145 + 99))), (1, .ref (G.1 0)), (3, .ref (G.1 144)), (4, .int x4), (5, .int x5), (6, .int x6), (7, .int x7), (8, .int x8), (9, .int x9), (11, .int x11), (12, .int x12), (14, .int x14), (15, .int x15)] []) : ∀ (S : vSt) (x4 : Int32) (x5 : Int32) (x6 : Int32) (x7 : Int32) (x8 : Int32) (x9 : Int32) (x11 : Int32) (x12 : Int32) (x14 : Int32) (x15 : Int32) (x20 : Int64) (x22 : Int64), p_L_law_488 L xs K91 K259 K370 post S x4 x5 x6 x7 x8 x9 x11 x12 x14 x15 x20 x22 → VJ X G S 488 [(0, .ref (G.1 (145 + 99))), (1, .ref (G.1 0)), (3, .ref (G.1 144)), (4, .int x4), (5, .int x5), (6, .int x6), (7, .int x7), (8, .int x8), (9, .int x9), (11, .int x11), (12, .int x12), (14, .int x14), (15, .int x15), (20, .long x20), (22, .long x22)] [] := by
  intro S x4 x5 x6 x7 x8 x9 x11 x12 x14 x15 x20 x22 h
  refine V_aload_n C 1 dL_law_488 rfl rfl ?_
  refine V_iload C 12 dL_law_489 rfl ?_
  refine V_iload C 10 dL_law_491 rfl ?_
  refine V_callVz (As := [.int x15, .int x12]) (rest := []) C (c_X10_loss (v_l X) G  _ _ _ h) 0 10 (by decide) (by decide) (by decide) rfl KV_X10_loss k_RL_163 rfl rfl rfl (Nat.le_of_ble_eq_true rfl) ⟨by decide, by decide⟩ dL_law_493 (fun r644 S643 h => ?_)
  refine V_ifb_eq (tgt := 526) C dL_law_496 (by decide) (fun c => ?_) (fun c => ?_)
  · have h := h.1 c
    refine V_iconst (v := 0) C dL_law_526 (by decide) ?_
    exact h.elim
  · have h := h.2 c
    refine V_aload_n C 1 dL_law_499 rfl rfl ?_
    refine V_callVl (As := []) (rest := []) C (c_X10_top (v_l X) G  _ h) 0 10 (by decide) (by decide) (by decide) rfl KV_X10_top k_RL_109 rfl rfl rfl (Nat.le_of_ble_eq_true rfl) ⟨by decide, by decide⟩ dL_law_500 (fun r646 S645 h => ?_)
    refine V_lconst (v := 0) C dL_law_503 (by decide) ?_
    refine V_lcmp_lt (tgt := 526) C dL_law_504 dL_law_505 (by decide) (fun c => ?_) (fun c => ?_)
    · have h := h.1 c
      refine V_iconst (v := 0) C dL_law_526 (by decide) ?_
      exact h.elim
    · have h := h.2 c
      refine V_aload_n C 1 dL_law_508 rfl rfl ?_
      refine V_callVl (As := []) (rest := []) C (c_X10_top (v_l X) G  _ h) 0 10 (by decide) (by decide) (by decide) rfl KV_X10_top k_RL_109 rfl rfl rfl (Nat.le_of_ble_eq_true rfl) ⟨by decide, by decide⟩ dL_law_509 (fun r648 S647 h => ?_)
      refine V_lload C 14 dL_law_512 rfl ?_
      refine V_lmul C dL_law_514 ?_
      refine V_lload C 13 dL_law_515 rfl ?_
      refine V_aload_n C 1 dL_law_517 rfl rfl ?_
      refine V_callVl (As := []) (rest := [.long x20, .long (r648 * x22)]) C (c_X10_bottom (v_l X) G  _ h) 0 10 (by decide) (by decide) (by decide) rfl KV_X10_bottom k_RL_105 rfl rfl rfl (Nat.le_of_ble_eq_true rfl) ⟨by decide, by decide⟩ dL_law_518 (fun r650 S649 h => ?_)
      refine V_lmul C dL_law_521 ?_
      refine V_lcmp_ge (tgt := 528) C dL_law_522 dL_law_523 (by decide) (fun c => ?_) (fun c => ?_)
      · have h := h.1 c
        refine V_iload C 11 dL_law_528 rfl ?_
        refine V_if_lt (tgt := 564) C dL_law_530 (by decide) (fun c => ?_) (fun c => ?_)
        · have h := h.1 c
          exact q_L_law_564 C D hX hK91 hK259 hK370 _ _ _ _ _ _ _ _ _ _ _ _ _ h
        · have h := h.2 c
          refine V_aload_n C 1 dL_law_533 rfl rfl ?_
          refine V_iload C 11 dL_law_534 rfl ?_
          refine V_iload C 10 dL_law_536 rfl ?_
          refine V_callVz (As := [.int x14, .int x12]) (rest := []) C (c_X10_gain (v_l X) G  _ _ _ h) 0 10 (by decide) (by decide) (by decide) rfl KV_X10_gain k_RL_160 rfl rfl rfl (Nat.le_of_ble_eq_true rfl) ⟨by decide, by decide⟩ dL_law_538 (fun r652 S651 h => ?_)
          refine V_ifb_eq (tgt := 562) C dL_law_541 (by decide) (fun c => ?_) (fun c => ?_)
          · have h := h.1 c
            refine V_iconst (v := 0) C dL_law_562 (by decide) ?_
            exact h.elim
          · have h := h.2 c
            refine V_aload_n C 1 dL_law_544 rfl rfl ?_
            refine V_callVl (As := []) (rest := []) C (c_X10_top (v_l X) G  _ h) 0 10 (by decide) (by decide) (by decide) rfl KV_X10_top k_RL_109 rfl rfl rfl (Nat.le_of_ble_eq_true rfl) ⟨by decide, by decide⟩ dL_law_545 (fun r654 S653 h => ?_)
            refine V_lload C 14 dL_law_548 rfl ?_
            refine V_lmul C dL_law_550 ?_
            refine V_lload C 13 dL_law_551 rfl ?_
            refine V_aload_n C 1 dL_law_553 rfl rfl ?_
            refine V_callVl (As := []) (rest := [.long x20, .long (r654 * x22)]) C (c_X10_bottom (v_l X) G  _ h) 0 10 (by decide) (by decide) (by decide) rfl KV_X10_bottom k_RL_105 rfl rfl rfl (Nat.le_of_ble_eq_true rfl) ⟨by decide, by decide⟩ dL_law_554 (fun r656 S655 h => ?_)
            refine V_lmul C dL_law_557 ?_
            refine V_lcmp_ge (tgt := 564) C dL_law_558 dL_law_559 (by decide) (fun c => ?_) (fun c => ?_)
            · have h := h.1 c
              exact q_L_law_564 C D hX hK91 hK259 hK370 _ _ _ _ _ _ _ _ _ _ _ _ _ h
            · have h := h.2 c
              refine V_iconst (v := 0) C dL_law_562 (by decide) ?_
              exact h.elim
      · have h := h.2 c
        refine V_iconst (v := 0) C dL_law_526 (by decide) ?_
        exact h.elim
set_option maxHeartbeats 16000000 in
set_option maxRecDepth 100000 in
theorem q_L_law_370 {X : vX} {G : vG}  {post : Unit} (C : v_Cx X G cL_law RL 26 room_1) (D : ∀ H locs ls, va_S (v_AA X) (v_s X).heap H locs → v_W X H locs (F0 (v_m X) 1565 ls [.int 1])) {L : Nat} {xs : Nat → Int32} (hX : v_XX G L xs)   {K91 : vSt → Int32 → Int32 → Int32 → Prop} (hK91 : ∀ S x4 x5 x6, K91 S x4 x5 x6 → VJ X G S 91 [(0, .ref (G.1 (145 + 99))), (1, .ref (G.1 0)), (3, .ref (G.1 144)), (4, .int x4), (5, .int x5), (6, .int x6)] []) {K259 : vSt → Int32 → Int32 → Int32 → Int32 → Int32 → Int32 → Int32 → Int32 → Prop} (hK259 : ∀ S x4 x5 x6 x7 x8 x9 x11 x12, K259 S x4 x5 x6 x7 x8 x9 x11 x12 → VJ X G S 259 [(0, .ref (G.1 (145 + 99))), (1, .ref (G.1 0)), (3, .ref (G.1 144)), (4, .int x4), (5, .int x5), (6, .int x6), (7, .int x7), (8, .int x8), (9, .int x9), (11, .int x11), (12, .int x12)] []) : ∀ (fu : Nat) (S : vSt) (x4 : Int32) (x5 : Int32) (x6 : Int32) (x7 : Int32) (x8 : Int32) (x9 : Int32) (x11 : Int32) (x12 : Int32) (x14 : Int32) (x15 : Int32), p_L_law_370 L xs K91 K259 post fu S x4 x5 x6 x7 x8 x9 x11 x12 x14 x15 → VJ X G S 370 [(0, .ref (G.1 (145 + 99))), (1, .ref (G.1 0)), (3, .ref (G.1 144)), (4, .int x4), (5, .int x5), (6, .int x6), (7, .int x7), (8, .int x8), (9, .int x9), (11, .int x11), (12, .int x12), (14, .int x14), (15, .int x15)] [] := by
  intro fu
  induction fu with
  | zero => intro S x4 x5 x6 x7 x8 x9 x11 x12 x14 x15 h; exact absurd h id
  | succ fu ih =>
    intro S x4 x5 x6 x7 x8 x9 x11 x12 x14 x15 h
    have hK370 := ih
    rw [e_L_law_370] at h
    refine V_iload C 12 dL_law_370 rfl ?_
    refine V_aload_n C 2 dL_law_372 rfl rfl ?_
    refine V_iconst (v := 0) C dL_law_373 (by decide) ?_
    obtain ⟨hi, h⟩ := h
    refine V_iald C 144 29 (by decide) (by decide) hi dL_law_374 ?_
    refine V_icmp_ge (tgt := 678) C dL_law_375 (by decide) (fun c => ?_) (fun c => ?_)
    · have h := h.1 c
      obtain ⟨y622, ey622⟩ : ∃ z : Int32, z = x12 + 1 := ⟨_, rfl⟩
      have h := h y622 ey622
      refine V_iinc (lv' := [(0, .ref (G.1 (145 + 99))), (1, .ref (G.1 0)), (3, .ref (G.1 144)), (4, .int x4), (5, .int x5), (6, .int x6), (7, .int x7), (8, .int x8), (9, .int x9), (11, .int x11), (12, .int y622), (14, .int x14), (15, .int x15)]) C 10 [1, 2, 3, 4, 5, 6, 7, 8, 9, 10, 0, 11, 12] y622 dL_law_678 rfl (by rw [ey622]; rfl) (by decide) rfl ?_
      refine V_goto (tgt := 259) C dL_law_681 (by decide) ?_
      refine V_loc (lv' := [(0, .ref (G.1 (145 + 99))), (1, .ref (G.1 0)), (3, .ref (G.1 144)), (4, .int x4), (5, .int x5), (6, .int x6), (7, .int x7), (8, .int x8), (9, .int x9), (11, .int x11), (12, .int y622)]) [0, 1, 2, 3, 4, 5, 6, 7, 8, 9, 10] rfl ?_
      exact hK259 _ _ _ _ _ _ _ _ _ h
    · have h := h.2 c
      refine V_aload_n C 1 dL_law_378 rfl rfl ?_
      refine V_iload C 12 dL_law_379 rfl ?_
      refine V_iload C 10 dL_law_381 rfl ?_
      refine V_callVi (As := [.int x15, .int x12]) (rest := []) C (c_X10_can (v_l X) G  _ _ _ h) 0 10 (by decide) (by decide) (by decide) rfl KV_X10_can k_RL_150 rfl rfl rfl (Nat.le_of_ble_eq_true rfl) ⟨by decide, by decide⟩ dL_law_383 (fun r624 S623 h => ?_)
      refine V_if_ne (tgt := 392) C dL_law_386 (by decide) (fun c => ?_) (fun c => ?_)
      · have h := h.1 c
        refine V_aload_n C 1 dL_law_392 rfl rfl ?_
        refine V_iload C 12 dL_law_393 rfl ?_
        refine V_iload C 10 dL_law_395 rfl ?_
        refine V_callVz (As := [.int x15, .int x12]) (rest := []) C (c_X10_wins (v_l X) G  _ _ _ h) 0 10 (by decide) (by decide) (by decide) rfl KV_X10_wins k_RL_153 rfl rfl rfl (Nat.le_of_ble_eq_true rfl) ⟨by decide, by decide⟩ dL_law_397 (fun r626 S625 h => ?_)
        refine V_ifb_ne (tgt := 405) C dL_law_400 (by decide) (fun c => ?_) (fun c => ?_)
        · have h := h.1 c
          refine V_aload_n C 1 dL_law_405 rfl rfl ?_
          refine V_callVl (As := []) (rest := []) C (c_X10_top (v_l X) G  _ h) 0 10 (by decide) (by decide) (by decide) rfl KV_X10_top k_RL_109 rfl rfl rfl (Nat.le_of_ble_eq_true rfl) ⟨by decide, by decide⟩ dL_law_406 (fun r628 S627 h => ?_)
          refine V_lstore (lv' := [(0, .ref (G.1 (145 + 99))), (1, .ref (G.1 0)), (3, .ref (G.1 144)), (4, .int x4), (5, .int x5), (6, .int x6), (7, .int x7), (8, .int x8), (9, .int x9), (11, .int x11), (12, .int x12), (14, .int x14), (15, .int x15), (16, .long r628)]) C [1, 2, 3, 4, 5, 6, 7, 8, 9, 10, 11, 12, 13, 0] dL_law_409 (by decide) rfl ?_
          refine V_aload_n C 1 dL_law_411 rfl rfl ?_
          refine V_callVl (As := []) (rest := []) C (c_X10_bottom (v_l X) G  _ h) 0 10 (by decide) (by decide) (by decide) rfl KV_X10_bottom k_RL_105 rfl rfl rfl (Nat.le_of_ble_eq_true rfl) ⟨by decide, by decide⟩ dL_law_412 (fun r630 S629 h => ?_)
          refine V_lstore (lv' := [(0, .ref (G.1 (145 + 99))), (1, .ref (G.1 0)), (3, .ref (G.1 144)), (4, .int x4), (5, .int x5), (6, .int x6), (7, .int x7), (8, .int x8), (9, .int x9), (11, .int x11), (12, .int x12), (14, .int x14), (15, .int x15), (16, .long r628), (18, .long r630)]) C [1, 2, 3, 4, 5, 6, 7, 8, 9, 10, 11, 12, 13, 14, 0] dL_law_415 (by decide) rfl ?_
          refine V_aload_n C 1 dL_law_417 rfl rfl ?_
          refine V_iload C 12 dL_law_418 rfl ?_
          refine V_iload C 10 dL_law_420 rfl ?_
          refine V_callVz (As := [.int x15, .int x12]) (rest := []) C (c_X10_owes (v_l X) G  _ _ _ h) 0 10 (by decide) (by decide) (by decide) rfl KV_X10_owes k_RL_157 rfl rfl rfl (Nat.le_of_ble_eq_true rfl) ⟨by decide, by decide⟩ dL_law_422 (fun r632 S631 h => ?_)
          refine V_ifb_eq (tgt := 449) C dL_law_425 (by decide) (fun c => ?_) (fun c => ?_)
          · have h := h.1 c
            refine V_iconst (v := 0) C dL_law_449 (by decide) ?_
            exact h.elim
          · have h := h.2 c
            refine V_aload_n C 1 dL_law_428 rfl rfl ?_
            refine V_callVl (As := []) (rest := []) C (c_X10_top (v_l X) G  _ h) 0 10 (by decide) (by decide) (by decide) rfl KV_X10_top k_RL_109 rfl rfl rfl (Nat.le_of_ble_eq_true rfl) ⟨by decide, by decide⟩ dL_law_429 (fun r634 S633 h => ?_)
            refine V_lload C 14 dL_law_432 rfl ?_
            refine V_lmul C dL_law_434 ?_
            refine V_lload C 14 dL_law_435 rfl ?_
            refine V_lload C 13 dL_law_437 rfl ?_
            refine V_lsub C dL_law_439 ?_
            refine V_aload_n C 1 dL_law_440 rfl rfl ?_
            refine V_callVl (As := []) (rest := [.long (r630 - r628), .long (r634 * r630)]) C (c_X10_bottom (v_l X) G  _ h) 0 10 (by decide) (by decide) (by decide) rfl KV_X10_bottom k_RL_105 rfl rfl rfl (Nat.le_of_ble_eq_true rfl) ⟨by decide, by decide⟩ dL_law_441 (fun r636 S635 h => ?_)
            refine V_lmul C dL_law_444 ?_
            refine V_lcmp_le (tgt := 451) C dL_law_445 dL_law_446 (by decide) (fun c => ?_) (fun c => ?_)
            · have h := h.1 c
              refine V_aload_n C 1 dL_law_451 rfl rfl ?_
              refine V_iload C 12 dL_law_452 rfl ?_
              refine V_iload C 10 dL_law_454 rfl ?_
              refine V_callVz (As := [.int x15, .int x12]) (rest := []) C (c_X10_gain (v_l X) G  _ _ _ h) 0 10 (by decide) (by decide) (by decide) rfl KV_X10_gain k_RL_160 rfl rfl rfl (Nat.le_of_ble_eq_true rfl) ⟨by decide, by decide⟩ dL_law_456 (fun r638 S637 h => ?_)
              refine V_ifb_ne (tgt := 464) C dL_law_459 (by decide) (fun c => ?_) (fun c => ?_)
              · have h := h.1 c
                refine V_aload_n C 1 dL_law_464 rfl rfl ?_
                refine V_callVl (As := []) (rest := []) C (c_X10_top (v_l X) G  _ h) 0 10 (by decide) (by decide) (by decide) rfl KV_X10_top k_RL_109 rfl rfl rfl (Nat.le_of_ble_eq_true rfl) ⟨by decide, by decide⟩ dL_law_465 (fun r640 S639 h => ?_)
                refine V_lstore (lv' := [(0, .ref (G.1 (145 + 99))), (1, .ref (G.1 0)), (3, .ref (G.1 144)), (4, .int x4), (5, .int x5), (6, .int x6), (7, .int x7), (8, .int x8), (9, .int x9), (11, .int x11), (12, .int x12), (14, .int x14), (15, .int x15), (16, .long r628), (18, .long r630), (20, .long r640)]) C [1, 2, 3, 4, 5, 6, 7, 8, 9, 10, 11, 12, 13, 14, 15, 0] dL_law_468 (by decide) rfl ?_
                refine V_aload_n C 1 dL_law_470 rfl rfl ?_
                refine V_callVl (As := []) (rest := []) C (c_X10_bottom (v_l X) G  _ h) 0 10 (by decide) (by decide) (by decide) rfl KV_X10_bottom k_RL_105 rfl rfl rfl (Nat.le_of_ble_eq_true rfl) ⟨by decide, by decide⟩ dL_law_471 (fun r642 S641 h => ?_)
                refine V_lstore (lv' := [(0, .ref (G.1 (145 + 99))), (1, .ref (G.1 0)), (3, .ref (G.1 144)), (4, .int x4), (5, .int x5), (6, .int x6), (7, .int x7), (8, .int x8), (9, .int x9), (11, .int x11), (12, .int x12), (14, .int x14), (15, .int x15), (16, .long r628), (18, .long r630), (20, .long r640), (22, .long r642)]) C [1, 2, 3, 4, 5, 6, 7, 8, 9, 10, 11, 12, 13, 14, 15, 16, 0] dL_law_474 (by decide) rfl ?_
                refine V_lload C 15 dL_law_476 rfl ?_
                refine V_lconst (v := 0) C dL_law_478 (by decide) ?_
                refine V_lcmp_le (tgt := 488) C dL_law_479 dL_law_480 (by decide) (fun c => ?_) (fun c => ?_)
                · have h := h.1 c
                  refine V_loc (lv' := [(0, .ref (G.1 (145 + 99))), (1, .ref (G.1 0)), (3, .ref (G.1 144)), (4, .int x4), (5, .int x5), (6, .int x6), (7, .int x7), (8, .int x8), (9, .int x9), (11, .int x11), (12, .int x12), (14, .int x14), (15, .int x15), (20, .long r640), (22, .long r642)]) [0, 1, 2, 3, 4, 5, 6, 7, 8, 9, 10, 11, 12, 15, 16] rfl ?_
                  exact q_L_law_488 C D hX hK91 hK259 hK370 _ _ _ _ _ _ _ _ _ _ _ _ _ h
                · have h := h.2 c
                  refine V_iload C 11 dL_law_483 rfl ?_
                  refine V_if_lt (tgt := 526) C dL_law_485 (by decide) (fun c => ?_) (fun c => ?_)
                  · have h := h.1 c
                    refine V_iconst (v := 0) C dL_law_526 (by decide) ?_
                    exact h.elim
                  · have h := h.2 c
                    refine V_loc (lv' := [(0, .ref (G.1 (145 + 99))), (1, .ref (G.1 0)), (3, .ref (G.1 144)), (4, .int x4), (5, .int x5), (6, .int x6), (7, .int x7), (8, .int x8), (9, .int x9), (11, .int x11), (12, .int x12), (14, .int x14), (15, .int x15), (20, .long r640), (22, .long r642)]) [0, 1, 2, 3, 4, 5, 6, 7, 8, 9, 10, 11, 12, 15, 16] rfl ?_
                    exact q_L_law_488 C D hX hK91 hK259 hK370 _ _ _ _ _ _ _ _ _ _ _ _ _ h
              · have h := h.2 c
                refine V_iconst (v := 0) C dL_law_462 (by decide) ?_
                exact h.elim
            · have h := h.2 c
              refine V_iconst (v := 0) C dL_law_449 (by decide) ?_
              exact h.elim
        · have h := h.2 c
          refine V_iconst (v := 0) C dL_law_403 (by decide) ?_
          exact h.elim
      · have h := h.2 c
        refine V_goto (tgt := 672) C dL_law_389 (by decide) ?_
        exact q_L_law_672 C D hX hK91 hK259 hK370 _ _ _ _ _ _ _ _ _ _ _ h
set_option maxHeartbeats 16000000 in
set_option maxRecDepth 100000 in
theorem q_L_law_367 {X : vX} {G : vG}  {post : Unit} (C : v_Cx X G cL_law RL 26 room_1) (D : ∀ H locs ls, va_S (v_AA X) (v_s X).heap H locs → v_W X H locs (F0 (v_m X) 1565 ls [.int 1])) {L : Nat} {xs : Nat → Int32} (hX : v_XX G L xs)   {K91 : vSt → Int32 → Int32 → Int32 → Prop} (hK91 : ∀ S x4 x5 x6, K91 S x4 x5 x6 → VJ X G S 91 [(0, .ref (G.1 (145 + 99))), (1, .ref (G.1 0)), (3, .ref (G.1 144)), (4, .int x4), (5, .int x5), (6, .int x6)] []) {K259 : vSt → Int32 → Int32 → Int32 → Int32 → Int32 → Int32 → Int32 → Int32 → Prop} (hK259 : ∀ S x4 x5 x6 x7 x8 x9 x11 x12, K259 S x4 x5 x6 x7 x8 x9 x11 x12 → VJ X G S 259 [(0, .ref (G.1 (145 + 99))), (1, .ref (G.1 0)), (3, .ref (G.1 144)), (4, .int x4), (5, .int x5), (6, .int x6), (7, .int x7), (8, .int x8), (9, .int x9), (11, .int x11), (12, .int x12)] []) : ∀ (S : vSt) (x4 : Int32) (x5 : Int32) (x6 : Int32) (x7 : Int32) (x8 : Int32) (x9 : Int32) (x11 : Int32) (x12 : Int32) (x14 : Int32), p_L_law_367 L xs K91 K259 post S x4 x5 x6 x7 x8 x9 x11 x12 x14 → VJ X G S 367 [(0, .ref (G.1 (145 + 99))), (1, .ref (G.1 0)), (3, .ref (G.1 144)), (4, .int x4), (5, .int x5), (6, .int x6), (7, .int x7), (8, .int x8), (9, .int x9), (11, .int x11), (12, .int x12), (14, .int x14)] [] := by
  intro S x4 x5 x6 x7 x8 x9 x11 x12 x14 h
  refine V_iconst (v := 0) C dL_law_367 (by decide) ?_
  refine V_istore (lv' := [(0, .ref (G.1 (145 + 99))), (1, .ref (G.1 0)), (3, .ref (G.1 144)), (4, .int x4), (5, .int x5), (6, .int x6), (7, .int x7), (8, .int x8), (9, .int x9), (11, .int x11), (12, .int x12), (14, .int x14), (15, .int 0)]) C [1, 2, 3, 4, 5, 6, 7, 8, 9, 10, 11, 12, 0] dL_law_368 (by decide) rfl ?_
  obtain ⟨fu370, h⟩ := h
  exact q_L_law_370 C D hX hK91 hK259 fu370 _ _ _ _ _ _ _ _ _ _ _ h
set_option maxHeartbeats 16000000 in
set_option maxRecDepth 100000 in
theorem q_L_law_304 {X : vX} {G : vG}  {post : Unit} (C : v_Cx X G cL_law RL 26 room_1) (D : ∀ H locs ls, va_S (v_AA X) (v_s X).heap H locs → v_W X H locs (F0 (v_m X) 1565 ls [.int 1])) {L : Nat} {xs : Nat → Int32} (hX : v_XX G L xs)   {K91 : vSt → Int32 → Int32 → Int32 → Prop} (hK91 : ∀ S x4 x5 x6, K91 S x4 x5 x6 → VJ X G S 91 [(0, .ref (G.1 (145 + 99))), (1, .ref (G.1 0)), (3, .ref (G.1 144)), (4, .int x4), (5, .int x5), (6, .int x6)] []) {K259 : vSt → Int32 → Int32 → Int32 → Int32 → Int32 → Int32 → Int32 → Int32 → Prop} (hK259 : ∀ S x4 x5 x6 x7 x8 x9 x11 x12, K259 S x4 x5 x6 x7 x8 x9 x11 x12 → VJ X G S 259 [(0, .ref (G.1 (145 + 99))), (1, .ref (G.1 0)), (3, .ref (G.1 144)), (4, .int x4), (5, .int x5), (6, .int x6), (7, .int x7), (8, .int x8), (9, .int x9), (11, .int x11), (12, .int x12)] []) : ∀ (S : vSt) (x4 : Int32) (x5 : Int32) (x6 : Int32) (x7 : Int32) (x8 : Int32) (x9 : Int32) (x11 : Int32) (x12 : Int32) (x13 : Bool) (x14 : Int32) (s0 : Bool) (s1 : Bool), p_L_law_304 L xs K91 K259 post S x4 x5 x6 x7 x8 x9 x11 x12 x13 x14 s0 s1 → VJ X G S 304 [(0, .ref (G.1 (145 + 99))), (1, .ref (G.1 0)), (3, .ref (G.1 144)), (4, .int x4), (5, .int x5), (6, .int x6), (7, .int x7), (8, .int x8), (9, .int x9), (11, .int x11), (12, .int x12), (13, .int (v_b x13)), (14, .int x14)] [.int (v_b s0), .int (v_b s1)] := by
  intro S x4 x5 x6 x7 x8 x9 x11 x12 x13 x14 s0 s1 h
  refine V_icmp_ne (tgt := 365) C dL_law_304 (by decide) (fun c => ?_) (fun c => ?_)
  · have h := h.1 c
    refine V_iconst (v := 0) C dL_law_365 (by decide) ?_
    exact h.elim
  · have h := h.2 c
    refine V_iload C 11 dL_law_307 rfl ?_
    refine V_ifb_eq (tgt := 367) C dL_law_309 (by decide) (fun c => ?_) (fun c => ?_)
    · have h := h.1 c
      refine V_loc (lv' := [(0, .ref (G.1 (145 + 99))), (1, .ref (G.1 0)), (3, .ref (G.1 144)), (4, .int x4), (5, .int x5), (6, .int x6), (7, .int x7), (8, .int x8), (9, .int x9), (11, .int x11), (12, .int x12), (14, .int x14)]) [0, 1, 2, 3, 4, 5, 6, 7, 8, 9, 10, 12] rfl ?_
      exact q_L_law_367 C D hX hK91 hK259 _ _ _ _ _ _ _ _ _ _ h
    · have h := h.2 c
      refine V_aload_n C 1 dL_law_312 rfl rfl ?_
      refine V_iload C 10 dL_law_313 rfl ?_
      refine V_callVi (As := [.int x12]) (rest := []) C (c_X10_leastShare (v_l X) G  _ _ h) 0 10 (by decide) (by decide) (by decide) rfl KV_X10_leastShare k_RL_136 rfl rfl rfl (Nat.le_of_ble_eq_true rfl) ⟨by decide, by decide⟩ dL_law_315 (fun r623 S622 h => ?_)
      refine V_aload_n C 1 dL_law_318 rfl rfl ?_
      refine V_iconst (v := 5) C dL_law_319 (by decide) ?_
      refine V_callVi (As := [.int 5]) (rest := [.int r623]) C (c_X10_many (v_l X) G  _ _ h) 0 10 (by decide) (by decide) (by decide) rfl KV_X10_many k_RL_121 rfl rfl rfl (Nat.le_of_ble_eq_true rfl) ⟨by decide, by decide⟩ dL_law_320 (fun r625 S624 h => ?_)
      refine V_icmp_gt (tgt := 365) C dL_law_323 (by decide) (fun c => ?_) (fun c => ?_)
      · have h := h.1 c
        refine V_iconst (v := 0) C dL_law_365 (by decide) ?_
        exact h.elim
      · have h := h.2 c
        refine V_aload_n C 1 dL_law_326 rfl rfl ?_
        refine V_iload C 10 dL_law_327 rfl ?_
        refine V_callVi (As := [.int x12]) (rest := []) C (c_X10_mostPenalty (v_l X) G  _ _ h) 0 10 (by decide) (by decide) (by decide) rfl KV_X10_mostPenalty k_RL_139 rfl rfl rfl (Nat.le_of_ble_eq_true rfl) ⟨by decide, by decide⟩ dL_law_329 (fun r627 S626 h => ?_)
        refine V_aload_n C 1 dL_law_332 rfl rfl ?_
        refine V_iconst (v := 4) C dL_law_333 (by decide) ?_
        refine V_callVi (As := [.int 4]) (rest := [.int r627]) C (c_X10_many (v_l X) G  _ _ h) 0 10 (by decide) (by decide) (by decide) rfl KV_X10_many k_RL_121 rfl rfl rfl (Nat.le_of_ble_eq_true rfl) ⟨by decide, by decide⟩ dL_law_334 (fun r629 S628 h => ?_)
        refine V_icmp_lt (tgt := 365) C dL_law_337 (by decide) (fun c => ?_) (fun c => ?_)
        · have h := h.1 c
          refine V_iconst (v := 0) C dL_law_365 (by decide) ?_
          exact h.elim
        · have h := h.2 c
          refine V_aload_n C 1 dL_law_340 rfl rfl ?_
          refine V_iload C 10 dL_law_341 rfl ?_
          refine V_callVi (As := [.int x12]) (rest := []) C (c_X10_leastFine (v_l X) G  _ _ h) 0 10 (by decide) (by decide) (by decide) rfl KV_X10_leastFine k_RL_142 rfl rfl rfl (Nat.le_of_ble_eq_true rfl) ⟨by decide, by decide⟩ dL_law_343 (fun r631 S630 h => ?_)
          refine V_aload_n C 1 dL_law_346 rfl rfl ?_
          refine V_iload C 10 dL_law_347 rfl ?_
          refine V_iconst (v := 1) C dL_law_349 (by decide) ?_
          refine V_callVi (As := [.int x12, .int 1]) (rest := [.int r631]) C (c_X10_deed (v_l X) G  _ _ _ h) 0 10 (by decide) (by decide) (by decide) rfl KV_X10_deed k_RL_145 rfl rfl rfl (Nat.le_of_ble_eq_true rfl) ⟨by decide, by decide⟩ dL_law_350 (fun r633 S632 h => ?_)
          refine V_icmp_gt (tgt := 365) C dL_law_353 (by decide) (fun c => ?_) (fun c => ?_)
          · have h := h.1 c
            refine V_iconst (v := 0) C dL_law_365 (by decide) ?_
            exact h.elim
          · have h := h.2 c
            refine V_aload_n C 1 dL_law_356 rfl rfl ?_
            refine V_iload C 10 dL_law_357 rfl ?_
            refine V_callVi (As := [.int x12]) (rest := []) C (c_X10_friend (v_l X) G  _ _ h) 0 10 (by decide) (by decide) (by decide) rfl KV_X10_friend k_RL_147 rfl rfl rfl (Nat.le_of_ble_eq_true rfl) ⟨by decide, by decide⟩ dL_law_359 (fun r635 S634 h => ?_)
            refine V_if_ge (tgt := 367) C dL_law_362 (by decide) (fun c => ?_) (fun c => ?_)
            · have h := h.1 c
              refine V_loc (lv' := [(0, .ref (G.1 (145 + 99))), (1, .ref (G.1 0)), (3, .ref (G.1 144)), (4, .int x4), (5, .int x5), (6, .int x6), (7, .int x7), (8, .int x8), (9, .int x9), (11, .int x11), (12, .int x12), (14, .int x14)]) [0, 1, 2, 3, 4, 5, 6, 7, 8, 9, 10, 12] rfl ?_
              exact q_L_law_367 C D hX hK91 hK259 _ _ _ _ _ _ _ _ _ _ h
            · have h := h.2 c
              refine V_iconst (v := 0) C dL_law_365 (by decide) ?_
              exact h.elim
set_option maxHeartbeats 16000000 in
set_option maxRecDepth 100000 in
theorem q_L_law_282 {X : vX} {G : vG}  {post : Unit} (C : v_Cx X G cL_law RL 26 room_1) (D : ∀ H locs ls, va_S (v_AA X) (v_s X).heap H locs → v_W X H locs (F0 (v_m X) 1565 ls [.int 1])) {L : Nat} {xs : Nat → Int32} (hX : v_XX G L xs)   {K91 : vSt → Int32 → Int32 → Int32 → Prop} (hK91 : ∀ S x4 x5 x6, K91 S x4 x5 x6 → VJ X G S 91 [(0, .ref (G.1 (145 + 99))), (1, .ref (G.1 0)), (3, .ref (G.1 144)), (4, .int x4), (5, .int x5), (6, .int x6)] []) {K259 : vSt → Int32 → Int32 → Int32 → Int32 → Int32 → Int32 → Int32 → Int32 → Prop} (hK259 : ∀ S x4 x5 x6 x7 x8 x9 x11 x12, K259 S x4 x5 x6 x7 x8 x9 x11 x12 → VJ X G S 259 [(0, .ref (G.1 (145 + 99))), (1, .ref (G.1 0)), (3, .ref (G.1 144)), (4, .int x4), (5, .int x5), (6, .int x6), (7, .int x7), (8, .int x8), (9, .int x9), (11, .int x11), (12, .int x12)] []) : ∀ (S : vSt) (x4 : Int32) (x5 : Int32) (x6 : Int32) (x7 : Int32) (x8 : Int32) (x9 : Int32) (x11 : Int32) (x12 : Int32) (s0 : Bool), p_L_law_282 L xs K91 K259 post S x4 x5 x6 x7 x8 x9 x11 x12 s0 → VJ X G S 282 [(0, .ref (G.1 (145 + 99))), (1, .ref (G.1 0)), (3, .ref (G.1 144)), (4, .int x4), (5, .int x5), (6, .int x6), (7, .int x7), (8, .int x8), (9, .int x9), (11, .int x11), (12, .int x12)] [.int (v_b s0)] := by
  intro S x4 x5 x6 x7 x8 x9 x11 x12 s0 h
  refine V_istore (lv' := [(0, .ref (G.1 (145 + 99))), (1, .ref (G.1 0)), (3, .ref (G.1 144)), (4, .int x4), (5, .int x5), (6, .int x6), (7, .int x7), (8, .int x8), (9, .int x9), (11, .int x11), (12, .int x12), (13, .int (v_b s0))]) C [1, 2, 3, 4, 5, 6, 7, 8, 9, 10, 11, 0] dL_law_282 (by decide) rfl ?_
  refine V_aload_n C 1 dL_law_284 rfl rfl ?_
  refine V_iload C 10 dL_law_285 rfl ?_
  refine V_callVi (As := [.int x12]) (rest := []) C (c_X10_accuser (v_l X) G  _ _ h) 0 10 (by decide) (by decide) (by decide) rfl KV_X10_accuser k_RL_133 rfl rfl rfl (Nat.le_of_ble_eq_true rfl) ⟨by decide, by decide⟩ dL_law_287 (fun r621 S620 h => ?_)
  refine V_istore (lv' := [(0, .ref (G.1 (145 + 99))), (1, .ref (G.1 0)), (3, .ref (G.1 144)), (4, .int x4), (5, .int x5), (6, .int x6), (7, .int x7), (8, .int x8), (9, .int x9), (11, .int x11), (12, .int x12), (13, .int (v_b s0)), (14, .int r621)]) C [1, 2, 3, 4, 5, 6, 7, 8, 9, 10, 11, 12, 0] dL_law_290 (by decide) rfl ?_
  refine V_iload C 11 dL_law_292 rfl ?_
  refine V_iload C 12 dL_law_294 rfl ?_
  refine V_if_lt (tgt := 303) C dL_law_296 (by decide) (fun c => ?_) (fun c => ?_)
  · have h := h.1 c
    refine V_iconst (v := 0) C dL_law_303 (by decide) ?_
    exact q_L_law_304 C D hX hK91 hK259 _ _ _ _ _ _ _ _ _ _ _ _ _ h
  · have h := h.2 c
    refine V_iconst (v := 1) C dL_law_299 (by decide) ?_
    refine V_goto (tgt := 304) C dL_law_300 (by decide) ?_
    exact q_L_law_304 C D hX hK91 hK259 _ _ _ _ _ _ _ _ _ _ _ _ _ h
set_option maxHeartbeats 16000000 in
set_option maxRecDepth 100000 in
theorem q_L_law_259 {X : vX} {G : vG}  {post : Unit} (C : v_Cx X G cL_law RL 26 room_1) (D : ∀ H locs ls, va_S (v_AA X) (v_s X).heap H locs → v_W X H locs (F0 (v_m X) 1565 ls [.int 1])) {L : Nat} {xs : Nat → Int32} (hX : v_XX G L xs)   {K91 : vSt → Int32 → Int32 → Int32 → Prop} (hK91 : ∀ S x4 x5 x6, K91 S x4 x5 x6 → VJ X G S 91 [(0, .ref (G.1 (145 + 99))), (1, .ref (G.1 0)), (3, .ref (G.1 144)), (4, .int x4), (5, .int x5), (6, .int x6)] []) : ∀ (fu : Nat) (S : vSt) (x4 : Int32) (x5 : Int32) (x6 : Int32) (x7 : Int32) (x8 : Int32) (x9 : Int32) (x11 : Int32) (x12 : Int32), p_L_law_259 L xs K91 post fu S x4 x5 x6 x7 x8 x9 x11 x12 → VJ X G S 259 [(0, .ref (G.1 (145 + 99))), (1, .ref (G.1 0)), (3, .ref (G.1 144)), (4, .int x4), (5, .int x5), (6, .int x6), (7, .int x7), (8, .int x8), (9, .int x9), (11, .int x11), (12, .int x12)] [] := by
  intro fu
  induction fu with
  | zero => intro S x4 x5 x6 x7 x8 x9 x11 x12 h; exact absurd h id
  | succ fu ih =>
    intro S x4 x5 x6 x7 x8 x9 x11 x12 h
    have hK259 := ih
    rw [e_L_law_259] at h
    refine V_iload C 10 dL_law_259 rfl ?_
    refine V_iload C 7 dL_law_261 rfl ?_
    refine V_icmp_ge (tgt := 684) C dL_law_263 (by decide) (fun c => ?_) (fun c => ?_)
    · have h := h.1 c
      refine V_iconst (v := 0) C dL_law_684 (by decide) ?_
      refine V_istore (lv' := [(0, .ref (G.1 (145 + 99))), (1, .ref (G.1 0)), (3, .ref (G.1 144)), (4, .int x4), (5, .int x5), (6, .int x6), (7, .int x7), (8, .int x8), (9, .int x9), (11, .int x11), (12, .int 0)]) C [1, 2, 3, 4, 5, 6, 7, 8, 9, 10, 0] dL_law_685 (by decide) rfl ?_
      obtain ⟨fu687, h⟩ := h
      exact q_L_law_687 C D hX hK91 fu687 _ _ _ _ _ _ _ _ _ h
    · have h := h.2 c
      refine V_iload C 9 dL_law_266 rfl ?_
      refine V_iload C 10 dL_law_268 rfl ?_
      refine V_ishr C dL_law_270 ?_
      refine V_iconst (v := 1) C dL_law_271 (by decide) ?_
      refine V_iand C dL_law_272 ?_
      refine V_iconst (v := 1) C dL_law_273 (by decide) ?_
      refine V_icmp_ne (tgt := 281) C dL_law_274 (by decide) (fun c => ?_) (fun c => ?_)
      · have h := h.1 c
        refine V_iconst (v := 0) C dL_law_281 (by decide) ?_
        exact q_L_law_282 C D hX hK91 hK259 _ _ _ _ _ _ _ _ _ _ h
      · have h := h.2 c
        refine V_iconst (v := 1) C dL_law_277 (by decide) ?_
        refine V_goto (tgt := 282) C dL_law_278 (by decide) ?_
        exact q_L_law_282 C D hX hK91 hK259 _ _ _ _ _ _ _ _ _ _ h
set_option maxHeartbeats 16000000 in
set_option maxRecDepth 100000 in
theorem q_L_law_157 {X : vX} {G : vG}  {post : Unit} (C : v_Cx X G cL_law RL 26 room_1) (D : ∀ H locs ls, va_S (v_AA X) (v_s X).heap H locs → v_W X H locs (F0 (v_m X) 1565 ls [.int 1])) {L : Nat} {xs : Nat → Int32} (hX : v_XX G L xs)   {K91 : vSt → Int32 → Int32 → Int32 → Prop} (hK91 : ∀ S x4 x5 x6, K91 S x4 x5 x6 → VJ X G S 91 [(0, .ref (G.1 (145 + 99))), (1, .ref (G.1 0)), (3, .ref (G.1 144)), (4, .int x4), (5, .int x5), (6, .int x6)] []) : ∀ (fu : Nat) (S : vSt) (x4 : Int32) (x5 : Int32) (x6 : Int32) (x7 : Int32) (x8 : Int32) (x9 : Int32) (x10 : Int32) (x11 : Int32), p_L_law_157 L xs K91 post fu S x4 x5 x6 x7 x8 x9 x10 x11 → VJ X G S 157 [(0, .ref (G.1 (145 + 99))), (1, .ref (G.1 0)), (3, .ref (G.1 144)), (4, .int x4), (5, .int x5), (6, .int x6), (7, .int x7), (8, .int x8), (9, .int x9), (10, .int x10), (11, .int x11)] [] := by
  intro fu
  induction fu with
  | zero => intro S x4 x5 x6 x7 x8 x9 x10 x11 h; exact absurd h id
  | succ fu ih =>
    intro S x4 x5 x6 x7 x8 x9 x10 x11 h
    have hK157 := ih
    rw [e_L_law_157] at h
    refine V_iload C 10 dL_law_157 rfl ?_
    refine V_aload_n C 2 dL_law_159 rfl rfl ?_
    refine V_iconst (v := 0) C dL_law_160 (by decide) ?_
    obtain ⟨hi, h⟩ := h
    refine V_iald C 144 29 (by decide) (by decide) hi dL_law_161 ?_
    refine V_icmp_ge (tgt := 183) C dL_law_162 (by decide) (fun c => ?_) (fun c => ?_)
    · have h := h.1 c
      refine V_iload C 9 dL_law_183 rfl ?_
      refine V_iload C 4 dL_law_185 rfl ?_
      refine V_icmp_ne (tgt := 214) C dL_law_187 (by decide) (fun c => ?_) (fun c => ?_)
      · have h := h.1 c
        refine V_iconst (v := 0) C dL_law_214 (by decide) ?_
        exact h.elim
      · have h := h.2 c
        refine V_iload C 8 dL_law_190 rfl ?_
        refine V_aload_n C 1 dL_law_192 rfl rfl ?_
        refine V_bipush (v := 8) C dL_law_193 (by decide) ?_
        refine V_callVi (As := [.int 8]) (rest := [.int x9]) C (c_X10_many (v_l X) G  _ _ h) 0 10 (by decide) (by decide) (by decide) rfl KV_X10_many k_RL_121 rfl rfl rfl (Nat.le_of_ble_eq_true rfl) ⟨by decide, by decide⟩ dL_law_195 (fun r607 S606 h => ?_)
        refine V_iand C dL_law_198 ?_
        refine V_if_ne (tgt := 214) C dL_law_199 (by decide) (fun c => ?_) (fun c => ?_)
        · have h := h.1 c
          refine V_iconst (v := 0) C dL_law_214 (by decide) ?_
          exact h.elim
        · have h := h.2 c
          refine V_aload_n C 1 dL_law_202 rfl rfl ?_
          refine V_callVi (As := []) (rest := []) C (c_X10_quiet (v_l X) G  _ h) 0 10 (by decide) (by decide) (by decide) rfl KV_X10_quiet k_RL_127 rfl rfl rfl (Nat.le_of_ble_eq_true rfl) ⟨by decide, by decide⟩ dL_law_203 (fun r609 S608 h => ?_)
          refine V_iload C 8 dL_law_206 rfl ?_
          refine V_iconst (v := (-1)) C dL_law_208 (by decide) ?_
          refine V_ixor C dL_law_209 ?_
          refine V_iand C dL_law_210 ?_
          refine V_if_eq (tgt := 216) C dL_law_211 (by decide) (fun c => ?_) (fun c => ?_)
          · have h := h.1 c
            refine V_aload_n C 1 dL_law_216 rfl rfl ?_
            refine V_aload_n C 1 dL_law_217 rfl rfl ?_
            refine V_iconst (v := 5) C dL_law_218 (by decide) ?_
            refine V_callVi (As := [.int 5]) (rest := [.ref (G.1 0)]) C (c_X10_many (v_l X) G  _ _ h) 0 10 (by decide) (by decide) (by decide) rfl KV_X10_many k_RL_121 rfl rfl rfl (Nat.le_of_ble_eq_true rfl) ⟨by decide, by decide⟩ dL_law_219 (fun r611 S610 h => ?_)
            refine V_aload_n C 1 dL_law_222 rfl rfl ?_
            refine V_iconst (v := 4) C dL_law_223 (by decide) ?_
            refine V_callVi (As := [.int 4]) (rest := [.int r611, .ref (G.1 0)]) C (c_X10_many (v_l X) G  _ _ h) 0 10 (by decide) (by decide) (by decide) rfl KV_X10_many k_RL_121 rfl rfl rfl (Nat.le_of_ble_eq_true rfl) ⟨by decide, by decide⟩ dL_law_224 (fun r613 S612 h => ?_)
            refine V_callVi (As := [.int r611, .int r613]) (rest := []) C (c_X10_gladBy (v_l X) G  _ _ _ h) 0 10 (by decide) (by decide) (by decide) rfl KV_X10_gladBy k_RL_130 rfl rfl rfl (Nat.le_of_ble_eq_true rfl) ⟨by decide, by decide⟩ dL_law_227 (fun r615 S614 h => ?_)
            refine V_istore (lv' := [(0, .ref (G.1 (145 + 99))), (1, .ref (G.1 0)), (3, .ref (G.1 144)), (4, .int x4), (5, .int x5), (6, .int x6), (7, .int x7), (8, .int x8), (9, .int x9), (10, .int x10), (11, .int r615)]) C [1, 2, 3, 4, 5, 6, 7, 8, 9, 10, 0] dL_law_230 (by decide) rfl ?_
            refine V_iload C 10 dL_law_232 rfl ?_
            refine V_aload_n C 1 dL_law_234 rfl rfl ?_
            refine V_callVi (As := []) (rest := [.int r615]) C (c_X10_quiet (v_l X) G  _ h) 0 10 (by decide) (by decide) (by decide) rfl KV_X10_quiet k_RL_127 rfl rfl rfl (Nat.le_of_ble_eq_true rfl) ⟨by decide, by decide⟩ dL_law_235 (fun r617 S616 h => ?_)
            refine V_iand C dL_law_238 ?_
            refine V_if_ne (tgt := 254) C dL_law_239 (by decide) (fun c => ?_) (fun c => ?_)
            · have h := h.1 c
              refine V_iconst (v := 0) C dL_law_254 (by decide) ?_
              exact h.elim
            · have h := h.2 c
              refine V_iload C 10 dL_law_242 rfl ?_
              refine V_aload_n C 1 dL_law_244 rfl rfl ?_
              refine V_callVi (As := []) (rest := [.int r615]) C (c_X10_quiet (v_l X) G  _ h) 0 10 (by decide) (by decide) (by decide) rfl KV_X10_quiet k_RL_127 rfl rfl rfl (Nat.le_of_ble_eq_true rfl) ⟨by decide, by decide⟩ dL_law_245 (fun r619 S618 h => ?_)
              refine V_ior C dL_law_248 ?_
              refine V_iload C 8 dL_law_249 rfl ?_
              refine V_icmp_eq (tgt := 256) C dL_law_251 (by decide) (fun c => ?_) (fun c => ?_)
              · have h := h.1 c
                refine V_iconst (v := 0) C dL_law_256 (by decide) ?_
                refine V_istore (lv' := [(0, .ref (G.1 (145 + 99))), (1, .ref (G.1 0)), (3, .ref (G.1 144)), (4, .int x4), (5, .int x5), (6, .int x6), (7, .int x7), (8, .int x8), (9, .int x9), (10, .int x10), (11, .int r615), (12, .int 0)]) C [1, 2, 3, 4, 5, 6, 7, 8, 9, 10, 11, 0] dL_law_257 (by decide) rfl ?_
                refine V_loc (lv' := [(0, .ref (G.1 (145 + 99))), (1, .ref (G.1 0)), (3, .ref (G.1 144)), (4, .int x4), (5, .int x5), (6, .int x6), (7, .int x7), (8, .int x8), (9, .int x9), (11, .int r615), (12, .int 0)]) [0, 1, 2, 3, 4, 5, 6, 7, 8, 10, 11] rfl ?_
                obtain ⟨fu259, h⟩ := h
                exact q_L_law_259 C D hX hK91 fu259 _ _ _ _ _ _ _ _ _ h
              · have h := h.2 c
                refine V_iconst (v := 0) C dL_law_254 (by decide) ?_
                exact h.elim
          · have h := h.2 c
            refine V_iconst (v := 0) C dL_law_214 (by decide) ?_
            exact h.elim
    · have h := h.2 c
      refine V_iload C 9 dL_law_165 rfl ?_
      refine V_aload_n C 1 dL_law_167 rfl rfl ?_
      refine V_iload C 10 dL_law_168 rfl ?_
      refine V_iconst (v := 0) C dL_law_170 (by decide) ?_
      refine V_callVi (As := [.int x11, .int 0]) (rest := [.int x10]) C (c_X10_person (v_l X) G  _ _ _ h) 0 10 (by decide) (by decide) (by decide) rfl KV_X10_person k_RL_124 rfl rfl rfl (Nat.le_of_ble_eq_true rfl) ⟨by decide, by decide⟩ dL_law_171 (fun r621 S620 h => ?_)
      refine V_iadd C dL_law_174 ?_
      refine V_topi (fun y622 ey622 => ?_)
      have h := h y622 ey622
      refine V_istore (lv' := [(0, .ref (G.1 (145 + 99))), (1, .ref (G.1 0)), (3, .ref (G.1 144)), (4, .int x4), (5, .int x5), (6, .int x6), (7, .int x7), (8, .int x8), (9, .int x9), (10, .int y622), (11, .int x11)]) C [1, 2, 3, 4, 5, 6, 7, 8, 9, 0, 10] dL_law_175 (by decide) rfl ?_
      obtain ⟨y623, ey623⟩ : ∃ z : Int32, z = x11 + 1 := ⟨_, rfl⟩
      have h := h y623 ey623
      refine V_iinc (lv' := [(0, .ref (G.1 (145 + 99))), (1, .ref (G.1 0)), (3, .ref (G.1 144)), (4, .int x4), (5, .int x5), (6, .int x6), (7, .int x7), (8, .int x8), (9, .int x9), (10, .int y622), (11, .int y623)]) C 10 [1, 2, 3, 4, 5, 6, 7, 8, 9, 10, 0] y623 dL_law_177 rfl (by rw [ey623]; rfl) (by decide) rfl ?_
      refine V_goto (tgt := 157) C dL_law_180 (by decide) ?_
      exact hK157 _ _ _ _ _ _ _ _ _ h
set_option maxHeartbeats 16000000 in
set_option maxRecDepth 100000 in
theorem q_L_law_129 {X : vX} {G : vG}  {post : Unit} (C : v_Cx X G cL_law RL 26 room_1) (D : ∀ H locs ls, va_S (v_AA X) (v_s X).heap H locs → v_W X H locs (F0 (v_m X) 1565 ls [.int 1])) {L : Nat} {xs : Nat → Int32} (hX : v_XX G L xs)   {K91 : vSt → Int32 → Int32 → Int32 → Prop} (hK91 : ∀ S x4 x5 x6, K91 S x4 x5 x6 → VJ X G S 91 [(0, .ref (G.1 (145 + 99))), (1, .ref (G.1 0)), (3, .ref (G.1 144)), (4, .int x4), (5, .int x5), (6, .int x6)] []) : ∀ (S : vSt) (x4 : Int32) (x5 : Int32) (x6 : Int32) (s0 : Int32), p_L_law_129 L xs K91 post S x4 x5 x6 s0 → VJ X G S 129 [(0, .ref (G.1 (145 + 99))), (1, .ref (G.1 0)), (3, .ref (G.1 144)), (4, .int x4), (5, .int x5), (6, .int x6)] [.int s0] := by
  intro S x4 x5 x6 s0 h
  refine V_istore (lv' := [(0, .ref (G.1 (145 + 99))), (1, .ref (G.1 0)), (3, .ref (G.1 144)), (4, .int x4), (5, .int x5), (6, .int x6), (7, .int s0)]) C [1, 2, 3, 4, 5, 6, 0] dL_law_129 (by decide) rfl ?_
  refine V_aload_n C 1 dL_law_131 rfl rfl ?_
  refine V_iconst (v := 1) C dL_law_132 (by decide) ?_
  refine V_callVi (As := [.int 1]) (rest := []) C (c_X10_many (v_l X) G  _ _ h) 0 10 (by decide) (by decide) (by decide) rfl KV_X10_many k_RL_121 rfl rfl rfl (Nat.le_of_ble_eq_true rfl) ⟨by decide, by decide⟩ dL_law_133 (fun r601 S600 h => ?_)
  refine V_istore (lv' := [(0, .ref (G.1 (145 + 99))), (1, .ref (G.1 0)), (3, .ref (G.1 144)), (4, .int x4), (5, .int x5), (6, .int x6), (7, .int s0), (8, .int r601)]) C [1, 2, 3, 4, 5, 6, 7, 0] dL_law_136 (by decide) rfl ?_
  refine V_aload_n C 1 dL_law_138 rfl rfl ?_
  refine V_bipush (v := 7) C dL_law_139 (by decide) ?_
  refine V_callVi (As := [.int 7]) (rest := []) C (c_X10_many (v_l X) G  _ _ h) 0 10 (by decide) (by decide) (by decide) rfl KV_X10_many k_RL_121 rfl rfl rfl (Nat.le_of_ble_eq_true rfl) ⟨by decide, by decide⟩ dL_law_141 (fun r603 S602 h => ?_)
  refine V_istore (lv' := [(0, .ref (G.1 (145 + 99))), (1, .ref (G.1 0)), (3, .ref (G.1 144)), (4, .int x4), (5, .int x5), (6, .int x6), (7, .int s0), (8, .int r601), (9, .int r603)]) C [1, 2, 3, 4, 5, 6, 7, 8, 0] dL_law_144 (by decide) rfl ?_
  refine V_aload_n C 1 dL_law_146 rfl rfl ?_
  refine V_bipush (v := 6) C dL_law_147 (by decide) ?_
  refine V_callVi (As := [.int 6]) (rest := []) C (c_X10_many (v_l X) G  _ _ h) 0 10 (by decide) (by decide) (by decide) rfl KV_X10_many k_RL_121 rfl rfl rfl (Nat.le_of_ble_eq_true rfl) ⟨by decide, by decide⟩ dL_law_149 (fun r605 S604 h => ?_)
  refine V_istore (lv' := [(0, .ref (G.1 (145 + 99))), (1, .ref (G.1 0)), (3, .ref (G.1 144)), (4, .int x4), (5, .int x5), (6, .int x6), (7, .int s0), (8, .int r601), (9, .int r603), (10, .int r605)]) C [1, 2, 3, 4, 5, 6, 7, 8, 9, 0] dL_law_152 (by decide) rfl ?_
  refine V_iconst (v := 0) C dL_law_154 (by decide) ?_
  refine V_istore (lv' := [(0, .ref (G.1 (145 + 99))), (1, .ref (G.1 0)), (3, .ref (G.1 144)), (4, .int x4), (5, .int x5), (6, .int x6), (7, .int s0), (8, .int r601), (9, .int r603), (10, .int r605), (11, .int 0)]) C [1, 2, 3, 4, 5, 6, 7, 8, 9, 10, 0] dL_law_155 (by decide) rfl ?_
  obtain ⟨fu157, h⟩ := h
  exact q_L_law_157 C D hX hK91 fu157 _ _ _ _ _ _ _ _ _ h
set_option maxHeartbeats 16000000 in
set_option maxRecDepth 100000 in
theorem q_L_law_91 {X : vX} {G : vG}  {post : Unit} (C : v_Cx X G cL_law RL 26 room_1) (D : ∀ H locs ls, va_S (v_AA X) (v_s X).heap H locs → v_W X H locs (F0 (v_m X) 1565 ls [.int 1])) {L : Nat} {xs : Nat → Int32} (hX : v_XX G L xs)    : ∀ (fu : Nat) (S : vSt) (x4 : Int32) (x5 : Int32) (x6 : Int32), p_L_law_91 L xs post fu S x4 x5 x6 → VJ X G S 91 [(0, .ref (G.1 (145 + 99))), (1, .ref (G.1 0)), (3, .ref (G.1 144)), (4, .int x4), (5, .int x5), (6, .int x6)] [] := by
  intro fu
  induction fu with
  | zero => intro S x4 x5 x6 h; exact absurd h id
  | succ fu ih =>
    intro S x4 x5 x6 h
    have hK91 := ih
    rw [e_L_law_91] at h
    refine V_iload C 5 dL_law_91 rfl ?_
    refine V_bipush (v := 7) C dL_law_93 (by decide) ?_
    refine V_icmp_ge (tgt := 1564) C dL_law_95 (by decide) (fun c => ?_) (fun c => ?_)
    · have h := h.1 c
      refine V_iconst (v := 1) C dL_law_1564 (by decide) ?_
      exact fun H locs ls _ hS _ => D H locs ls hS
    · have h := h.2 c
      refine V_iload C 5 dL_law_98 rfl ?_
      refine V_aload_n C 0 dL_law_100 rfl rfl ?_
      refine V_slen C hX dL_law_101 ?_
      refine V_icmp_ge (tgt := 120) C dL_law_102 (by decide) (fun c => ?_) (fun c => ?_)
      · have h := h.1 c
        refine V_sipush (v := 401) C dL_law_120 (by decide) ?_
        refine V_iload C 5 dL_law_123 rfl ?_
        refine V_imul C dL_law_125 ?_
        refine V_iload C 3 dL_law_126 rfl ?_
        refine V_iadd C dL_law_128 ?_
        exact q_L_law_129 C D hX hK91 _ _ _ _ _ h
      · have h := h.2 c
        refine V_aload_n C 0 dL_law_105 rfl rfl ?_
        refine V_iload C 5 dL_law_106 rfl ?_
        obtain ⟨hi, h⟩ := h
        refine V_sld C hX hi dL_law_108 ?_
        refine V_iconst (v := 1) C dL_law_109 (by decide) ?_
        refine V_ishr C dL_law_110 ?_
        refine V_bipush (v := 73) C dL_law_111 (by decide) ?_
        refine V_iload C 5 dL_law_113 rfl ?_
        refine V_imul C dL_law_115 ?_
        refine V_ixor C dL_law_116 ?_
        refine V_goto (tgt := 129) C dL_law_117 (by decide) ?_
        exact q_L_law_129 C D hX hK91 _ _ _ _ _ h
set_option maxHeartbeats 16000000 in
set_option maxRecDepth 100000 in
theorem q_L_law_62 {X : vX} {G : vG}  {post : Unit} (C : v_Cx X G cL_law RL 26 room_1) (D : ∀ H locs ls, va_S (v_AA X) (v_s X).heap H locs → v_W X H locs (F0 (v_m X) 1565 ls [.int 1])) {L : Nat} {xs : Nat → Int32} (hX : v_XX G L xs)    : ∀ (fu : Nat) (S : vSt) (x4 : Int32) (x5 : Int32) (x6 : Int32), p_L_law_62 L xs post fu S x4 x5 x6 → VJ X G S 62 [(0, .ref (G.1 (145 + 99))), (1, .ref (G.1 0)), (3, .ref (G.1 144)), (4, .int x4), (5, .int x5), (6, .int x6)] [] := by
  intro fu
  induction fu with
  | zero => intro S x4 x5 x6 h; exact absurd h id
  | succ fu ih =>
    intro S x4 x5 x6 h
    have hK62 := ih
    rw [e_L_law_62] at h
    refine V_iload C 5 dL_law_62 rfl ?_
    refine V_aload_n C 2 dL_law_64 rfl rfl ?_
    refine V_iconst (v := 0) C dL_law_65 (by decide) ?_
    obtain ⟨hi, h⟩ := h
    refine V_iald C 144 29 (by decide) (by decide) hi dL_law_66 ?_
    refine V_icmp_ge (tgt := 88) C dL_law_67 (by decide) (fun c => ?_) (fun c => ?_)
    · have h := h.1 c
      refine V_iconst (v := 0) C dL_law_88 (by decide) ?_
      refine V_istore (lv' := [(0, .ref (G.1 (145 + 99))), (1, .ref (G.1 0)), (3, .ref (G.1 144)), (4, .int x4), (5, .int x5), (6, .int 0)]) C [1, 2, 3, 4, 5, 0] dL_law_89 (by decide) rfl ?_
      obtain ⟨fu91, h⟩ := h
      exact q_L_law_91 C D hX fu91 _ _ _ _ h
    · have h := h.2 c
      refine V_iload C 4 dL_law_70 rfl ?_
      refine V_aload_n C 1 dL_law_72 rfl rfl ?_
      refine V_iload C 5 dL_law_73 rfl ?_
      refine V_iconst (v := 0) C dL_law_75 (by decide) ?_
      refine V_callVi (As := [.int x6, .int 0]) (rest := [.int x5]) C (c_X10_person (v_l X) G  _ _ _ h) 0 10 (by decide) (by decide) (by decide) rfl KV_X10_person k_RL_124 rfl rfl rfl (Nat.le_of_ble_eq_true rfl) ⟨by decide, by decide⟩ dL_law_76 (fun r601 S600 h => ?_)
      refine V_iadd C dL_law_79 ?_
      refine V_topi (fun y602 ey602 => ?_)
      have h := h y602 ey602
      refine V_istore (lv' := [(0, .ref (G.1 (145 + 99))), (1, .ref (G.1 0)), (3, .ref (G.1 144)), (4, .int x4), (5, .int y602), (6, .int x6)]) C [1, 2, 3, 4, 0, 5] dL_law_80 (by decide) rfl ?_
      obtain ⟨y603, ey603⟩ : ∃ z : Int32, z = x6 + 1 := ⟨_, rfl⟩
      have h := h y603 ey603
      refine V_iinc (lv' := [(0, .ref (G.1 (145 + 99))), (1, .ref (G.1 0)), (3, .ref (G.1 144)), (4, .int x4), (5, .int y602), (6, .int y603)]) C 5 [1, 2, 3, 4, 5, 0] y603 dL_law_82 rfl (by rw [ey603]; rfl) (by decide) rfl ?_
      refine V_goto (tgt := 62) C dL_law_85 (by decide) ?_
      exact hK62 _ _ _ _ h
set_option maxHeartbeats 16000000 in
set_option maxRecDepth 100000 in
theorem q_L_law_33 {X : vX} {G : vG}  {post : Unit} (C : v_Cx X G cL_law RL 26 room_1) (D : ∀ H locs ls, va_S (v_AA X) (v_s X).heap H locs → v_W X H locs (F0 (v_m X) 1565 ls [.int 1])) {L : Nat} {xs : Nat → Int32} (hX : v_XX G L xs)    : ∀ (S : vSt) (s0 : Int32), p_L_law_33 L xs post S s0 → VJ X G S 33 [(0, .ref (G.1 (145 + 99))), (1, .ref (G.1 0)), (2, .ref (G.1 143)), (3, .ref (G.1 144))] [.int s0] := by
  intro S s0 h
  refine V_istore (lv' := [(0, .ref (G.1 (145 + 99))), (1, .ref (G.1 0)), (2, .ref (G.1 143)), (3, .ref (G.1 144)), (4, .int s0)]) C [1, 2, 3, 4, 0] dL_law_33 (by decide) rfl ?_
  refine V_aload_n C 0 dL_law_35 rfl rfl ?_
  refine V_aload_n C 3 dL_law_36 rfl rfl ?_
  refine V_callSv (As := [.ref (G.1 (145 + 99)), .ref (G.1 144)]) (rest := []) C (c_L_draw (v_l X) G hX _ h) KV_L_draw k_RL_113 rfl rfl rfl (Nat.le_of_ble_eq_true rfl) ⟨by decide, by decide⟩ dL_law_37 (fun S595 h => ?_)
  refine V_aload_n C 1 dL_law_40 rfl rfl ?_
  refine V_aload_n C 2 dL_law_41 rfl rfl ?_
  refine V_aload_n C 3 dL_law_42 rfl rfl ?_
  refine V_callSz (As := [.ref (G.1 0), .ref (G.1 143), .ref (G.1 144)]) (rest := []) C (c_L_lay (v_l X) G  _ h) KV_L_lay k_RL_117 rfl rfl rfl (Nat.le_of_ble_eq_true rfl) ⟨by decide, by decide⟩ dL_law_43 (fun r597 S596 h => ?_)
  refine V_ifb_ne (tgt := 51) C dL_law_46 (by decide) (fun c => ?_) (fun c => ?_)
  · have h := h.1 c
    refine V_aload_n C 1 dL_law_51 rfl rfl ?_
    refine V_bipush (v := 6) C dL_law_52 (by decide) ?_
    refine V_callVi (As := [.int 6]) (rest := []) C (c_X10_many (v_l X) G  _ _ h) 0 10 (by decide) (by decide) (by decide) rfl KV_X10_many k_RL_121 rfl rfl rfl (Nat.le_of_ble_eq_true rfl) ⟨by decide, by decide⟩ dL_law_54 (fun r599 S598 h => ?_)
    refine V_istore (lv' := [(0, .ref (G.1 (145 + 99))), (1, .ref (G.1 0)), (2, .ref (G.1 143)), (3, .ref (G.1 144)), (4, .int s0), (5, .int r599)]) C [1, 2, 3, 4, 5, 0] dL_law_57 (by decide) rfl ?_
    refine V_iconst (v := 0) C dL_law_59 (by decide) ?_
    refine V_istore (lv' := [(0, .ref (G.1 (145 + 99))), (1, .ref (G.1 0)), (2, .ref (G.1 143)), (3, .ref (G.1 144)), (4, .int s0), (5, .int r599), (6, .int 0)]) C [1, 2, 3, 4, 5, 6, 0] dL_law_60 (by decide) rfl ?_
    refine V_loc (lv' := [(0, .ref (G.1 (145 + 99))), (1, .ref (G.1 0)), (3, .ref (G.1 144)), (4, .int s0), (5, .int r599), (6, .int 0)]) [0, 1, 3, 4, 5, 6] rfl ?_
    obtain ⟨fu62, h⟩ := h
    exact q_L_law_62 C D hX fu62 _ _ _ _ h
  · have h := h.2 c
    refine V_iconst (v := 0) C dL_law_49 (by decide) ?_
    exact h.elim
set_option maxHeartbeats 16000000 in
set_option maxRecDepth 100000 in
theorem q_L_law_18 {X : vX} {G : vG}  {post : Unit} (C : v_Cx X G cL_law RL 26 room_1) (D : ∀ H locs ls, va_S (v_AA X) (v_s X).heap H locs → v_W X H locs (F0 (v_m X) 1565 ls [.int 1])) {L : Nat} {xs : Nat → Int32} (hX : v_XX G L xs)    : ∀ (S : vSt), p_L_law_18 L xs post S  → VJ X G S 18 [(0, .ref (G.1 (145 + 99))), (1, .ref (G.1 0)), (2, .ref (G.1 143)), (3, .ref (G.1 144))] [] := by
  intro S  h
  refine V_aload_n C 0 dL_law_18 rfl rfl ?_
  refine V_slen C hX dL_law_19 ?_
  refine V_if_ne (tgt := 27) C dL_law_20 (by decide) (fun c => ?_) (fun c => ?_)
  · have h := h.1 c
    refine V_aload_n C 0 dL_law_27 rfl rfl ?_
    refine V_aload_n C 0 dL_law_28 rfl rfl ?_
    refine V_slen C hX dL_law_29 ?_
    refine V_iconst (v := 1) C dL_law_30 (by decide) ?_
    refine V_isub C dL_law_31 ?_
    obtain ⟨hi, h⟩ := h
    refine V_sld C hX hi dL_law_32 ?_
    exact q_L_law_33 C D hX _ _ h
  · have h := h.2 c
    refine V_iconst (v := 5) C dL_law_23 (by decide) ?_
    refine V_goto (tgt := 33) C dL_law_24 (by decide) ?_
    exact q_L_law_33 C D hX _ _ h
