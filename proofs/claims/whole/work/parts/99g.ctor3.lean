/-! ===== what the constructors make: the reference (printed by wip/gen/ctor.py) ===== -/
def gw (j : Nat) : Nat → Int32 := fun i => if i < j then nI (WC i) else 0
theorem gw_up {j : Nat} : upd (gw j) j (nI (WC j)) = gw (j + 1) := by
  funext i
  unfold upd gw
  by_cases e : i = j
  · rw [if_pos e, if_pos (by omega), e]
  · rw [if_neg e]
    by_cases l : i < j
    · rw [if_pos l, if_pos (by omega)]
    · rw [if_neg l, if_neg (by omega)]
section Ct4
variable {D : Nat} {T : List (Nat × ai_Op)} {hd : Nat → Nat → Option (Option (Nat × Nat))} {o : ai_Ou} {pc len ci k kd zn n c s l1 l2 : Nat} {lv : ai_L} {fs : List Value} {P Q PA : List va_E} {ty : FieldType} {z v : Int32} {rest : List Value}
theorem ct_word (j : Nat) (h0 : ai_lk T pc = some op_dup) (h1 : ai_lk T (pc + 1) = some (op_pi l1 z)) (h2 : ai_lk T (pc + 1 + l1) = some (op_pi l2 v)) (h3 : ai_lk T (pc + 1 + l1 + l2) = some op_iast) (hz : z = nI j) (hv : v = nI (WC j)) (hj : j < 108) (hp : 0 < PA.length) (g : lz D T hd o (pc + 1 + l1 + l2 + 1) lv (.ref PA.length :: rest) (hL (PA ++ [.inl (1, 108, .inl (gw (j + 1)))]), PA.length + 1, c, s)) : lz D T hd o pc lv (.ref PA.length :: rest) (hL (PA ++ [.inl (1, 108, .inl (gw j))]), PA.length + 1, c, s) := by
  subst hz hv
  have wx : wX 1 (fun x => x) (PA.length + 1) (hL (PA ++ [.inl (1, 108, .inl (gw j))])) PA.length (nI j) (nI (WC j)) = some (hL (PA ++ [.inl (1, 108, .inl (gw (j + 1)))])) := by
    have ar : ai_ar (hL (PA ++ [.inl (1, 108, .inl (gw j))]), PA.length + 1, 0, 0) PA.length = some (1, 108, .inl (gw j)) := by
      unfold ai_ar
      rw [if_pos ⟨hp, by show PA.length < PA.length + 1; omega⟩]
      dsimp only
      rw [hL_at]
    unfold wX
    rw [ar]
    dsimp only
    rw [if_pos ⟨rfl, in_nI hj (by decide)⟩, hL_set, nI_clamp (by omega), gw_up]
  exact lz_dup h0 rfl (lz_pi h1 (lz_pi h2 (lz_iast h3 wx g)))
end Ct4
set_option maxRecDepth 20000 in
theorem w11 {o : ai_Ou} {lv : ai_L} {PA : List va_E} {rest : List Value} {c s : Nat} (hp : 0 < PA.length) (g : lz 9 tX11_init (ai_Hd 140) o 660 lv (.ref PA.length :: rest) (hL (PA ++ [.inl (1, 108, .inl (gw 108))]), PA.length + 1, c, s)) : lz 9 tX11_init (ai_Hd 140) o 18 lv (.ref PA.length :: rest) (hL (PA ++ [.inl (1, 108, .inl (gw 0))]), PA.length + 1, c, s) := by
  refine ct_word 0 (pc := 18) rfl rfl rfl rfl rfl rfl (by decide) hp ?_
  refine ct_word 1 (pc := 23) rfl rfl rfl rfl rfl rfl (by decide) hp ?_
  refine ct_word 2 (pc := 28) rfl rfl rfl rfl rfl rfl (by decide) hp ?_
  refine ct_word 3 (pc := 33) rfl rfl rfl rfl rfl rfl (by decide) hp ?_
  refine ct_word 4 (pc := 38) rfl rfl rfl rfl rfl rfl (by decide) hp ?_
  refine ct_word 5 (pc := 43) rfl rfl rfl rfl rfl rfl (by decide) hp ?_
  refine ct_word 6 (pc := 48) rfl rfl rfl rfl rfl rfl (by decide) hp ?_
  refine ct_word 7 (pc := 54) rfl rfl rfl rfl rfl rfl (by decide) hp ?_
  refine ct_word 8 (pc := 60) rfl rfl rfl rfl rfl rfl (by decide) hp ?_
  refine ct_word 9 (pc := 66) rfl rfl rfl rfl rfl rfl (by decide) hp ?_
  refine ct_word 10 (pc := 72) rfl rfl rfl rfl rfl rfl (by decide) hp ?_
  refine ct_word 11 (pc := 78) rfl rfl rfl rfl rfl rfl (by decide) hp ?_
  refine ct_word 12 (pc := 84) rfl rfl rfl rfl rfl rfl (by decide) hp ?_
  refine ct_word 13 (pc := 90) rfl rfl rfl rfl rfl rfl (by decide) hp ?_
  refine ct_word 14 (pc := 96) rfl rfl rfl rfl rfl rfl (by decide) hp ?_
  refine ct_word 15 (pc := 102) rfl rfl rfl rfl rfl rfl (by decide) hp ?_
  refine ct_word 16 (pc := 108) rfl rfl rfl rfl rfl rfl (by decide) hp ?_
  refine ct_word 17 (pc := 114) rfl rfl rfl rfl rfl rfl (by decide) hp ?_
  refine ct_word 18 (pc := 120) rfl rfl rfl rfl rfl rfl (by decide) hp ?_
  refine ct_word 19 (pc := 126) rfl rfl rfl rfl rfl rfl (by decide) hp ?_
  refine ct_word 20 (pc := 132) rfl rfl rfl rfl rfl rfl (by decide) hp ?_
  refine ct_word 21 (pc := 138) rfl rfl rfl rfl rfl rfl (by decide) hp ?_
  refine ct_word 22 (pc := 144) rfl rfl rfl rfl rfl rfl (by decide) hp ?_
  refine ct_word 23 (pc := 150) rfl rfl rfl rfl rfl rfl (by decide) hp ?_
  refine ct_word 24 (pc := 156) rfl rfl rfl rfl rfl rfl (by decide) hp ?_
  refine ct_word 25 (pc := 162) rfl rfl rfl rfl rfl rfl (by decide) hp ?_
  refine ct_word 26 (pc := 168) rfl rfl rfl rfl rfl rfl (by decide) hp ?_
  refine ct_word 27 (pc := 174) rfl rfl rfl rfl rfl rfl (by decide) hp ?_
  refine ct_word 28 (pc := 180) rfl rfl rfl rfl rfl rfl (by decide) hp ?_
  refine ct_word 29 (pc := 186) rfl rfl rfl rfl rfl rfl (by decide) hp ?_
  refine ct_word 30 (pc := 192) rfl rfl rfl rfl rfl rfl (by decide) hp ?_
  refine ct_word 31 (pc := 198) rfl rfl rfl rfl rfl rfl (by decide) hp ?_
  refine ct_word 32 (pc := 204) rfl rfl rfl rfl rfl rfl (by decide) hp ?_
  refine ct_word 33 (pc := 210) rfl rfl rfl rfl rfl rfl (by decide) hp ?_
  refine ct_word 34 (pc := 216) rfl rfl rfl rfl rfl rfl (by decide) hp ?_
  refine ct_word 35 (pc := 222) rfl rfl rfl rfl rfl rfl (by decide) hp ?_
  refine ct_word 36 (pc := 228) rfl rfl rfl rfl rfl rfl (by decide) hp ?_
  refine ct_word 37 (pc := 234) rfl rfl rfl rfl rfl rfl (by decide) hp ?_
  refine ct_word 38 (pc := 240) rfl rfl rfl rfl rfl rfl (by decide) hp ?_
  refine ct_word 39 (pc := 246) rfl rfl rfl rfl rfl rfl (by decide) hp ?_
  refine ct_word 40 (pc := 252) rfl rfl rfl rfl rfl rfl (by decide) hp ?_
  refine ct_word 41 (pc := 258) rfl rfl rfl rfl rfl rfl (by decide) hp ?_
  refine ct_word 42 (pc := 264) rfl rfl rfl rfl rfl rfl (by decide) hp ?_
  refine ct_word 43 (pc := 270) rfl rfl rfl rfl rfl rfl (by decide) hp ?_
  refine ct_word 44 (pc := 276) rfl rfl rfl rfl rfl rfl (by decide) hp ?_
  refine ct_word 45 (pc := 282) rfl rfl rfl rfl rfl rfl (by decide) hp ?_
  refine ct_word 46 (pc := 288) rfl rfl rfl rfl rfl rfl (by decide) hp ?_
  refine ct_word 47 (pc := 294) rfl rfl rfl rfl rfl rfl (by decide) hp ?_
  refine ct_word 48 (pc := 300) rfl rfl rfl rfl rfl rfl (by decide) hp ?_
  refine ct_word 49 (pc := 306) rfl rfl rfl rfl rfl rfl (by decide) hp ?_
  refine ct_word 50 (pc := 312) rfl rfl rfl rfl rfl rfl (by decide) hp ?_
  refine ct_word 51 (pc := 318) rfl rfl rfl rfl rfl rfl (by decide) hp ?_
  refine ct_word 52 (pc := 324) rfl rfl rfl rfl rfl rfl (by decide) hp ?_
  refine ct_word 53 (pc := 330) rfl rfl rfl rfl rfl rfl (by decide) hp ?_
  refine ct_word 54 (pc := 336) rfl rfl rfl rfl rfl rfl (by decide) hp ?_
  refine ct_word 55 (pc := 342) rfl rfl rfl rfl rfl rfl (by decide) hp ?_
  refine ct_word 56 (pc := 348) rfl rfl rfl rfl rfl rfl (by decide) hp ?_
  refine ct_word 57 (pc := 354) rfl rfl rfl rfl rfl rfl (by decide) hp ?_
  refine ct_word 58 (pc := 360) rfl rfl rfl rfl rfl rfl (by decide) hp ?_
  refine ct_word 59 (pc := 366) rfl rfl rfl rfl rfl rfl (by decide) hp ?_
  refine ct_word 60 (pc := 372) rfl rfl rfl rfl rfl rfl (by decide) hp ?_
  refine ct_word 61 (pc := 378) rfl rfl rfl rfl rfl rfl (by decide) hp ?_
  refine ct_word 62 (pc := 384) rfl rfl rfl rfl rfl rfl (by decide) hp ?_
  refine ct_word 63 (pc := 390) rfl rfl rfl rfl rfl rfl (by decide) hp ?_
  refine ct_word 64 (pc := 396) rfl rfl rfl rfl rfl rfl (by decide) hp ?_
  refine ct_word 65 (pc := 402) rfl rfl rfl rfl rfl rfl (by decide) hp ?_
  refine ct_word 66 (pc := 408) rfl rfl rfl rfl rfl rfl (by decide) hp ?_
  refine ct_word 67 (pc := 414) rfl rfl rfl rfl rfl rfl (by decide) hp ?_
  refine ct_word 68 (pc := 420) rfl rfl rfl rfl rfl rfl (by decide) hp ?_
  refine ct_word 69 (pc := 426) rfl rfl rfl rfl rfl rfl (by decide) hp ?_
  refine ct_word 70 (pc := 432) rfl rfl rfl rfl rfl rfl (by decide) hp ?_
  refine ct_word 71 (pc := 438) rfl rfl rfl rfl rfl rfl (by decide) hp ?_
  refine ct_word 72 (pc := 444) rfl rfl rfl rfl rfl rfl (by decide) hp ?_
  refine ct_word 73 (pc := 450) rfl rfl rfl rfl rfl rfl (by decide) hp ?_
  refine ct_word 74 (pc := 456) rfl rfl rfl rfl rfl rfl (by decide) hp ?_
  refine ct_word 75 (pc := 462) rfl rfl rfl rfl rfl rfl (by decide) hp ?_
  refine ct_word 76 (pc := 468) rfl rfl rfl rfl rfl rfl (by decide) hp ?_
  refine ct_word 77 (pc := 474) rfl rfl rfl rfl rfl rfl (by decide) hp ?_
  refine ct_word 78 (pc := 480) rfl rfl rfl rfl rfl rfl (by decide) hp ?_
  refine ct_word 79 (pc := 486) rfl rfl rfl rfl rfl rfl (by decide) hp ?_
  refine ct_word 80 (pc := 492) rfl rfl rfl rfl rfl rfl (by decide) hp ?_
  refine ct_word 81 (pc := 498) rfl rfl rfl rfl rfl rfl (by decide) hp ?_
  refine ct_word 82 (pc := 504) rfl rfl rfl rfl rfl rfl (by decide) hp ?_
  refine ct_word 83 (pc := 510) rfl rfl rfl rfl rfl rfl (by decide) hp ?_
  refine ct_word 84 (pc := 516) rfl rfl rfl rfl rfl rfl (by decide) hp ?_
  refine ct_word 85 (pc := 522) rfl rfl rfl rfl rfl rfl (by decide) hp ?_
  refine ct_word 86 (pc := 528) rfl rfl rfl rfl rfl rfl (by decide) hp ?_
  refine ct_word 87 (pc := 534) rfl rfl rfl rfl rfl rfl (by decide) hp ?_
  refine ct_word 88 (pc := 540) rfl rfl rfl rfl rfl rfl (by decide) hp ?_
  refine ct_word 89 (pc := 546) rfl rfl rfl rfl rfl rfl (by decide) hp ?_
  refine ct_word 90 (pc := 552) rfl rfl rfl rfl rfl rfl (by decide) hp ?_
  refine ct_word 91 (pc := 558) rfl rfl rfl rfl rfl rfl (by decide) hp ?_
  refine ct_word 92 (pc := 564) rfl rfl rfl rfl rfl rfl (by decide) hp ?_
  refine ct_word 93 (pc := 570) rfl rfl rfl rfl rfl rfl (by decide) hp ?_
  refine ct_word 94 (pc := 576) rfl rfl rfl rfl rfl rfl (by decide) hp ?_
  refine ct_word 95 (pc := 582) rfl rfl rfl rfl rfl rfl (by decide) hp ?_
  refine ct_word 96 (pc := 588) rfl rfl rfl rfl rfl rfl (by decide) hp ?_
  refine ct_word 97 (pc := 594) rfl rfl rfl rfl rfl rfl (by decide) hp ?_
  refine ct_word 98 (pc := 600) rfl rfl rfl rfl rfl rfl (by decide) hp ?_
  refine ct_word 99 (pc := 606) rfl rfl rfl rfl rfl rfl (by decide) hp ?_
  refine ct_word 100 (pc := 612) rfl rfl rfl rfl rfl rfl (by decide) hp ?_
  refine ct_word 101 (pc := 618) rfl rfl rfl rfl rfl rfl (by decide) hp ?_
  refine ct_word 102 (pc := 624) rfl rfl rfl rfl rfl rfl (by decide) hp ?_
  refine ct_word 103 (pc := 630) rfl rfl rfl rfl rfl rfl (by decide) hp ?_
  refine ct_word 104 (pc := 636) rfl rfl rfl rfl rfl rfl (by decide) hp ?_
  refine ct_word 105 (pc := 642) rfl rfl rfl rfl rfl rfl (by decide) hp ?_
  refine ct_word 106 (pc := 648) rfl rfl rfl rfl rfl rfl (by decide) hp ?_
  refine ct_word 107 (pc := 654) rfl rfl rfl rfl rfl rfl (by decide) hp ?_
  exact g
def F11a (a : Nat) : List Value := [.ref (a + 1), .int 0, .int 0, .null, .int 0, .int 0, .int 0, .int 0, .int 0, .int 0, .int 0, .int 0, .int 0, .int 0, .int 0, .int 0, .int 0, .int 0, .int 0, .int 0, .int 0, .int 0, .int 0, .int 0, .null, .null, .null, .null, .null, .null, .null, .null, .null, .null, .null, .null, .null, .null, .null, .null, .null, .null, .null, .null, .null, .null, .null, .null, .null, .null, .null, .int 0, .int 0, .int 0, .int 0, .int 0, .int 0, .null, .null, .int 0, .null, .null, .null, .null, .null, .null, .null, .null, .long 0, .int 0, .int 0, .int 0, .int 0, .int 0, .int 0, .int 0, .int 0, .null, .null, .null, .null, .null, .int 0, .null, .int 0, .int 0, .null, .null, .null, .int 0, .null, .int 0, .null, .int 0, .int 0, .long 0]
def Q11a (a : Nat) : List va_E := [.inl (1, 700, .inl (fun _ => 0))]
def F11b (a : Nat) : List Value := [.ref (a + 1), .int 0, .int 0, .ref (a + 2), .int 0, .int 0, .int 0, .int 0, .int 0, .int 0, .int 0, .int 0, .int 0, .int 0, .int 0, .int 0, .int 0, .int 0, .int 0, .int 0, .int 0, .int 0, .int 0, .int 0, .null, .null, .null, .null, .null, .null, .null, .null, .null, .null, .null, .null, .null, .null, .null, .null, .null, .null, .null, .null, .null, .null, .null, .null, .null, .null, .null, .int 0, .int 0, .int 0, .int 0, .int 0, .int 0, .null, .null, .int 0, .null, .null, .null, .null, .null, .null, .null, .null, .long 0, .int 0, .int 0, .int 0, .int 0, .int 0, .int 0, .int 0, .int 0, .null, .null, .null, .null, .null, .int 0, .null, .int 0, .int 0, .null, .null, .null, .int 0, .null, .int 0, .null, .int 0, .int 0, .long 0]
def Q11b (a : Nat) : List va_E := [.inl (1, 700, .inl (fun _ => 0)), .inl (1, 108, .inl (gw 108))]
def F11_0 (a : Nat) : List Value := [.ref (a + 1), .int 0, .int 0, .ref (a + 2), .int 0, .int (-1), .int 0, .int 0, .int 0, .int 0, .int 0, .int 0, .int 0, .int 0, .int 0, .int 0, .int 0, .int 0, .int 0, .int 0, .int 0, .int 0, .int 0, .int 0, .ref (a + 3), .ref (a + 4), .ref (a + 5), .ref (a + 6), .null, .null, .null, .null, .null, .null, .null, .null, .null, .null, .null, .null, .null, .null, .null, .null, .null, .null, .null, .null, .null, .null, .null, .int 0, .int 0, .int 0, .int 0, .int 0, .int 0, .null, .null, .int 0, .null, .null, .null, .null, .null, .null, .null, .null, .long 0, .int 0, .int 0, .int 0, .int 0, .int 0, .int 0, .int 0, .int 0, .null, .null, .null, .null, .null, .int 0, .null, .int 0, .int 0, .null, .null, .null, .int 0, .null, .int 0, .null, .int 0, .int 0, .long 0]
def Q11_0 (a : Nat) : List va_E := [.inl (1, 700, .inl (fun _ => 0)), .inl (1, 108, .inl (gw 108)), .inl (3, 3, .inl (fun _ => 0)), .inl (1, 6, .inl (fun _ => 0)), .inl (1, 14, .inl (fun _ => 0)), .inl (1, 18, .inl (fun _ => 0))]
def F11_1 (a : Nat) : List Value := [.ref (a + 1), .int 0, .int 0, .ref (a + 2), .int 0, .int (-1), .int 0, .int 0, .int 0, .int 0, .int 0, .int 0, .int 0, .int 0, .int 0, .int 0, .int 0, .int 0, .int 0, .int 0, .int 0, .int 0, .int 0, .int 0, .ref (a + 3), .ref (a + 4), .ref (a + 5), .ref (a + 6), .ref (a + 7), .ref (a + 8), .ref (a + 9), .ref (a + 10), .ref (a + 11), .null, .null, .null, .null, .null, .null, .null, .null, .null, .null, .null, .null, .null, .null, .null, .null, .null, .null, .int 0, .int 0, .int 0, .int 0, .int 0, .int 0, .null, .null, .int 0, .null, .null, .null, .null, .null, .null, .null, .null, .long 0, .int 0, .int 0, .int 0, .int 0, .int 0, .int 0, .int 0, .int 0, .null, .null, .null, .null, .null, .int 0, .null, .int 0, .int 0, .null, .null, .null, .int 0, .null, .int 0, .null, .int 0, .int 0, .long 0]
def Q11_1 (a : Nat) : List va_E := [.inl (1, 700, .inl (fun _ => 0)), .inl (1, 108, .inl (gw 108)), .inl (3, 3, .inl (fun _ => 0)), .inl (1, 6, .inl (fun _ => 0)), .inl (1, 14, .inl (fun _ => 0)), .inl (1, 18, .inl (fun _ => 0)), .inl (1, 18, .inl (fun _ => 0)), .inl (1, 18, .inl (fun _ => 0)), .inl (1, 18, .inl (fun _ => 0)), .inl (1, 18, .inl (fun _ => 0)), .inl (1, 18, .inl (fun _ => 0))]
def F11_2 (a : Nat) : List Value := [.ref (a + 1), .int 0, .int 0, .ref (a + 2), .int 0, .int (-1), .int 0, .int 0, .int 0, .int 0, .int 0, .int 0, .int 0, .int 0, .int 0, .int 0, .int 0, .int 0, .int 0, .int 0, .int 0, .int 0, .int 0, .int 0, .ref (a + 3), .ref (a + 4), .ref (a + 5), .ref (a + 6), .ref (a + 7), .ref (a + 8), .ref (a + 9), .ref (a + 10), .ref (a + 11), .ref (a + 12), .ref (a + 13), .ref (a + 14), .ref (a + 15), .ref (a + 16), .null, .null, .null, .null, .null, .null, .null, .null, .null, .null, .null, .null, .null, .int 0, .int 0, .int 0, .int 0, .int 0, .int 0, .null, .null, .int 0, .null, .null, .null, .null, .null, .null, .null, .null, .long 0, .int 0, .int 0, .int 0, .int 0, .int 0, .int 0, .int 0, .int 0, .null, .null, .null, .null, .null, .int 0, .null, .int 0, .int 0, .null, .null, .null, .int 0, .null, .int 0, .null, .int 0, .int 0, .long 0]
def Q11_2 (a : Nat) : List va_E := [.inl (1, 700, .inl (fun _ => 0)), .inl (1, 108, .inl (gw 108)), .inl (3, 3, .inl (fun _ => 0)), .inl (1, 6, .inl (fun _ => 0)), .inl (1, 14, .inl (fun _ => 0)), .inl (1, 18, .inl (fun _ => 0)), .inl (1, 18, .inl (fun _ => 0)), .inl (1, 18, .inl (fun _ => 0)), .inl (1, 18, .inl (fun _ => 0)), .inl (1, 18, .inl (fun _ => 0)), .inl (1, 18, .inl (fun _ => 0)), .inl (1, 8, .inl (fun _ => 0)), .inl (1, 8, .inl (fun _ => 0)), .inl (1, 8, .inl (fun _ => 0)), .inl (1, 8, .inl (fun _ => 0)), .inl (1, 24, .inl (fun _ => 0))]
def F11_3 (a : Nat) : List Value := [.ref (a + 1), .int 0, .int 0, .ref (a + 2), .int 0, .int (-1), .int 0, .int 0, .int 0, .int 0, .int 0, .int 0, .int 0, .int 0, .int 0, .int 0, .int 0, .int 0, .int 0, .int 0, .int 0, .int 0, .int 0, .int 0, .ref (a + 3), .ref (a + 4), .ref (a + 5), .ref (a + 6), .ref (a + 7), .ref (a + 8), .ref (a + 9), .ref (a + 10), .ref (a + 11), .ref (a + 12), .ref (a + 13), .ref (a + 14), .ref (a + 15), .ref (a + 16), .ref (a + 17), .ref (a + 18), .ref (a + 19), .ref (a + 20), .ref (a + 21), .null, .null, .null, .null, .null, .null, .null, .null, .int 0, .int 0, .int 0, .int 0, .int 0, .int 0, .null, .null, .int 0, .null, .null, .null, .null, .null, .null, .null, .null, .long 0, .int 0, .int 0, .int 0, .int 0, .int 0, .int 0, .int 0, .int 0, .null, .null, .null, .null, .null, .int 0, .null, .int 0, .int 0, .null, .null, .null, .int 0, .null, .int 0, .null, .int 0, .int 0, .long 0]
def Q11_3 (a : Nat) : List va_E := [.inl (1, 700, .inl (fun _ => 0)), .inl (1, 108, .inl (gw 108)), .inl (3, 3, .inl (fun _ => 0)), .inl (1, 6, .inl (fun _ => 0)), .inl (1, 14, .inl (fun _ => 0)), .inl (1, 18, .inl (fun _ => 0)), .inl (1, 18, .inl (fun _ => 0)), .inl (1, 18, .inl (fun _ => 0)), .inl (1, 18, .inl (fun _ => 0)), .inl (1, 18, .inl (fun _ => 0)), .inl (1, 18, .inl (fun _ => 0)), .inl (1, 8, .inl (fun _ => 0)), .inl (1, 8, .inl (fun _ => 0)), .inl (1, 8, .inl (fun _ => 0)), .inl (1, 8, .inl (fun _ => 0)), .inl (1, 24, .inl (fun _ => 0)), .inl (1, 24, .inl (fun _ => 0)), .inl (1, 24, .inl (fun _ => 0)), .inl (1, 12, .inl (fun _ => 0)), .inl (1, 12, .inl (fun _ => 0)), .inl (1, 12, .inl (fun _ => 0))]
def F11_4 (a : Nat) : List Value := [.ref (a + 1), .int 0, .int 0, .ref (a + 2), .int 0, .int (-1), .int 0, .int 0, .int 0, .int 0, .int 0, .int 0, .int 0, .int 0, .int 0, .int 0, .int 0, .int 0, .int 0, .int 0, .int 0, .int 0, .int 0, .int 0, .ref (a + 3), .ref (a + 4), .ref (a + 5), .ref (a + 6), .ref (a + 7), .ref (a + 8), .ref (a + 9), .ref (a + 10), .ref (a + 11), .ref (a + 12), .ref (a + 13), .ref (a + 14), .ref (a + 15), .ref (a + 16), .ref (a + 17), .ref (a + 18), .ref (a + 19), .ref (a + 20), .ref (a + 21), .ref (a + 22), .ref (a + 23), .ref (a + 24), .ref (a + 25), .ref (a + 26), .null, .null, .null, .int 0, .int 0, .int 0, .int 0, .int 0, .int 0, .null, .null, .int 0, .null, .null, .null, .null, .null, .null, .null, .null, .long 0, .int 0, .int 0, .int 0, .int 0, .int 0, .int 0, .int 0, .int 0, .null, .null, .null, .null, .null, .int 0, .null, .int 0, .int 0, .null, .null, .null, .int 0, .null, .int 0, .null, .int 0, .int 0, .long 0]
def Q11_4 (a : Nat) : List va_E := [.inl (1, 700, .inl (fun _ => 0)), .inl (1, 108, .inl (gw 108)), .inl (3, 3, .inl (fun _ => 0)), .inl (1, 6, .inl (fun _ => 0)), .inl (1, 14, .inl (fun _ => 0)), .inl (1, 18, .inl (fun _ => 0)), .inl (1, 18, .inl (fun _ => 0)), .inl (1, 18, .inl (fun _ => 0)), .inl (1, 18, .inl (fun _ => 0)), .inl (1, 18, .inl (fun _ => 0)), .inl (1, 18, .inl (fun _ => 0)), .inl (1, 8, .inl (fun _ => 0)), .inl (1, 8, .inl (fun _ => 0)), .inl (1, 8, .inl (fun _ => 0)), .inl (1, 8, .inl (fun _ => 0)), .inl (1, 24, .inl (fun _ => 0)), .inl (1, 24, .inl (fun _ => 0)), .inl (1, 24, .inl (fun _ => 0)), .inl (1, 12, .inl (fun _ => 0)), .inl (1, 12, .inl (fun _ => 0)), .inl (1, 12, .inl (fun _ => 0)), .inl (3, 6, .inl (fun _ => 0)), .inl (1, 6, .inl (fun _ => 0)), .inl (1, 6, .inl (fun _ => 0)), .inl (1, 128, .inl (fun _ => 0)), .inl (1, 128, .inl (fun _ => 0))]
def F11_5 (a : Nat) : List Value := [.ref (a + 1), .int 0, .int 0, .ref (a + 2), .int 0, .int (-1), .int 0, .int 0, .int 0, .int 0, .int 0, .int 0, .int 0, .int 0, .int 0, .int 0, .int 0, .int 0, .int 0, .int 0, .int 0, .int 0, .int 0, .int 0, .ref (a + 3), .ref (a + 4), .ref (a + 5), .ref (a + 6), .ref (a + 7), .ref (a + 8), .ref (a + 9), .ref (a + 10), .ref (a + 11), .ref (a + 12), .ref (a + 13), .ref (a + 14), .ref (a + 15), .ref (a + 16), .ref (a + 17), .ref (a + 18), .ref (a + 19), .ref (a + 20), .ref (a + 21), .ref (a + 22), .ref (a + 23), .ref (a + 24), .ref (a + 25), .ref (a + 26), .ref (a + 27), .ref (a + 28), .ref (a + 29), .int 0, .int 0, .int 0, .int 0, .int 0, .int 0, .ref (a + 30), .ref (a + 31), .int 0, .null, .null, .null, .null, .null, .null, .null, .null, .long 0, .int 0, .int 0, .int 0, .int 0, .int 0, .int 0, .int 0, .int 0, .null, .null, .null, .null, .null, .int 0, .null, .int 0, .int 0, .null, .null, .null, .int 0, .null, .int 0, .null, .int 0, .int 0, .long 0]
def Q11_5 (a : Nat) : List va_E := [.inl (1, 700, .inl (fun _ => 0)), .inl (1, 108, .inl (gw 108)), .inl (3, 3, .inl (fun _ => 0)), .inl (1, 6, .inl (fun _ => 0)), .inl (1, 14, .inl (fun _ => 0)), .inl (1, 18, .inl (fun _ => 0)), .inl (1, 18, .inl (fun _ => 0)), .inl (1, 18, .inl (fun _ => 0)), .inl (1, 18, .inl (fun _ => 0)), .inl (1, 18, .inl (fun _ => 0)), .inl (1, 18, .inl (fun _ => 0)), .inl (1, 8, .inl (fun _ => 0)), .inl (1, 8, .inl (fun _ => 0)), .inl (1, 8, .inl (fun _ => 0)), .inl (1, 8, .inl (fun _ => 0)), .inl (1, 24, .inl (fun _ => 0)), .inl (1, 24, .inl (fun _ => 0)), .inl (1, 24, .inl (fun _ => 0)), .inl (1, 12, .inl (fun _ => 0)), .inl (1, 12, .inl (fun _ => 0)), .inl (1, 12, .inl (fun _ => 0)), .inl (3, 6, .inl (fun _ => 0)), .inl (1, 6, .inl (fun _ => 0)), .inl (1, 6, .inl (fun _ => 0)), .inl (1, 128, .inl (fun _ => 0)), .inl (1, 128, .inl (fun _ => 0)), .inl (1, 128, .inl (fun _ => 0)), .inl (1, 96, .inl (fun _ => 0)), .inl (1, 96, .inl (fun _ => 0)), .inl (2, 7, .inr (.inl (fun _ => 0))), .inl (2, 64, .inr (.inl (fun _ => 0)))]
def F11_6 (a : Nat) : List Value := [.ref (a + 1), .int 0, .int 0, .ref (a + 2), .int 0, .int (-1), .int 0, .int 0, .int 0, .int 0, .int 0, .int 0, .int 0, .int 0, .int 0, .int 0, .int 0, .int 0, .int 0, .int 0, .int 0, .int 0, .int 0, .int 0, .ref (a + 3), .ref (a + 4), .ref (a + 5), .ref (a + 6), .ref (a + 7), .ref (a + 8), .ref (a + 9), .ref (a + 10), .ref (a + 11), .ref (a + 12), .ref (a + 13), .ref (a + 14), .ref (a + 15), .ref (a + 16), .ref (a + 17), .ref (a + 18), .ref (a + 19), .ref (a + 20), .ref (a + 21), .ref (a + 22), .ref (a + 23), .ref (a + 24), .ref (a + 25), .ref (a + 26), .ref (a + 27), .ref (a + 28), .ref (a + 29), .int 0, .int 0, .int 0, .int 0, .int 0, .int 0, .ref (a + 30), .ref (a + 31), .int 0, .ref (a + 32), .ref (a + 33), .ref (a + 34), .ref (a + 35), .ref (a + 36), .null, .null, .null, .long 0, .int 0, .int 0, .int 0, .int 0, .int 0, .int 0, .int 0, .int 0, .null, .null, .null, .null, .null, .int 0, .null, .int 0, .int 0, .null, .null, .null, .int 0, .null, .int 0, .null, .int 0, .int 0, .long 0]
def Q11_6 (a : Nat) : List va_E := [.inl (1, 700, .inl (fun _ => 0)), .inl (1, 108, .inl (gw 108)), .inl (3, 3, .inl (fun _ => 0)), .inl (1, 6, .inl (fun _ => 0)), .inl (1, 14, .inl (fun _ => 0)), .inl (1, 18, .inl (fun _ => 0)), .inl (1, 18, .inl (fun _ => 0)), .inl (1, 18, .inl (fun _ => 0)), .inl (1, 18, .inl (fun _ => 0)), .inl (1, 18, .inl (fun _ => 0)), .inl (1, 18, .inl (fun _ => 0)), .inl (1, 8, .inl (fun _ => 0)), .inl (1, 8, .inl (fun _ => 0)), .inl (1, 8, .inl (fun _ => 0)), .inl (1, 8, .inl (fun _ => 0)), .inl (1, 24, .inl (fun _ => 0)), .inl (1, 24, .inl (fun _ => 0)), .inl (1, 24, .inl (fun _ => 0)), .inl (1, 12, .inl (fun _ => 0)), .inl (1, 12, .inl (fun _ => 0)), .inl (1, 12, .inl (fun _ => 0)), .inl (3, 6, .inl (fun _ => 0)), .inl (1, 6, .inl (fun _ => 0)), .inl (1, 6, .inl (fun _ => 0)), .inl (1, 128, .inl (fun _ => 0)), .inl (1, 128, .inl (fun _ => 0)), .inl (1, 128, .inl (fun _ => 0)), .inl (1, 96, .inl (fun _ => 0)), .inl (1, 96, .inl (fun _ => 0)), .inl (2, 7, .inr (.inl (fun _ => 0))), .inl (2, 64, .inr (.inl (fun _ => 0))), .inl (1, 8, .inl (fun _ => 0)), .inl (1, 8, .inl (fun _ => 0)), .inl (1, 18, .inl (fun _ => 0)), .inl (3, 18, .inl (fun _ => 0)), .inl (1, 18, .inl (fun _ => 0))]
def F11_7 (a : Nat) : List Value := [.ref (a + 1), .int 0, .int 0, .ref (a + 2), .int 0, .int (-1), .int 0, .int 0, .int 0, .int 0, .int 0, .int 0, .int 0, .int 0, .int 0, .int 0, .int 0, .int 0, .int 0, .int 0, .int 0, .int 0, .int 0, .int 0, .ref (a + 3), .ref (a + 4), .ref (a + 5), .ref (a + 6), .ref (a + 7), .ref (a + 8), .ref (a + 9), .ref (a + 10), .ref (a + 11), .ref (a + 12), .ref (a + 13), .ref (a + 14), .ref (a + 15), .ref (a + 16), .ref (a + 17), .ref (a + 18), .ref (a + 19), .ref (a + 20), .ref (a + 21), .ref (a + 22), .ref (a + 23), .ref (a + 24), .ref (a + 25), .ref (a + 26), .ref (a + 27), .ref (a + 28), .ref (a + 29), .int 0, .int 0, .int 0, .int 0, .int 0, .int 0, .ref (a + 30), .ref (a + 31), .int 0, .ref (a + 32), .ref (a + 33), .ref (a + 34), .ref (a + 35), .ref (a + 36), .ref (a + 37), .ref (a + 38), .ref (a + 39), .long 0, .int 0, .int 0, .int 0, .int 0, .int 0, .int 0, .int 0, .int 0, .ref (a + 40), .ref (a + 41), .null, .null, .null, .int 0, .null, .int 0, .int 0, .null, .null, .null, .int 0, .null, .int 0, .null, .int 0, .int 0, .long 0]
def Q11_7 (a : Nat) : List va_E := [.inl (1, 700, .inl (fun _ => 0)), .inl (1, 108, .inl (gw 108)), .inl (3, 3, .inl (fun _ => 0)), .inl (1, 6, .inl (fun _ => 0)), .inl (1, 14, .inl (fun _ => 0)), .inl (1, 18, .inl (fun _ => 0)), .inl (1, 18, .inl (fun _ => 0)), .inl (1, 18, .inl (fun _ => 0)), .inl (1, 18, .inl (fun _ => 0)), .inl (1, 18, .inl (fun _ => 0)), .inl (1, 18, .inl (fun _ => 0)), .inl (1, 8, .inl (fun _ => 0)), .inl (1, 8, .inl (fun _ => 0)), .inl (1, 8, .inl (fun _ => 0)), .inl (1, 8, .inl (fun _ => 0)), .inl (1, 24, .inl (fun _ => 0)), .inl (1, 24, .inl (fun _ => 0)), .inl (1, 24, .inl (fun _ => 0)), .inl (1, 12, .inl (fun _ => 0)), .inl (1, 12, .inl (fun _ => 0)), .inl (1, 12, .inl (fun _ => 0)), .inl (3, 6, .inl (fun _ => 0)), .inl (1, 6, .inl (fun _ => 0)), .inl (1, 6, .inl (fun _ => 0)), .inl (1, 128, .inl (fun _ => 0)), .inl (1, 128, .inl (fun _ => 0)), .inl (1, 128, .inl (fun _ => 0)), .inl (1, 96, .inl (fun _ => 0)), .inl (1, 96, .inl (fun _ => 0)), .inl (2, 7, .inr (.inl (fun _ => 0))), .inl (2, 64, .inr (.inl (fun _ => 0))), .inl (1, 8, .inl (fun _ => 0)), .inl (1, 8, .inl (fun _ => 0)), .inl (1, 18, .inl (fun _ => 0)), .inl (3, 18, .inl (fun _ => 0)), .inl (1, 18, .inl (fun _ => 0)), .inl (1, 2, .inl (fun _ => 0)), .inl (1, 2, .inl (fun _ => 0)), .inl (1, 2, .inl (fun _ => 0)), .inl (1, 3584, .inl (fun _ => 0)), .inl (3, 3584, .inl (fun _ => 0))]
def F11_8 (a : Nat) : List Value := [.ref (a + 1), .int 0, .int 0, .ref (a + 2), .int 0, .int (-1), .int 0, .int 0, .int 0, .int 0, .int 0, .int 0, .int 0, .int 0, .int 0, .int 0, .int 0, .int 0, .int 0, .int 0, .int 0, .int 0, .int 0, .int 0, .ref (a + 3), .ref (a + 4), .ref (a + 5), .ref (a + 6), .ref (a + 7), .ref (a + 8), .ref (a + 9), .ref (a + 10), .ref (a + 11), .ref (a + 12), .ref (a + 13), .ref (a + 14), .ref (a + 15), .ref (a + 16), .ref (a + 17), .ref (a + 18), .ref (a + 19), .ref (a + 20), .ref (a + 21), .ref (a + 22), .ref (a + 23), .ref (a + 24), .ref (a + 25), .ref (a + 26), .ref (a + 27), .ref (a + 28), .ref (a + 29), .int 0, .int 0, .int 0, .int 0, .int 0, .int 0, .ref (a + 30), .ref (a + 31), .int 0, .ref (a + 32), .ref (a + 33), .ref (a + 34), .ref (a + 35), .ref (a + 36), .ref (a + 37), .ref (a + 38), .ref (a + 39), .long 0, .int 0, .int 0, .int 0, .int 0, .int 0, .int 0, .int 0, .int 0, .ref (a + 40), .ref (a + 41), .ref (a + 42), .ref (a + 43), .ref (a + 44), .int 0, .ref (a + 45), .int 0, .int (-1), .null, .null, .null, .int 0, .null, .int 0, .null, .int 0, .int 0, .long 0]
def Q11_8 (a : Nat) : List va_E := [.inl (1, 700, .inl (fun _ => 0)), .inl (1, 108, .inl (gw 108)), .inl (3, 3, .inl (fun _ => 0)), .inl (1, 6, .inl (fun _ => 0)), .inl (1, 14, .inl (fun _ => 0)), .inl (1, 18, .inl (fun _ => 0)), .inl (1, 18, .inl (fun _ => 0)), .inl (1, 18, .inl (fun _ => 0)), .inl (1, 18, .inl (fun _ => 0)), .inl (1, 18, .inl (fun _ => 0)), .inl (1, 18, .inl (fun _ => 0)), .inl (1, 8, .inl (fun _ => 0)), .inl (1, 8, .inl (fun _ => 0)), .inl (1, 8, .inl (fun _ => 0)), .inl (1, 8, .inl (fun _ => 0)), .inl (1, 24, .inl (fun _ => 0)), .inl (1, 24, .inl (fun _ => 0)), .inl (1, 24, .inl (fun _ => 0)), .inl (1, 12, .inl (fun _ => 0)), .inl (1, 12, .inl (fun _ => 0)), .inl (1, 12, .inl (fun _ => 0)), .inl (3, 6, .inl (fun _ => 0)), .inl (1, 6, .inl (fun _ => 0)), .inl (1, 6, .inl (fun _ => 0)), .inl (1, 128, .inl (fun _ => 0)), .inl (1, 128, .inl (fun _ => 0)), .inl (1, 128, .inl (fun _ => 0)), .inl (1, 96, .inl (fun _ => 0)), .inl (1, 96, .inl (fun _ => 0)), .inl (2, 7, .inr (.inl (fun _ => 0))), .inl (2, 64, .inr (.inl (fun _ => 0))), .inl (1, 8, .inl (fun _ => 0)), .inl (1, 8, .inl (fun _ => 0)), .inl (1, 18, .inl (fun _ => 0)), .inl (3, 18, .inl (fun _ => 0)), .inl (1, 18, .inl (fun _ => 0)), .inl (1, 2, .inl (fun _ => 0)), .inl (1, 2, .inl (fun _ => 0)), .inl (1, 2, .inl (fun _ => 0)), .inl (1, 3584, .inl (fun _ => 0)), .inl (3, 3584, .inl (fun _ => 0)), .inl (1, 7, .inl (fun _ => 0)), .inl (1, 4, .inl (fun _ => 0)), .inl (1, 9, .inl (fun _ => 0)), .inl (3, 19683, .inl (fun _ => 0))]
def F11_9 (a : Nat) : List Value := [.ref (a + 1), .int 0, .int 0, .ref (a + 2), .int 0, .int (-1), .int 0, .int 0, .int 0, .int 0, .int 0, .int 0, .int 0, .int 0, .int 0, .int 0, .int 0, .int 0, .int 0, .int 0, .int 0, .int 0, .int 0, .int 0, .ref (a + 3), .ref (a + 4), .ref (a + 5), .ref (a + 6), .ref (a + 7), .ref (a + 8), .ref (a + 9), .ref (a + 10), .ref (a + 11), .ref (a + 12), .ref (a + 13), .ref (a + 14), .ref (a + 15), .ref (a + 16), .ref (a + 17), .ref (a + 18), .ref (a + 19), .ref (a + 20), .ref (a + 21), .ref (a + 22), .ref (a + 23), .ref (a + 24), .ref (a + 25), .ref (a + 26), .ref (a + 27), .ref (a + 28), .ref (a + 29), .int 0, .int 0, .int 0, .int 0, .int 0, .int 0, .ref (a + 30), .ref (a + 31), .int 0, .ref (a + 32), .ref (a + 33), .ref (a + 34), .ref (a + 35), .ref (a + 36), .ref (a + 37), .ref (a + 38), .ref (a + 39), .long 0, .int 0, .int 0, .int 0, .int 0, .int 0, .int 0, .int 0, .int 0, .ref (a + 40), .ref (a + 41), .ref (a + 42), .ref (a + 43), .ref (a + 44), .int 0, .ref (a + 45), .int 0, .int (-1), .ref (a + 46), .ref (a + 47), .ref (a + 48), .int 0, .ref (a + 49), .int 0, .ref (a + 50), .int 0, .int 0, .long 0]
def Q11_9 (a : Nat) : List va_E := [.inl (1, 700, .inl (fun _ => 0)), .inl (1, 108, .inl (gw 108)), .inl (3, 3, .inl (fun _ => 0)), .inl (1, 6, .inl (fun _ => 0)), .inl (1, 14, .inl (fun _ => 0)), .inl (1, 18, .inl (fun _ => 0)), .inl (1, 18, .inl (fun _ => 0)), .inl (1, 18, .inl (fun _ => 0)), .inl (1, 18, .inl (fun _ => 0)), .inl (1, 18, .inl (fun _ => 0)), .inl (1, 18, .inl (fun _ => 0)), .inl (1, 8, .inl (fun _ => 0)), .inl (1, 8, .inl (fun _ => 0)), .inl (1, 8, .inl (fun _ => 0)), .inl (1, 8, .inl (fun _ => 0)), .inl (1, 24, .inl (fun _ => 0)), .inl (1, 24, .inl (fun _ => 0)), .inl (1, 24, .inl (fun _ => 0)), .inl (1, 12, .inl (fun _ => 0)), .inl (1, 12, .inl (fun _ => 0)), .inl (1, 12, .inl (fun _ => 0)), .inl (3, 6, .inl (fun _ => 0)), .inl (1, 6, .inl (fun _ => 0)), .inl (1, 6, .inl (fun _ => 0)), .inl (1, 128, .inl (fun _ => 0)), .inl (1, 128, .inl (fun _ => 0)), .inl (1, 128, .inl (fun _ => 0)), .inl (1, 96, .inl (fun _ => 0)), .inl (1, 96, .inl (fun _ => 0)), .inl (2, 7, .inr (.inl (fun _ => 0))), .inl (2, 64, .inr (.inl (fun _ => 0))), .inl (1, 8, .inl (fun _ => 0)), .inl (1, 8, .inl (fun _ => 0)), .inl (1, 18, .inl (fun _ => 0)), .inl (3, 18, .inl (fun _ => 0)), .inl (1, 18, .inl (fun _ => 0)), .inl (1, 2, .inl (fun _ => 0)), .inl (1, 2, .inl (fun _ => 0)), .inl (1, 2, .inl (fun _ => 0)), .inl (1, 3584, .inl (fun _ => 0)), .inl (3, 3584, .inl (fun _ => 0)), .inl (1, 7, .inl (fun _ => 0)), .inl (1, 4, .inl (fun _ => 0)), .inl (1, 9, .inl (fun _ => 0)), .inl (3, 19683, .inl (fun _ => 0)), .inl (1, 96, .inl (fun _ => 0)), .inl (3, 24, .inl (fun _ => 0)), .inl (1, 7, .inl (fun _ => 0)), .inl (1, 720, .inl (fun _ => 0)), .inl (1, 36, .inl (fun _ => 0))]
def FX11 (a : Nat) : List Value := F11_9 a
def QX11 (a : Nat) : List va_E := Q11_9 a
set_option maxRecDepth 20000 in
theorem t11 {o : ai_Ou} {P : List va_E} (hp : 0 < P.length) (g : ct 9 tX11_init (ai_Hd 140) o 1059 (lv_args 0 [.ref P.length]) 11 P (FX11 P.length) (QX11 P.length) 50 29574) : ct 9 tX11_init (ai_Hd 140) o 663 (lv_args 0 [.ref P.length]) 11 P (F11b P.length) (Q11b P.length) 2 808 := by
  refine ct_int (k := 5) rfl rfl rfl rfl (Nat.le_of_ble_eq_true rfl) hp ?_
  refine ct_arr (zn := 3) (kd := 3) (k := 24) rfl rfl rfl rfl rfl (by decide) (by decide) (by decide) (Nat.le_of_ble_eq_true rfl) rfl (fun _ => rfl) hp ?_
  refine ct_arr (zn := 6) (kd := 1) (k := 25) rfl rfl rfl rfl rfl (by decide) (by decide) (by decide) (Nat.le_of_ble_eq_true rfl) rfl (fun _ => rfl) hp ?_
  refine ct_arr (zn := 14) (kd := 1) (k := 26) rfl rfl rfl rfl rfl (by decide) (by decide) (by decide) (Nat.le_of_ble_eq_true rfl) rfl (fun _ => rfl) hp ?_
  refine ct_arr (zn := 18) (kd := 1) (k := 27) rfl rfl rfl rfl rfl (by decide) (by decide) (by decide) (Nat.le_of_ble_eq_true rfl) rfl (fun _ => rfl) hp ?_
  show ct 9 tX11_init (ai_Hd 140) _ 699 _ 11 P (F11_0 P.length) (Q11_0 P.length) 6 849
  refine ct_arr (zn := 18) (kd := 1) (k := 28) rfl rfl rfl rfl rfl (by decide) (by decide) (by decide) (Nat.le_of_ble_eq_true rfl) rfl (fun _ => rfl) hp ?_
  refine ct_arr (zn := 18) (kd := 1) (k := 29) rfl rfl rfl rfl rfl (by decide) (by decide) (by decide) (Nat.le_of_ble_eq_true rfl) rfl (fun _ => rfl) hp ?_
  refine ct_arr (zn := 18) (kd := 1) (k := 30) rfl rfl rfl rfl rfl (by decide) (by decide) (by decide) (Nat.le_of_ble_eq_true rfl) rfl (fun _ => rfl) hp ?_
  refine ct_arr (zn := 18) (kd := 1) (k := 31) rfl rfl rfl rfl rfl (by decide) (by decide) (by decide) (Nat.le_of_ble_eq_true rfl) rfl (fun _ => rfl) hp ?_
  refine ct_arr (zn := 18) (kd := 1) (k := 32) rfl rfl rfl rfl rfl (by decide) (by decide) (by decide) (Nat.le_of_ble_eq_true rfl) rfl (fun _ => rfl) hp ?_
  show ct 9 tX11_init (ai_Hd 140) _ 739 _ 11 P (F11_1 P.length) (Q11_1 P.length) 11 939
  refine ct_arr (zn := 8) (kd := 1) (k := 33) rfl rfl rfl rfl rfl (by decide) (by decide) (by decide) (Nat.le_of_ble_eq_true rfl) rfl (fun _ => rfl) hp ?_
  refine ct_arr (zn := 8) (kd := 1) (k := 34) rfl rfl rfl rfl rfl (by decide) (by decide) (by decide) (Nat.le_of_ble_eq_true rfl) rfl (fun _ => rfl) hp ?_
  refine ct_arr (zn := 8) (kd := 1) (k := 35) rfl rfl rfl rfl rfl (by decide) (by decide) (by decide) (Nat.le_of_ble_eq_true rfl) rfl (fun _ => rfl) hp ?_
  refine ct_arr (zn := 8) (kd := 1) (k := 36) rfl rfl rfl rfl rfl (by decide) (by decide) (by decide) (Nat.le_of_ble_eq_true rfl) rfl (fun _ => rfl) hp ?_
  refine ct_arr (zn := 24) (kd := 1) (k := 37) rfl rfl rfl rfl rfl (by decide) (by decide) (by decide) (Nat.le_of_ble_eq_true rfl) rfl (fun _ => rfl) hp ?_
  show ct 9 tX11_init (ai_Hd 140) _ 779 _ 11 P (F11_2 P.length) (Q11_2 P.length) 16 995
  refine ct_arr (zn := 24) (kd := 1) (k := 38) rfl rfl rfl rfl rfl (by decide) (by decide) (by decide) (Nat.le_of_ble_eq_true rfl) rfl (fun _ => rfl) hp ?_
  refine ct_arr (zn := 24) (kd := 1) (k := 39) rfl rfl rfl rfl rfl (by decide) (by decide) (by decide) (Nat.le_of_ble_eq_true rfl) rfl (fun _ => rfl) hp ?_
  refine ct_arr (zn := 12) (kd := 1) (k := 40) rfl rfl rfl rfl rfl (by decide) (by decide) (by decide) (Nat.le_of_ble_eq_true rfl) rfl (fun _ => rfl) hp ?_
  refine ct_arr (zn := 12) (kd := 1) (k := 41) rfl rfl rfl rfl rfl (by decide) (by decide) (by decide) (Nat.le_of_ble_eq_true rfl) rfl (fun _ => rfl) hp ?_
  refine ct_arr (zn := 12) (kd := 1) (k := 42) rfl rfl rfl rfl rfl (by decide) (by decide) (by decide) (Nat.le_of_ble_eq_true rfl) rfl (fun _ => rfl) hp ?_
  show ct 9 tX11_init (ai_Hd 140) _ 819 _ 11 P (F11_3 P.length) (Q11_3 P.length) 21 1079
  refine ct_arr (zn := 6) (kd := 3) (k := 43) rfl rfl rfl rfl rfl (by decide) (by decide) (by decide) (Nat.le_of_ble_eq_true rfl) rfl (fun _ => rfl) hp ?_
  refine ct_arr (zn := 6) (kd := 1) (k := 44) rfl rfl rfl rfl rfl (by decide) (by decide) (by decide) (Nat.le_of_ble_eq_true rfl) rfl (fun _ => rfl) hp ?_
  refine ct_arr (zn := 6) (kd := 1) (k := 45) rfl rfl rfl rfl rfl (by decide) (by decide) (by decide) (Nat.le_of_ble_eq_true rfl) rfl (fun _ => rfl) hp ?_
  refine ct_arr (zn := 128) (kd := 1) (k := 46) rfl rfl rfl rfl rfl (by decide) (by decide) (by decide) (Nat.le_of_ble_eq_true rfl) rfl (fun _ => rfl) hp ?_
  refine ct_arr (zn := 128) (kd := 1) (k := 47) rfl rfl rfl rfl rfl (by decide) (by decide) (by decide) (Nat.le_of_ble_eq_true rfl) rfl (fun _ => rfl) hp ?_
  show ct 9 tX11_init (ai_Hd 140) _ 861 _ 11 P (F11_4 P.length) (Q11_4 P.length) 26 1353
  refine ct_arr (zn := 128) (kd := 1) (k := 48) rfl rfl rfl rfl rfl (by decide) (by decide) (by decide) (Nat.le_of_ble_eq_true rfl) rfl (fun _ => rfl) hp ?_
  refine ct_arr (zn := 96) (kd := 1) (k := 49) rfl rfl rfl rfl rfl (by decide) (by decide) (by decide) (Nat.le_of_ble_eq_true rfl) rfl (fun _ => rfl) hp ?_
  refine ct_arr (zn := 96) (kd := 1) (k := 50) rfl rfl rfl rfl rfl (by decide) (by decide) (by decide) (Nat.le_of_ble_eq_true rfl) rfl (fun _ => rfl) hp ?_
  refine ct_arr (zn := 7) (kd := 2) (k := 57) rfl rfl rfl rfl rfl (by decide) (by decide) (by decide) (Nat.le_of_ble_eq_true rfl) rfl (fun _ => rfl) hp ?_
  refine ct_arr (zn := 64) (kd := 2) (k := 58) rfl rfl rfl rfl rfl (by decide) (by decide) (by decide) (Nat.le_of_ble_eq_true rfl) rfl (fun _ => rfl) hp ?_
  show ct 9 tX11_init (ai_Hd 140) _ 902 _ 11 P (F11_5 P.length) (Q11_5 P.length) 31 1744
  refine ct_arr (zn := 8) (kd := 1) (k := 60) rfl rfl rfl rfl rfl (by decide) (by decide) (by decide) (Nat.le_of_ble_eq_true rfl) rfl (fun _ => rfl) hp ?_
  refine ct_arr (zn := 8) (kd := 1) (k := 61) rfl rfl rfl rfl rfl (by decide) (by decide) (by decide) (Nat.le_of_ble_eq_true rfl) rfl (fun _ => rfl) hp ?_
  refine ct_arr (zn := 18) (kd := 1) (k := 62) rfl rfl rfl rfl rfl (by decide) (by decide) (by decide) (Nat.le_of_ble_eq_true rfl) rfl (fun _ => rfl) hp ?_
  refine ct_arr (zn := 18) (kd := 3) (k := 63) rfl rfl rfl rfl rfl (by decide) (by decide) (by decide) (Nat.le_of_ble_eq_true rfl) rfl (fun _ => rfl) hp ?_
  refine ct_arr (zn := 18) (kd := 1) (k := 64) rfl rfl rfl rfl rfl (by decide) (by decide) (by decide) (Nat.le_of_ble_eq_true rfl) rfl (fun _ => rfl) hp ?_
  show ct 9 tX11_init (ai_Hd 140) _ 942 _ 11 P (F11_6 P.length) (Q11_6 P.length) 36 1814
  refine ct_arr (zn := 2) (kd := 1) (k := 65) rfl rfl rfl rfl rfl (by decide) (by decide) (by decide) (Nat.le_of_ble_eq_true rfl) rfl (fun _ => rfl) hp ?_
  refine ct_arr (zn := 2) (kd := 1) (k := 66) rfl rfl rfl rfl rfl (by decide) (by decide) (by decide) (Nat.le_of_ble_eq_true rfl) rfl (fun _ => rfl) hp ?_
  refine ct_arr (zn := 2) (kd := 1) (k := 67) rfl rfl rfl rfl rfl (by decide) (by decide) (by decide) (Nat.le_of_ble_eq_true rfl) rfl (fun _ => rfl) hp ?_
  refine ct_arr (zn := 3584) (kd := 1) (k := 77) rfl rfl rfl rfl rfl (by decide) (by decide) (by decide) (Nat.le_of_ble_eq_true rfl) rfl (fun _ => rfl) hp ?_
  refine ct_arr (zn := 3584) (kd := 3) (k := 78) rfl rfl rfl rfl rfl (by decide) (by decide) (by decide) (Nat.le_of_ble_eq_true rfl) rfl (fun _ => rfl) hp ?_
  show ct 9 tX11_init (ai_Hd 140) _ 981 _ 11 P (F11_7 P.length) (Q11_7 P.length) 41 8988
  refine ct_arr (zn := 7) (kd := 1) (k := 79) rfl rfl rfl rfl rfl (by decide) (by decide) (by decide) (Nat.le_of_ble_eq_true rfl) rfl (fun _ => rfl) hp ?_
  refine ct_arr (zn := 4) (kd := 1) (k := 80) rfl rfl rfl rfl rfl (by decide) (by decide) (by decide) (Nat.le_of_ble_eq_true rfl) rfl (fun _ => rfl) hp ?_
  refine ct_arr (zn := 9) (kd := 1) (k := 81) rfl rfl rfl rfl rfl (by decide) (by decide) (by decide) (Nat.le_of_ble_eq_true rfl) rfl (fun _ => rfl) hp ?_
  refine ct_arr (zn := 19683) (kd := 3) (k := 83) rfl rfl rfl rfl rfl (by decide) (by decide) (by decide) (Nat.le_of_ble_eq_true rfl) rfl (fun _ => rfl) hp ?_
  refine ct_int (k := 85) rfl rfl rfl rfl (Nat.le_of_ble_eq_true rfl) hp ?_
  show ct 9 tX11_init (ai_Hd 140) _ 1018 _ 11 P (F11_8 P.length) (Q11_8 P.length) 45 28691
  refine ct_arr (zn := 96) (kd := 1) (k := 86) rfl rfl rfl rfl rfl (by decide) (by decide) (by decide) (Nat.le_of_ble_eq_true rfl) rfl (fun _ => rfl) hp ?_
  refine ct_arr (zn := 24) (kd := 3) (k := 87) rfl rfl rfl rfl rfl (by decide) (by decide) (by decide) (Nat.le_of_ble_eq_true rfl) rfl (fun _ => rfl) hp ?_
  refine ct_arr (zn := 7) (kd := 1) (k := 88) rfl rfl rfl rfl rfl (by decide) (by decide) (by decide) (Nat.le_of_ble_eq_true rfl) rfl (fun _ => rfl) hp ?_
  refine ct_arr (zn := 720) (kd := 1) (k := 90) rfl rfl rfl rfl rfl (by decide) (by decide) (by decide) (Nat.le_of_ble_eq_true rfl) rfl (fun _ => rfl) hp ?_
  refine ct_arr (zn := 36) (kd := 1) (k := 92) rfl rfl rfl rfl rfl (by decide) (by decide) (by decide) (Nat.le_of_ble_eq_true rfl) rfl (fun _ => rfl) hp ?_
  show ct 9 tX11_init (ai_Hd 140) _ 1059 _ 11 P (F11_9 P.length) (Q11_9 P.length) 50 29574
  exact g
set_option maxRecDepth 20000 in
theorem h11 {o : ai_Ou} {P : List va_E} (hp : 0 < P.length) (g : ct 9 tX11_init (ai_Hd 140) o 1059 (lv_args 0 [.ref P.length]) 11 P (FX11 P.length) (QX11 P.length) 50 29574) : ct 9 tX11_init (ai_Hd 140) o 0 (lv_args 0 [.ref P.length]) 11 P [.null, .int 0, .int 0, .null, .int 0, .int 0, .int 0, .int 0, .int 0, .int 0, .int 0, .int 0, .int 0, .int 0, .int 0, .int 0, .int 0, .int 0, .int 0, .int 0, .int 0, .int 0, .int 0, .int 0, .null, .null, .null, .null, .null, .null, .null, .null, .null, .null, .null, .null, .null, .null, .null, .null, .null, .null, .null, .null, .null, .null, .null, .null, .null, .null, .null, .int 0, .int 0, .int 0, .int 0, .int 0, .int 0, .null, .null, .int 0, .null, .null, .null, .null, .null, .null, .null, .null, .long 0, .int 0, .int 0, .int 0, .int 0, .int 0, .int 0, .int 0, .int 0, .null, .null, .null, .null, .null, .int 0, .null, .int 0, .int 0, .null, .null, .null, .int 0, .null, .int 0, .null, .int 0, .int 0, .long 0] [] 0 0 := by
  refine ct_oi rfl rfl rfl ?_
  refine ct_arr (zn := 700) (kd := 1) (k := 0) rfl rfl rfl rfl rfl (by decide) (by decide) (by decide) (Nat.le_of_ble_eq_true rfl) rfl (fun _ => rfl) hp ?_
  show ct 9 tX11_init (ai_Hd 140) _ 13 _ 11 P (F11a P.length) (Q11a P.length) 1 700
  refine lz_al (pc := 13) rfl rfl (lz_pi rfl (lz_na (zn := 108) rfl (by decide) (by decide) (by decide) ?_))
  have lenA : (P ++ (.inr (11, F11a P.length) : va_E) :: Q11a P.length).length = P.length + 2 := by rw [len_1]; rfl
  have z : (fun _ => 0 : Nat → Int32) = gw 0 := by
    funext i
    unfold gw
    rw [if_neg (by omega)]
  have e : va_up (hL (P ++ .inr (11, F11a P.length) :: Q11a P.length)) (P.length + 1 + (Q11a P.length).length) (.inl (1, 108, .inl (fun _ => 0))) = hL ((P ++ .inr (11, F11a P.length) :: Q11a P.length) ++ [.inl (1, 108, .inl (gw 0))]) := by
    rw [← len_1 (P := P) (Q := Q11a P.length) (x := .inr (11, F11a P.length)), hL_new, z]
  rw [e]
  have w := w11 (o := o) (lv := lv_args 0 [.ref P.length]) (PA := P ++ .inr (11, F11a P.length) :: Q11a P.length) (rest := [.ref P.length]) (c := 2) (s := 808) (by rw [lenA]; omega) ?_
  · rw [lenA] at w
    exact w
  · rw [lenA, List.append_assoc]
    refine lz_pf (pc := 660) rfl (ct_sF (Q := Q11a P.length ++ [.inl (1, 108, .inl (gw 108))]) (fs := F11a P.length) hp (by omega) (Nat.le_of_ble_eq_true rfl) rfl) ?_
    exact t11 hp g
