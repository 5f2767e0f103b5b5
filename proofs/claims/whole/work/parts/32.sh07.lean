/-! ===== methods as functions, part 7 ===== -/
def fX9_shorten_73 (n : Nat) (h : ai_H) (v0 : Nat) (v3 : Int32) (v4 : Int32) (v5 : Int32) (v6 : Int32) : Option (Int32 × ai_H) :=
  (pR n h v0 9 0).bind fun x1 =>
  (gX 1 n h x1 v4).bind fun x2 =>
  (pR n h v0 9 0).bind fun x3 =>
  (gX 1 n h x3 v3).bind fun x4 =>
  if x4 ≤ (x2 + v5) then (
    (gZ v6).bind fun _ =>
    some (v6, h))
  else (
    (pR n h v0 9 0).bind fun x5 =>
    (pR n h v0 9 0).bind fun x6 =>
    (gX 1 n h x6 v4).bind fun x7 =>
    (wX 1 (fun x => x) n h x5 v3 (x7 + v5)).bind fun h8 =>
    some ((1 : Int32), h8))
theorem sX9_shorten_73 {n : Nat} {q : Int32 × ai_H} {h : ai_H} {v0 : Nat} {v3 : Int32} {v4 : Int32} {v5 : Int32} {v6 : Int32} {lv : ai_L} (l0 : ai_ld 0 lv = some (.ref v0)) (l3 : ai_ld 3 lv = some (.int v3)) (l4 : ai_ld 4 lv = some (.int v4)) (l5 : ai_ld 5 lv = some (.int v5)) (l6 : ai_ld 6 lv = some (.int v6)) (hh : fX9_shorten_73 n h v0 v3 v4 v5 v6 = some q) : bi_go 1 tX9_shorten n (fI n q) 73 lv [] h := by
  unfold fX9_shorten_73 at hh
  refine go_al (pc := 73) rfl l0 ?_
  obtain ⟨x1, ex1, hh⟩ := bi_bd hh
  refine go_gfR (pc := 74) rfl ex1 ?_
  refine go_il (pc := 77) rfl l4 ?_
  obtain ⟨x2, ex2, hh⟩ := bi_bd hh
  refine go_iald (pc := 79) rfl ex2 ?_
  refine go_il (pc := 80) rfl l5 ?_
  refine go_iadd (pc := 82) rfl ?_
  refine go_al (pc := 83) rfl l0 ?_
  obtain ⟨x3, ex3, hh⟩ := bi_bd hh
  refine go_gfR (pc := 84) rfl ex3 ?_
  refine go_il (pc := 87) rfl l3 ?_
  obtain ⟨x4, ex4, hh⟩ := bi_bd hh
  refine go_iald (pc := 88) rfl ex4 ?_
  refine bi_ite hh (fun hc hh => ?_) (fun hc hh => ?_)
  · refine go_cmpgeT (pc := 89) rfl hc ?_
    refine go_il (pc := 111) rfl l6 ?_
    obtain ⟨_, ez, hh⟩ := bi_bd hh
    exact go_rz (pc := 113) rfl ez hh
  · refine go_cmpgeF (pc := 89) rfl hc ?_
    refine go_al (pc := 92) rfl l0 ?_
    obtain ⟨x5, ex5, hh⟩ := bi_bd hh
    refine go_gfR (pc := 93) rfl ex5 ?_
    refine go_il (pc := 96) rfl l3 ?_
    refine go_al (pc := 97) rfl l0 ?_
    obtain ⟨x6, ex6, hh⟩ := bi_bd hh
    refine go_gfR (pc := 98) rfl ex6 ?_
    refine go_il (pc := 101) rfl l4 ?_
    obtain ⟨x7, ex7, hh⟩ := bi_bd hh
    refine go_iald (pc := 103) rfl ex7 ?_
    refine go_il (pc := 104) rfl l5 ?_
    refine go_iadd (pc := 106) rfl ?_
    obtain ⟨h8, eh8, hh⟩ := bi_bd hh
    refine go_iast (pc := 107) rfl eh8 ?_
    refine go_pi (pc := 108) rfl ?_
    refine go_is (pc := 109) rfl ?_
    refine go_il (pc := 111) rfl bi_e1 ?_
    exact go_rz (pc := 113) rfl bi_z1 hh
def fX9_shorten (n : Nat) (h : ai_H) (a0 : Nat) (a1 : Nat) (a2 : Int32) : Option (Int32 × ai_H) :=
  (kO n h a0 9).bind fun _ =>
  (pR n h a1 8 1).bind fun x1 =>
  (fX6_cell n h x1 a2 (0 : Int32)).bind fun q2 =>
  (pR n q2.2 a1 8 1).bind fun x3 =>
  (fX6_cell n q2.2 x3 a2 (1 : Int32)).bind fun q4 =>
  (pR n q4.2 a1 8 1).bind fun x5 =>
  (fX6_cell n q4.2 x5 a2 (2 : Int32)).bind fun q6 =>
  (pR n q6.2 a0 9 0).bind fun x7 =>
  (gX 1 n q6.2 x7 q2.1).bind fun x8 =>
  (pR n q6.2 a0 9 0).bind fun x9 =>
  (gX 1 n q6.2 x9 q4.1).bind fun x10 =>
  if x10 ≤ (x8 + q6.1) then (
    fX9_shorten_73 n q6.2 a0 q2.1 q4.1 q6.1 (0 : Int32))
  else (
    (pR n q6.2 a0 9 0).bind fun x11 =>
    (pR n q6.2 a0 9 0).bind fun x12 =>
    (gX 1 n q6.2 x12 q2.1).bind fun x13 =>
    (wX 1 (fun x => x) n q6.2 x11 q4.1 (x13 + q6.1)).bind fun h14 =>
    fX9_shorten_73 n h14 a0 q2.1 q4.1 q6.1 (1 : Int32))
theorem gX9_shorten {n : Nat} {h : ai_H} {a0 : Nat} {a1 : Nat} {a2 : Int32} {q : Int32 × ai_H} (hh : fX9_shorten n h a0 a1 a2 = some q) : kO n h a0 9 = some () := by
  obtain ⟨_, e, -⟩ := bi_bd hh
  exact e
theorem sX9_shorten {n : Nat} {h : ai_H} {a0 : Nat} {a1 : Nat} {a2 : Int32} {q : Int32 × ai_H} (hh : fX9_shorten n h a0 a1 a2 = some q) : bi_sp 2 82 [.ref a0, .ref a1, .int a2] h n (fI n q) := by
  refine bi_en (D := 1) (T := tX9_shorten) (funext fun pc => rfl) rfl (Nat.le_of_ble_eq_true rfl) ?_
  unfold fX9_shorten at hh
  obtain ⟨_, eO, hh⟩ := bi_bd hh
  refine go_al (pc := 0) rfl (rfl : ai_ld 1 (lv_args 0 [.ref a0, .ref a1, .int a2]) = some (.ref a1)) ?_
  obtain ⟨x1, ex1, hh⟩ := bi_bd hh
  refine go_gfR (pc := 1) rfl ex1 ?_
  refine go_il (pc := 4) rfl (rfl : ai_ld 2 (lv_args 0 [.ref a0, .ref a1, .int a2]) = some (.int a2)) ?_
  refine go_pi (pc := 5) rfl ?_
  obtain ⟨q2, eq2, hh⟩ := bi_bd hh
  refine go_ivI (pc := 6) rfl rfl (gX6_cell eq2) (Nat.le_of_ble_eq_true rfl) (bi_up (sX6_cell eq2) (Nat.le_of_ble_eq_true rfl)) ?_
  refine go_is (pc := 9) rfl ?_
  refine go_al (pc := 10) rfl (bi_k1 (rfl : ai_ld 1 (lv_args 0 [.ref a0, .ref a1, .int a2]) = some (.ref a1)) rfl rfl) ?_
  obtain ⟨x3, ex3, hh⟩ := bi_bd hh
  refine go_gfR (pc := 11) rfl ex3 ?_
  refine go_il (pc := 14) rfl (bi_k1 (rfl : ai_ld 2 (lv_args 0 [.ref a0, .ref a1, .int a2]) = some (.int a2)) rfl rfl) ?_
  refine go_pi (pc := 15) rfl ?_
  obtain ⟨q4, eq4, hh⟩ := bi_bd hh
  refine go_ivI (pc := 16) rfl rfl (gX6_cell eq4) (Nat.le_of_ble_eq_true rfl) (bi_up (sX6_cell eq4) (Nat.le_of_ble_eq_true rfl)) ?_
  refine go_is (pc := 19) rfl ?_
  refine go_al (pc := 21) rfl (bi_k1 (bi_k1 (rfl : ai_ld 1 (lv_args 0 [.ref a0, .ref a1, .int a2]) = some (.ref a1)) rfl rfl) rfl rfl) ?_
  obtain ⟨x5, ex5, hh⟩ := bi_bd hh
  refine go_gfR (pc := 22) rfl ex5 ?_
  refine go_il (pc := 25) rfl (bi_k1 (bi_k1 (rfl : ai_ld 2 (lv_args 0 [.ref a0, .ref a1, .int a2]) = some (.int a2)) rfl rfl) rfl rfl) ?_
  refine go_pi (pc := 26) rfl ?_
  obtain ⟨q6, eq6, hh⟩ := bi_bd hh
  refine go_ivI (pc := 27) rfl rfl (gX6_cell eq6) (Nat.le_of_ble_eq_true rfl) (bi_up (sX6_cell eq6) (Nat.le_of_ble_eq_true rfl)) ?_
  refine go_is (pc := 30) rfl ?_
  refine go_pi (pc := 32) rfl ?_
  refine go_is (pc := 33) rfl ?_
  refine go_al (pc := 35) rfl (bi_k1 (bi_k1 (bi_k1 (bi_k1 (rfl : ai_ld 0 (lv_args 0 [.ref a0, .ref a1, .int a2]) = some (.ref a0)) rfl rfl) rfl rfl) rfl rfl) rfl rfl) ?_
  obtain ⟨x7, ex7, hh⟩ := bi_bd hh
  refine go_gfR (pc := 36) rfl ex7 ?_
  refine go_il (pc := 39) rfl (bi_k1 (bi_k1 (bi_k1 bi_e1 rfl rfl) rfl rfl) rfl rfl) ?_
  obtain ⟨x8, ex8, hh⟩ := bi_bd hh
  refine go_iald (pc := 40) rfl ex8 ?_
  refine go_il (pc := 41) rfl (bi_k1 bi_e1 rfl rfl) ?_
  refine go_iadd (pc := 43) rfl ?_
  refine go_al (pc := 44) rfl (bi_k1 (bi_k1 (bi_k1 (bi_k1 (rfl : ai_ld 0 (lv_args 0 [.ref a0, .ref a1, .int a2]) = some (.ref a0)) rfl rfl) rfl rfl) rfl rfl) rfl rfl) ?_
  obtain ⟨x9, ex9, hh⟩ := bi_bd hh
  refine go_gfR (pc := 45) rfl ex9 ?_
  refine go_il (pc := 48) rfl (bi_k1 (bi_k1 bi_e1 rfl rfl) rfl rfl) ?_
  obtain ⟨x10, ex10, hh⟩ := bi_bd hh
  refine go_iald (pc := 50) rfl ex10 ?_
  refine bi_ite hh (fun hc hh => ?_) (fun hc hh => ?_)
  · refine go_cmpgeT (pc := 51) rfl hc ?_
    exact sX9_shorten_73  (bi_k1 (bi_k1 (bi_k1 (bi_k1 (rfl : ai_ld 0 (lv_args 0 [.ref a0, .ref a1, .int a2]) = some (.ref a0)) rfl rfl) rfl rfl) rfl rfl) rfl rfl) (bi_k1 (bi_k1 (bi_k1 bi_e1 rfl rfl) rfl rfl) rfl rfl) (bi_k1 (bi_k1 bi_e1 rfl rfl) rfl rfl) (bi_k1 bi_e1 rfl rfl) bi_e1 hh
  · refine go_cmpgeF (pc := 51) rfl hc ?_
    refine go_al (pc := 54) rfl (bi_k1 (bi_k1 (bi_k1 (bi_k1 (rfl : ai_ld 0 (lv_args 0 [.ref a0, .ref a1, .int a2]) = some (.ref a0)) rfl rfl) rfl rfl) rfl rfl) rfl rfl) ?_
    obtain ⟨x11, ex11, hh⟩ := bi_bd hh
    refine go_gfR (pc := 55) rfl ex11 ?_
    refine go_il (pc := 58) rfl (bi_k1 (bi_k1 bi_e1 rfl rfl) rfl rfl) ?_
    refine go_al (pc := 60) rfl (bi_k1 (bi_k1 (bi_k1 (bi_k1 (rfl : ai_ld 0 (lv_args 0 [.ref a0, .ref a1, .int a2]) = some (.ref a0)) rfl rfl) rfl rfl) rfl rfl) rfl rfl) ?_
    obtain ⟨x12, ex12, hh⟩ := bi_bd hh
    refine go_gfR (pc := 61) rfl ex12 ?_
    refine go_il (pc := 64) rfl (bi_k1 (bi_k1 (bi_k1 bi_e1 rfl rfl) rfl rfl) rfl rfl) ?_
    obtain ⟨x13, ex13, hh⟩ := bi_bd hh
    refine go_iald (pc := 65) rfl ex13 ?_
    refine go_il (pc := 66) rfl (bi_k1 bi_e1 rfl rfl) ?_
    refine go_iadd (pc := 68) rfl ?_
    obtain ⟨h14, eh14, hh⟩ := bi_bd hh
    refine go_iast (pc := 69) rfl eh14 ?_
    refine go_pi (pc := 70) rfl ?_
    refine go_is (pc := 71) rfl ?_
    exact sX9_shorten_73  (bi_k1 (bi_k1 (bi_k1 (bi_k1 (bi_k1 (rfl : ai_ld 0 (lv_args 0 [.ref a0, .ref a1, .int a2]) = some (.ref a0)) rfl rfl) rfl rfl) rfl rfl) rfl rfl) rfl rfl) (bi_k1 (bi_k1 (bi_k1 (bi_k1 bi_e1 rfl rfl) rfl rfl) rfl rfl) rfl rfl) (bi_k1 (bi_k1 (bi_k1 bi_e1 rfl rfl) rfl rfl) rfl rfl) (bi_k1 (bi_k1 bi_e1 rfl rfl) rfl rfl) bi_e1 hh
def fX9_leastLength_88 (n : Nat) (r35 : ai_H → Nat → Nat → Int32 → Int32 → Int32 → Int32 → Option (Int32 × ai_H)) (r53 : ai_H → Nat → Nat → Int32 → Int32 → Int32 → Int32 → Int32 → Option (Int32 × ai_H)) (h : ai_H) (v0 : Nat) (v1 : Nat) (v4 : Int32) (v5 : Int32) (v6 : Int32) (v7 : Int32) (v8 : Int32) : Option (Int32 × ai_H) :=
  r53 h v0 v1 v4 v5 v6 v7 (v8 + 1)
theorem sX9_leastLength_88 {n : Nat} {r35 : ai_H → Nat → Nat → Int32 → Int32 → Int32 → Int32 → Option (Int32 × ai_H)} {r53 : ai_H → Nat → Nat → Int32 → Int32 → Int32 → Int32 → Int32 → Option (Int32 × ai_H)} {q : Int32 × ai_H} {h : ai_H} {v0 : Nat} {v1 : Nat} {v4 : Int32} {v5 : Int32} {v6 : Int32} {v7 : Int32} {v8 : Int32} {lv : ai_L} (R35 : ∀ (h : ai_H) (v0 : Nat) (v1 : Nat) (v4 : Int32) (v5 : Int32) (v6 : Int32) (v7 : Int32) (lv : ai_L), ai_ld 0 lv = some (.ref v0) → ai_ld 1 lv = some (.ref v1) → ai_ld 4 lv = some (.int v4) → ai_ld 5 lv = some (.int v5) → ai_ld 6 lv = some (.int v6) → ai_ld 7 lv = some (.int v7) → r35 h v0 v1 v4 v5 v6 v7 = some q → bi_go 2 tX9_leastLength n (fI n q) 35 lv [] h) (R53 : ∀ (h : ai_H) (v0 : Nat) (v1 : Nat) (v4 : Int32) (v5 : Int32) (v6 : Int32) (v7 : Int32) (v8 : Int32) (lv : ai_L), ai_ld 0 lv = some (.ref v0) → ai_ld 1 lv = some (.ref v1) → ai_ld 4 lv = some (.int v4) → ai_ld 5 lv = some (.int v5) → ai_ld 6 lv = some (.int v6) → ai_ld 7 lv = some (.int v7) → ai_ld 8 lv = some (.int v8) → r53 h v0 v1 v4 v5 v6 v7 v8 = some q → bi_go 2 tX9_leastLength n (fI n q) 53 lv [] h) (l0 : ai_ld 0 lv = some (.ref v0)) (l1 : ai_ld 1 lv = some (.ref v1)) (l4 : ai_ld 4 lv = some (.int v4)) (l5 : ai_ld 5 lv = some (.int v5)) (l6 : ai_ld 6 lv = some (.int v6)) (l7 : ai_ld 7 lv = some (.int v7)) (l8 : ai_ld 8 lv = some (.int v8)) (hh : fX9_leastLength_88 n r35 r53 h v0 v1 v4 v5 v6 v7 v8 = some q) : bi_go 2 tX9_leastLength n (fI n q) 88 lv [] h := by
  unfold fX9_leastLength_88 at hh
  refine go_inc (pc := 88) rfl l8 ?_
  refine go_goto (pc := 91) rfl ?_
  exact R53 _ _ _ _ _ _ _ _ _ (bi_k1 l0 rfl rfl) (bi_k1 l1 rfl rfl) (bi_k1 l4 rfl rfl) (bi_k1 l5 rfl rfl) (bi_k1 l6 rfl rfl) (bi_k1 l7 rfl rfl) bi_e1 hh
def fX9_leastLength_53b (n : Nat) (r35 : ai_H → Nat → Nat → Int32 → Int32 → Int32 → Int32 → Option (Int32 × ai_H)) (r53 : ai_H → Nat → Nat → Int32 → Int32 → Int32 → Int32 → Int32 → Option (Int32 × ai_H)) (h : ai_H) (v0 : Nat) (v1 : Nat) (v4 : Int32) (v5 : Int32) (v6 : Int32) (v7 : Int32) (v8 : Int32) : Option (Int32 × ai_H) :=
  (pR n h v1 8 1).bind fun x1 =>
  (pI n h x1 6 4).bind fun x2 =>
  if x2 ≤ v8 then (
    r35 h v0 v1 v4 v5 v6 (v7 + 1))
  else (
    if ((v5 >>> (v8 &&& 31)) &&& (1 : Int32)) = 0 then (
      fX9_leastLength_88 n r35 r53 h v0 v1 v4 v5 v6 v7 v8)
    else (
      (fX9_shorten n h v0 v1 v8).bind fun q3 =>
      if q3.1 = 0 then (
        fX9_leastLength_88 n r35 r53 q3.2 v0 v1 v4 v5 v6 v7 v8)
      else (
        fX9_leastLength_88 n r35 r53 q3.2 v0 v1 v4 v5 (1 : Int32) v7 v8)))
theorem sX9_leastLength_53b {n : Nat} {r35 : ai_H → Nat → Nat → Int32 → Int32 → Int32 → Int32 → Option (Int32 × ai_H)} {r53 : ai_H → Nat → Nat → Int32 → Int32 → Int32 → Int32 → Int32 → Option (Int32 × ai_H)} {q : Int32 × ai_H} {h : ai_H} {v0 : Nat} {v1 : Nat} {v4 : Int32} {v5 : Int32} {v6 : Int32} {v7 : Int32} {v8 : Int32} {lv : ai_L} (R35 : ∀ (h : ai_H) (v0 : Nat) (v1 : Nat) (v4 : Int32) (v5 : Int32) (v6 : Int32) (v7 : Int32) (lv : ai_L), ai_ld 0 lv = some (.ref v0) → ai_ld 1 lv = some (.ref v1) → ai_ld 4 lv = some (.int v4) → ai_ld 5 lv = some (.int v5) → ai_ld 6 lv = some (.int v6) → ai_ld 7 lv = some (.int v7) → r35 h v0 v1 v4 v5 v6 v7 = some q → bi_go 2 tX9_leastLength n (fI n q) 35 lv [] h) (R53 : ∀ (h : ai_H) (v0 : Nat) (v1 : Nat) (v4 : Int32) (v5 : Int32) (v6 : Int32) (v7 : Int32) (v8 : Int32) (lv : ai_L), ai_ld 0 lv = some (.ref v0) → ai_ld 1 lv = some (.ref v1) → ai_ld 4 lv = some (.int v4) → ai_ld 5 lv = some (.int v5) → ai_ld 6 lv = some (.int v6) → ai_ld 7 lv = some (.int v7) → ai_ld 8 lv = some (.int v8) → r53 h v0 v1 v4 v5 v6 v7 v8 = some q → bi_go 2 tX9_leastLength n (fI n q) 53 lv [] h) (l0 : ai_ld 0 lv = some (.ref v0)) (l1 : ai_ld 1 lv = some (.ref v1)) (l4 : ai_ld 4 lv = some (.int v4)) (l5 : ai_ld 5 lv = some (.int v5)) (l6 : ai_ld 6 lv = some (.int v6)) (l7 : ai_ld 7 lv = some (.int v7)) (l8 : ai_ld 8 lv = some (.int v8)) (hh : fX9_leastLength_53b n r35 r53 h v0 v1 v4 v5 v6 v7 v8 = some q) : bi_go 2 tX9_leastLength n (fI n q) 53 lv [] h := by
  unfold fX9_leastLength_53b at hh
  refine go_il (pc := 53) rfl l8 ?_
  refine go_al (pc := 55) rfl l1 ?_
  obtain ⟨x1, ex1, hh⟩ := bi_bd hh
  refine go_gfR (pc := 56) rfl ex1 ?_
  obtain ⟨x2, ex2, hh⟩ := bi_bd hh
  refine go_gfI (pc := 59) rfl ex2 ?_
  refine bi_ite hh (fun hc hh => ?_) (fun hc hh => ?_)
  · refine go_cmpgeT (pc := 62) rfl hc ?_
    refine go_inc (pc := 94) rfl l7 ?_
    refine go_goto (pc := 97) rfl ?_
    exact R35 _ _ _ _ _ _ _ _ (bi_k1 l0 rfl rfl) (bi_k1 l1 rfl rfl) (bi_k1 l4 rfl rfl) (bi_k1 l5 rfl rfl) (bi_k1 l6 rfl rfl) bi_e1 hh
  · refine go_cmpgeF (pc := 62) rfl hc ?_
    refine go_il (pc := 65) rfl l5 ?_
    refine go_il (pc := 67) rfl l8 ?_
    refine go_ishr (pc := 69) rfl ?_
    refine go_pi (pc := 70) rfl ?_
    refine go_iand (pc := 71) rfl ?_
    refine bi_ite hh (fun hc hh => ?_) (fun hc hh => ?_)
    · refine go_ifeqT (pc := 72) rfl hc ?_
      exact sX9_leastLength_88 R35 R53 l0 l1 l4 l5 l6 l7 l8 hh
    · refine go_ifeqF (pc := 72) rfl hc ?_
      refine go_al (pc := 75) rfl l0 ?_
      refine go_al (pc := 76) rfl l1 ?_
      refine go_il (pc := 77) rfl l8 ?_
      obtain ⟨q3, eq3, hh⟩ := bi_bd hh
      refine go_ivI (pc := 79) rfl rfl (gX9_shorten eq3) (Nat.le_of_ble_eq_true rfl) (bi_up (sX9_shorten eq3) (Nat.le_of_ble_eq_true rfl)) ?_
      refine bi_ite hh (fun hc hh => ?_) (fun hc hh => ?_)
      · refine go_ifeqT (pc := 82) rfl hc ?_
        exact sX9_leastLength_88 R35 R53 l0 l1 l4 l5 l6 l7 l8 hh
      · refine go_ifeqF (pc := 82) rfl hc ?_
        refine go_pi (pc := 85) rfl ?_
        refine go_is (pc := 86) rfl ?_
        exact sX9_leastLength_88 R35 R53 (bi_k1 l0 rfl rfl) (bi_k1 l1 rfl rfl) (bi_k1 l4 rfl rfl) (bi_k1 l5 rfl rfl) bi_e1 (bi_k1 l7 rfl rfl) (bi_k1 l8 rfl rfl) hh
def fX9_leastLength_53 (n : Nat) (r35 : ai_H → Nat → Nat → Int32 → Int32 → Int32 → Int32 → Option (Int32 × ai_H)) : Nat → ai_H → Nat → Nat → Int32 → Int32 → Int32 → Int32 → Int32 → Option (Int32 × ai_H)
  | 0 => fun _ _ _ _ _ _ _ _ => none
  | k + 1 => fun h v0 v1 v4 v5 v6 v7 v8 => fX9_leastLength_53b n r35 (fX9_leastLength_53 n r35 k) h v0 v1 v4 v5 v6 v7 v8
theorem sX9_leastLength_53 {n : Nat} {r35 : ai_H → Nat → Nat → Int32 → Int32 → Int32 → Int32 → Option (Int32 × ai_H)} {q : Int32 × ai_H} (R35 : ∀ (h : ai_H) (v0 : Nat) (v1 : Nat) (v4 : Int32) (v5 : Int32) (v6 : Int32) (v7 : Int32) (lv : ai_L), ai_ld 0 lv = some (.ref v0) → ai_ld 1 lv = some (.ref v1) → ai_ld 4 lv = some (.int v4) → ai_ld 5 lv = some (.int v5) → ai_ld 6 lv = some (.int v6) → ai_ld 7 lv = some (.int v7) → r35 h v0 v1 v4 v5 v6 v7 = some q → bi_go 2 tX9_leastLength n (fI n q) 35 lv [] h) : ∀ (k : Nat) (h : ai_H) (v0 : Nat) (v1 : Nat) (v4 : Int32) (v5 : Int32) (v6 : Int32) (v7 : Int32) (v8 : Int32) (lv : ai_L), ai_ld 0 lv = some (.ref v0) → ai_ld 1 lv = some (.ref v1) → ai_ld 4 lv = some (.int v4) → ai_ld 5 lv = some (.int v5) → ai_ld 6 lv = some (.int v6) → ai_ld 7 lv = some (.int v7) → ai_ld 8 lv = some (.int v8) → fX9_leastLength_53 n r35 k h v0 v1 v4 v5 v6 v7 v8 = some q → bi_go 2 tX9_leastLength n (fI n q) 53 lv [] h
  | 0 => fun _ _ _ _ _ _ _ _ _ _ _ _ _ _ _ _ hh => by cases hh
  | k + 1 => fun h v0 v1 v4 v5 v6 v7 v8 lv l0 l1 l4 l5 l6 l7 l8 hh => sX9_leastLength_53b R35 (sX9_leastLength_53 R35 k) l0 l1 l4 l5 l6 l7 l8 hh
def fX9_leastLength_100 (n : Nat) (h : ai_H) (v0 : Nat) (v4 : Int32) : Option (Int32 × ai_H) :=
  (pR n h v0 9 0).bind fun x1 =>
  (gX 1 n h x1 v4).bind fun x2 =>
  if (1000000 : Int32) ≤ x2 then (
    some ((-2 : Int32), h))
  else (
    (pR n h v0 9 0).bind fun x3 =>
    (gX 1 n h x3 v4).bind fun x4 =>
    some (x4, h))
theorem sX9_leastLength_100 {n : Nat} {q : Int32 × ai_H} {h : ai_H} {v0 : Nat} {v4 : Int32} {lv : ai_L} (l0 : ai_ld 0 lv = some (.ref v0)) (l4 : ai_ld 4 lv = some (.int v4)) (hh : fX9_leastLength_100 n h v0 v4 = some q) : bi_go 2 tX9_leastLength n (fI n q) 100 lv [] h := by
  unfold fX9_leastLength_100 at hh
  refine go_al (pc := 100) rfl l0 ?_
  obtain ⟨x1, ex1, hh⟩ := bi_bd hh
  refine go_gfR (pc := 101) rfl ex1 ?_
  refine go_il (pc := 104) rfl l4 ?_
  obtain ⟨x2, ex2, hh⟩ := bi_bd hh
  refine go_iald (pc := 106) rfl ex2 ?_
  refine go_pi (pc := 107) rfl ?_
  refine bi_ite hh (fun hc hh => ?_) (fun hc hh => ?_)
  · refine go_cmpgeT (pc := 109) rfl hc ?_
    refine go_pi (pc := 122) rfl ?_
    exact go_ri (pc := 124) rfl hh
  · refine go_cmpgeF (pc := 109) rfl hc ?_
    refine go_al (pc := 112) rfl l0 ?_
    obtain ⟨x3, ex3, hh⟩ := bi_bd hh
    refine go_gfR (pc := 113) rfl ex3 ?_
    refine go_il (pc := 116) rfl l4 ?_
    obtain ⟨x4, ex4, hh⟩ := bi_bd hh
    refine go_iald (pc := 118) rfl ex4 ?_
    refine go_goto (pc := 119) rfl ?_
    exact go_ri (pc := 124) rfl hh
def fX9_leastLength_35b (n : Nat) (r35 : ai_H → Nat → Nat → Int32 → Int32 → Int32 → Int32 → Option (Int32 × ai_H)) (h : ai_H) (v0 : Nat) (v1 : Nat) (v4 : Int32) (v5 : Int32) (v6 : Int32) (v7 : Int32) : Option (Int32 × ai_H) :=
  if (7 : Int32) ≤ v7 then (
    fX9_leastLength_100 n h v0 v4)
  else (
    if v6 = 0 then (
      fX9_leastLength_100 n h v0 v4)
    else (
      fX9_leastLength_53 n r35 bi_K h v0 v1 v4 v5 (0 : Int32) v7 (0 : Int32)))
theorem sX9_leastLength_35b {n : Nat} {r35 : ai_H → Nat → Nat → Int32 → Int32 → Int32 → Int32 → Option (Int32 × ai_H)} {q : Int32 × ai_H} {h : ai_H} {v0 : Nat} {v1 : Nat} {v4 : Int32} {v5 : Int32} {v6 : Int32} {v7 : Int32} {lv : ai_L} (R35 : ∀ (h : ai_H) (v0 : Nat) (v1 : Nat) (v4 : Int32) (v5 : Int32) (v6 : Int32) (v7 : Int32) (lv : ai_L), ai_ld 0 lv = some (.ref v0) → ai_ld 1 lv = some (.ref v1) → ai_ld 4 lv = some (.int v4) → ai_ld 5 lv = some (.int v5) → ai_ld 6 lv = some (.int v6) → ai_ld 7 lv = some (.int v7) → r35 h v0 v1 v4 v5 v6 v7 = some q → bi_go 2 tX9_leastLength n (fI n q) 35 lv [] h) (l0 : ai_ld 0 lv = some (.ref v0)) (l1 : ai_ld 1 lv = some (.ref v1)) (l4 : ai_ld 4 lv = some (.int v4)) (l5 : ai_ld 5 lv = some (.int v5)) (l6 : ai_ld 6 lv = some (.int v6)) (l7 : ai_ld 7 lv = some (.int v7)) (hh : fX9_leastLength_35b n r35 h v0 v1 v4 v5 v6 v7 = some q) : bi_go 2 tX9_leastLength n (fI n q) 35 lv [] h := by
  unfold fX9_leastLength_35b at hh
  refine go_il (pc := 35) rfl l7 ?_
  refine go_pi (pc := 37) rfl ?_
  refine bi_ite hh (fun hc hh => ?_) (fun hc hh => ?_)
  · refine go_cmpgeT (pc := 39) rfl hc ?_
    exact sX9_leastLength_100  l0 l4 hh
  · refine go_cmpgeF (pc := 39) rfl hc ?_
    refine go_il (pc := 42) rfl l6 ?_
    refine bi_ite hh (fun hc hh => ?_) (fun hc hh => ?_)
    · refine go_ifeqT (pc := 44) rfl hc ?_
      exact sX9_leastLength_100  l0 l4 hh
    · refine go_ifeqF (pc := 44) rfl hc ?_
      refine go_pi (pc := 47) rfl ?_
      refine go_is (pc := 48) rfl ?_
      refine go_pi (pc := 50) rfl ?_
      refine go_is (pc := 51) rfl ?_
      exact sX9_leastLength_53 R35 _ _ _ _ _ _ _ _ _ _ (bi_k1 (bi_k1 l0 rfl rfl) rfl rfl) (bi_k1 (bi_k1 l1 rfl rfl) rfl rfl) (bi_k1 (bi_k1 l4 rfl rfl) rfl rfl) (bi_k1 (bi_k1 l5 rfl rfl) rfl rfl) (bi_k1 bi_e1 rfl rfl) (bi_k1 (bi_k1 l7 rfl rfl) rfl rfl) bi_e1 hh
def fX9_leastLength_35 (n : Nat) : Nat → ai_H → Nat → Nat → Int32 → Int32 → Int32 → Int32 → Option (Int32 × ai_H)
  | 0 => fun _ _ _ _ _ _ _ => none
  | k + 1 => fun h v0 v1 v4 v5 v6 v7 => fX9_leastLength_35b n (fX9_leastLength_35 n k) h v0 v1 v4 v5 v6 v7
theorem sX9_leastLength_35 {n : Nat} {q : Int32 × ai_H} : ∀ (k : Nat) (h : ai_H) (v0 : Nat) (v1 : Nat) (v4 : Int32) (v5 : Int32) (v6 : Int32) (v7 : Int32) (lv : ai_L), ai_ld 0 lv = some (.ref v0) → ai_ld 1 lv = some (.ref v1) → ai_ld 4 lv = some (.int v4) → ai_ld 5 lv = some (.int v5) → ai_ld 6 lv = some (.int v6) → ai_ld 7 lv = some (.int v7) → fX9_leastLength_35 n k h v0 v1 v4 v5 v6 v7 = some q → bi_go 2 tX9_leastLength n (fI n q) 35 lv [] h
  | 0 => fun _ _ _ _ _ _ _ _ _ _ _ _ _ _ hh => by cases hh
  | k + 1 => fun h v0 v1 v4 v5 v6 v7 lv l0 l1 l4 l5 l6 l7 hh => sX9_leastLength_35b  (sX9_leastLength_35  k) l0 l1 l4 l5 l6 l7 hh
def fX9_leastLength (n : Nat) (h : ai_H) (a0 : Nat) (a1 : Nat) (a2 : Nat) (a3 : Int32) (a4 : Int32) : Option (Int32 × ai_H) :=
  (kO n h a0 9).bind fun _ =>
  (fX9_openFor n h a1 a2 a3).bind fun q1 =>
  (pR n q1.2 a0 9 0).bind fun x2 =>
  (fJ7_fill_53178 n q1.2 x2 (1000000 : Int32)).bind fun q3 =>
  (pR n q3.2 a0 9 0).bind fun x4 =>
  (pR n q3.2 a2 5 7).bind fun x5 =>
  (gX 1 n q3.2 x5 a3).bind fun x6 =>
  (wX 1 (fun x => x) n q3.2 x4 x6 (0 : Int32)).bind fun h7 =>
  fX9_leastLength_35 n bi_K h7 a0 a1 a4 q1.1 (1 : Int32) (0 : Int32)
theorem gX9_leastLength {n : Nat} {h : ai_H} {a0 : Nat} {a1 : Nat} {a2 : Nat} {a3 : Int32} {a4 : Int32} {q : Int32 × ai_H} (hh : fX9_leastLength n h a0 a1 a2 a3 a4 = some q) : kO n h a0 9 = some () := by
  obtain ⟨_, e, -⟩ := bi_bd hh
  exact e
theorem sX9_leastLength {n : Nat} {h : ai_H} {a0 : Nat} {a1 : Nat} {a2 : Nat} {a3 : Int32} {a4 : Int32} {q : Int32 × ai_H} (hh : fX9_leastLength n h a0 a1 a2 a3 a4 = some q) : bi_sp 3 81 [.ref a0, .ref a1, .ref a2, .int a3, .int a4] h n (fI n q) := by
  refine bi_en (D := 2) (T := tX9_leastLength) (funext fun pc => rfl) rfl (Nat.le_of_ble_eq_true rfl) ?_
  unfold fX9_leastLength at hh
  obtain ⟨_, eO, hh⟩ := bi_bd hh
  refine go_al (pc := 0) rfl (rfl : ai_ld 1 (lv_args 0 [.ref a0, .ref a1, .ref a2, .int a3, .int a4]) = some (.ref a1)) ?_
  refine go_al (pc := 1) rfl (rfl : ai_ld 2 (lv_args 0 [.ref a0, .ref a1, .ref a2, .int a3, .int a4]) = some (.ref a2)) ?_
  refine go_il (pc := 2) rfl (rfl : ai_ld 3 (lv_args 0 [.ref a0, .ref a1, .ref a2, .int a3, .int a4]) = some (.int a3)) ?_
  obtain ⟨q1, eq1, hh⟩ := bi_bd hh
  refine go_iSI (pc := 3) rfl (Nat.le_of_ble_eq_true rfl) rfl (Nat.le_of_ble_eq_true rfl) (bi_up (sX9_openFor eq1) (Nat.le_of_ble_eq_true rfl)) ?_
  refine go_is (pc := 6) rfl ?_
  refine go_al (pc := 8) rfl (bi_k1 (rfl : ai_ld 0 (lv_args 0 [.ref a0, .ref a1, .ref a2, .int a3, .int a4]) = some (.ref a0)) rfl rfl) ?_
  obtain ⟨x2, ex2, hh⟩ := bi_bd hh
  refine go_gfR (pc := 9) rfl ex2 ?_
  refine go_pi (pc := 12) rfl ?_
  obtain ⟨q3, eq3, hh⟩ := bi_bd hh
  refine go_iSV (pc := 14) rfl (Nat.le_of_ble_eq_true rfl) rfl (Nat.le_of_ble_eq_true rfl) (bi_up (sJ7_fill_53178 eq3) (Nat.le_of_ble_eq_true rfl)) ?_
  refine go_al (pc := 17) rfl (bi_k1 (rfl : ai_ld 0 (lv_args 0 [.ref a0, .ref a1, .ref a2, .int a3, .int a4]) = some (.ref a0)) rfl rfl) ?_
  obtain ⟨x4, ex4, hh⟩ := bi_bd hh
  refine go_gfR (pc := 18) rfl ex4 ?_
  refine go_al (pc := 21) rfl (bi_k1 (rfl : ai_ld 2 (lv_args 0 [.ref a0, .ref a1, .ref a2, .int a3, .int a4]) = some (.ref a2)) rfl rfl) ?_
  obtain ⟨x5, ex5, hh⟩ := bi_bd hh
  refine go_gfR (pc := 22) rfl ex5 ?_
  refine go_il (pc := 25) rfl (bi_k1 (rfl : ai_ld 3 (lv_args 0 [.ref a0, .ref a1, .ref a2, .int a3, .int a4]) = some (.int a3)) rfl rfl) ?_
  obtain ⟨x6, ex6, hh⟩ := bi_bd hh
  refine go_iald (pc := 26) rfl ex6 ?_
  refine go_pi (pc := 27) rfl ?_
  obtain ⟨h7, eh7, hh⟩ := bi_bd hh
  refine go_iast (pc := 28) rfl eh7 ?_
  refine go_pi (pc := 29) rfl ?_
  refine go_is (pc := 30) rfl ?_
  refine go_pi (pc := 32) rfl ?_
  refine go_is (pc := 33) rfl ?_
  exact sX9_leastLength_35  _ _ _ _ _ _ _ _ _ (bi_k1 (bi_k1 (bi_k1 (rfl : ai_ld 0 (lv_args 0 [.ref a0, .ref a1, .ref a2, .int a3, .int a4]) = some (.ref a0)) rfl rfl) rfl rfl) rfl rfl) (bi_k1 (bi_k1 (bi_k1 (rfl : ai_ld 1 (lv_args 0 [.ref a0, .ref a1, .ref a2, .int a3, .int a4]) = some (.ref a1)) rfl rfl) rfl rfl) rfl rfl) (bi_k1 (bi_k1 (bi_k1 (rfl : ai_ld 4 (lv_args 0 [.ref a0, .ref a1, .ref a2, .int a3, .int a4]) = some (.int a4)) rfl rfl) rfl rfl) rfl rfl) (bi_k1 (bi_k1 bi_e1 rfl rfl) rfl rfl) (bi_k1 bi_e1 rfl rfl) bi_e1 hh
def fX9_lessen_69 (n : Nat) (h : ai_H) (v0 : Nat) (v1 : Int32) (v5 : Int32) : Option (Int32 × ai_H) :=
  (pR n h v0 9 1).bind fun x1 =>
  (gX 1 n h x1 v1).bind fun x2 =>
  if v5 < x2 then (
    (pR n h v0 9 1).bind fun x3 =>
    (wX 1 (fun x => x) n h x3 v1 v5).bind fun h4 =>
    some ((1 : Int32), h4))
  else (
    some ((0 : Int32), h))
theorem sX9_lessen_69 {n : Nat} {q : Int32 × ai_H} {h : ai_H} {v0 : Nat} {v1 : Int32} {v5 : Int32} {lv : ai_L} (l0 : ai_ld 0 lv = some (.ref v0)) (l1 : ai_ld 1 lv = some (.int v1)) (l5 : ai_ld 5 lv = some (.int v5)) (hh : fX9_lessen_69 n h v0 v1 v5 = some q) : bi_go 0 tX9_lessen n (fI n q) 69 lv [] h := by
  unfold fX9_lessen_69 at hh
  refine go_il (pc := 69) rfl l5 ?_
  refine go_al (pc := 71) rfl l0 ?_
  obtain ⟨x1, ex1, hh⟩ := bi_bd hh
  refine go_gfR (pc := 72) rfl ex1 ?_
  refine go_il (pc := 75) rfl l1 ?_
  obtain ⟨x2, ex2, hh⟩ := bi_bd hh
  refine go_iald (pc := 76) rfl ex2 ?_
  refine bi_ite hh (fun hc hh => ?_) (fun hc hh => ?_)
  · refine go_cmpltT (pc := 77) rfl hc ?_
    refine go_al (pc := 82) rfl l0 ?_
    obtain ⟨x3, ex3, hh⟩ := bi_bd hh
    refine go_gfR (pc := 83) rfl ex3 ?_
    refine go_il (pc := 86) rfl l1 ?_
    refine go_il (pc := 87) rfl l5 ?_
    obtain ⟨h4, eh4, hh⟩ := bi_bd hh
    refine go_iast (pc := 89) rfl eh4 ?_
    refine go_pi (pc := 90) rfl ?_
    exact go_rz (pc := 91) rfl bi_z1 hh
  · refine go_cmpltF (pc := 77) rfl hc ?_
    refine go_pi (pc := 80) rfl ?_
    exact go_rz (pc := 81) rfl bi_z0 hh
def fX9_lessen_34 (n : Nat) (h : ai_H) (v0 : Nat) (v1 : Int32) (v2 : Int32) (v3 : Int32) (v4 : Int32) (v5 : Int32) : Option (Int32 × ai_H) :=
  if v4 ≤ 0 then (
    fX9_lessen_69 n h v0 v1 v5)
  else (
    if (1000000 : Int32) ≤ v2 then (
      fX9_lessen_69 n h v0 v1 v5)
    else (
      if ((v2 &&& (127 : Int32)) + v3) ≤ v4 then (
        fX9_lessen_69 n h v0 v1 v5)
      else (
        fX9_lessen_69 n h v0 v1 ((((v2 >>> ((7 : Int32) &&& 31)) + (1 : Int32)) <<< ((7 : Int32) &&& 31)) ||| v3))))
theorem sX9_lessen_34 {n : Nat} {q : Int32 × ai_H} {h : ai_H} {v0 : Nat} {v1 : Int32} {v2 : Int32} {v3 : Int32} {v4 : Int32} {v5 : Int32} {lv : ai_L} (l0 : ai_ld 0 lv = some (.ref v0)) (l1 : ai_ld 1 lv = some (.int v1)) (l2 : ai_ld 2 lv = some (.int v2)) (l3 : ai_ld 3 lv = some (.int v3)) (l4 : ai_ld 4 lv = some (.int v4)) (l5 : ai_ld 5 lv = some (.int v5)) (hh : fX9_lessen_34 n h v0 v1 v2 v3 v4 v5 = some q) : bi_go 0 tX9_lessen n (fI n q) 34 lv [] h := by
  unfold fX9_lessen_34 at hh
  refine go_il (pc := 34) rfl l4 ?_
  refine bi_ite hh (fun hc hh => ?_) (fun hc hh => ?_)
  · refine go_ifleT (pc := 36) rfl hc ?_
    exact sX9_lessen_69  l0 l1 l5 hh
  · refine go_ifleF (pc := 36) rfl hc ?_
    refine go_il (pc := 39) rfl l2 ?_
    refine go_pi (pc := 40) rfl ?_
    refine bi_ite hh (fun hc hh => ?_) (fun hc hh => ?_)
    · refine go_cmpgeT (pc := 42) rfl hc ?_
      exact sX9_lessen_69  l0 l1 l5 hh
    · refine go_cmpgeF (pc := 42) rfl hc ?_
      refine go_il (pc := 45) rfl l2 ?_
      refine go_pi (pc := 46) rfl ?_
      refine go_iand (pc := 48) rfl ?_
      refine go_il (pc := 49) rfl l3 ?_
      refine go_iadd (pc := 50) rfl ?_
      refine go_il (pc := 51) rfl l4 ?_
      refine bi_ite hh (fun hc hh => ?_) (fun hc hh => ?_)
      · refine go_cmpleT (pc := 53) rfl hc ?_
        exact sX9_lessen_69  l0 l1 l5 hh
      · refine go_cmpleF (pc := 53) rfl hc ?_
        refine go_il (pc := 56) rfl l2 ?_
        refine go_pi (pc := 57) rfl ?_
        refine go_ishr (pc := 59) rfl ?_
        refine go_pi (pc := 60) rfl ?_
        refine go_iadd (pc := 61) rfl ?_
        refine go_pi (pc := 62) rfl ?_
        refine go_ishl (pc := 64) rfl ?_
        refine go_il (pc := 65) rfl l3 ?_
        refine go_ior (pc := 66) rfl ?_
        refine go_is (pc := 67) rfl ?_
        exact sX9_lessen_69  (bi_k1 l0 rfl rfl) (bi_k1 l1 rfl rfl) bi_e1 hh
def fX9_lessen_14 (n : Nat) (h : ai_H) (v0 : Nat) (v1 : Int32) (v2 : Int32) (v3 : Int32) (v4 : Int32) (s0 : Int32) : Option (Int32 × ai_H) :=
  if v4 ≤ 0 then (
    fX9_lessen_34 n h v0 v1 v2 v3 v4 s0)
  else (
    if v3 ≤ v4 then (
      fX9_lessen_34 n h v0 v1 v2 v3 v4 s0)
    else (
      fX9_lessen_69 n h v0 v1 (1000000 : Int32)))
theorem sX9_lessen_14 {n : Nat} {q : Int32 × ai_H} {h : ai_H} {v0 : Nat} {v1 : Int32} {v2 : Int32} {v3 : Int32} {v4 : Int32} {s0 : Int32} {lv : ai_L} (l0 : ai_ld 0 lv = some (.ref v0)) (l1 : ai_ld 1 lv = some (.int v1)) (l2 : ai_ld 2 lv = some (.int v2)) (l3 : ai_ld 3 lv = some (.int v3)) (l4 : ai_ld 4 lv = some (.int v4)) (hh : fX9_lessen_14 n h v0 v1 v2 v3 v4 s0 = some q) : bi_go 0 tX9_lessen n (fI n q) 14 lv [.int s0] h := by
  unfold fX9_lessen_14 at hh
  refine go_is (pc := 14) rfl ?_
  refine go_il (pc := 16) rfl (bi_k1 l4 rfl rfl) ?_
  refine bi_ite hh (fun hc hh => ?_) (fun hc hh => ?_)
  · refine go_ifleT (pc := 18) rfl hc ?_
    exact sX9_lessen_34  (bi_k1 l0 rfl rfl) (bi_k1 l1 rfl rfl) (bi_k1 l2 rfl rfl) (bi_k1 l3 rfl rfl) (bi_k1 l4 rfl rfl) bi_e1 hh
  · refine go_ifleF (pc := 18) rfl hc ?_
    refine go_il (pc := 21) rfl (bi_k1 l3 rfl rfl) ?_
    refine go_il (pc := 22) rfl (bi_k1 l4 rfl rfl) ?_
    refine bi_ite hh (fun hc hh => ?_) (fun hc hh => ?_)
    · refine go_cmpleT (pc := 24) rfl hc ?_
      exact sX9_lessen_34  (bi_k1 l0 rfl rfl) (bi_k1 l1 rfl rfl) (bi_k1 l2 rfl rfl) (bi_k1 l3 rfl rfl) (bi_k1 l4 rfl rfl) bi_e1 hh
    · refine go_cmpleF (pc := 24) rfl hc ?_
      refine go_pi (pc := 27) rfl ?_
      refine go_is (pc := 29) rfl ?_
      refine go_goto (pc := 31) rfl ?_
      exact sX9_lessen_69  (bi_k1 (bi_k1 l0 rfl rfl) rfl rfl) (bi_k1 (bi_k1 l1 rfl rfl) rfl rfl) bi_e1 hh
def fX9_lessen (n : Nat) (h : ai_H) (a0 : Nat) (a1 : Int32) (a2 : Int32) (a3 : Int32) (a4 : Int32) : Option (Int32 × ai_H) :=
  (kO n h a0 9).bind fun _ =>
  if a2 < (1000000 : Int32) then (
    fX9_lessen_14 n h a0 a1 a2 a3 a4 (a2 + a3))
  else (
    fX9_lessen_14 n h a0 a1 a2 a3 a4 (1000000 : Int32))
theorem gX9_lessen {n : Nat} {h : ai_H} {a0 : Nat} {a1 : Int32} {a2 : Int32} {a3 : Int32} {a4 : Int32} {q : Int32 × ai_H} (hh : fX9_lessen n h a0 a1 a2 a3 a4 = some q) : kO n h a0 9 = some () := by
  obtain ⟨_, e, -⟩ := bi_bd hh
  exact e
theorem sX9_lessen {n : Nat} {h : ai_H} {a0 : Nat} {a1 : Int32} {a2 : Int32} {a3 : Int32} {a4 : Int32} {q : Int32 × ai_H} (hh : fX9_lessen n h a0 a1 a2 a3 a4 = some q) : bi_sp 1 85 [.ref a0, .int a1, .int a2, .int a3, .int a4] h n (fI n q) := by
  refine bi_en (D := 0) (T := tX9_lessen) (funext fun pc => rfl) rfl (Nat.le_of_ble_eq_true rfl) ?_
  unfold fX9_lessen at hh
  obtain ⟨_, eO, hh⟩ := bi_bd hh
  refine go_il (pc := 0) rfl (rfl : ai_ld 2 (lv_args 0 [.ref a0, .int a1, .int a2, .int a3, .int a4]) = some (.int a2)) ?_
  refine go_pi (pc := 1) rfl ?_
  refine bi_ite hh (fun hc hh => ?_) (fun hc hh => ?_)
  · refine go_cmpltT (pc := 3) rfl hc ?_
    refine go_il (pc := 11) rfl (rfl : ai_ld 2 (lv_args 0 [.ref a0, .int a1, .int a2, .int a3, .int a4]) = some (.int a2)) ?_
    refine go_il (pc := 12) rfl (rfl : ai_ld 3 (lv_args 0 [.ref a0, .int a1, .int a2, .int a3, .int a4]) = some (.int a3)) ?_
    refine go_iadd (pc := 13) rfl ?_
    exact sX9_lessen_14  (rfl : ai_ld 0 (lv_args 0 [.ref a0, .int a1, .int a2, .int a3, .int a4]) = some (.ref a0)) (rfl : ai_ld 1 (lv_args 0 [.ref a0, .int a1, .int a2, .int a3, .int a4]) = some (.int a1)) (rfl : ai_ld 2 (lv_args 0 [.ref a0, .int a1, .int a2, .int a3, .int a4]) = some (.int a2)) (rfl : ai_ld 3 (lv_args 0 [.ref a0, .int a1, .int a2, .int a3, .int a4]) = some (.int a3)) (rfl : ai_ld 4 (lv_args 0 [.ref a0, .int a1, .int a2, .int a3, .int a4]) = some (.int a4)) hh
  · refine go_cmpltF (pc := 3) rfl hc ?_
    refine go_pi (pc := 6) rfl ?_
    refine go_goto (pc := 8) rfl ?_
    exact sX9_lessen_14  (rfl : ai_ld 0 (lv_args 0 [.ref a0, .int a1, .int a2, .int a3, .int a4]) = some (.ref a0)) (rfl : ai_ld 1 (lv_args 0 [.ref a0, .int a1, .int a2, .int a3, .int a4]) = some (.int a1)) (rfl : ai_ld 2 (lv_args 0 [.ref a0, .int a1, .int a2, .int a3, .int a4]) = some (.int a2)) (rfl : ai_ld 3 (lv_args 0 [.ref a0, .int a1, .int a2, .int a3, .int a4]) = some (.int a3)) (rfl : ai_ld 4 (lv_args 0 [.ref a0, .int a1, .int a2, .int a3, .int a4]) = some (.int a4)) hh
def fX9_goOn_186 (n : Nat) (r6 : ai_H → Nat → Nat → Int32 → Int32 → Int32 → Int32 → Int32 → Int32 → Option (Unit × ai_H)) (r24 : ai_H → Nat → Nat → Int32 → Int32 → Int32 → Int32 → Int32 → Int32 → Int32 → Option (Unit × ai_H)) (h : ai_H) (v0 : Nat) (v1 : Nat) (v2 : Int32) (v3 : Int32) (v4 : Int32) (v5 : Int32) (v6 : Int32) (v7 : Int32) (v8 : Int32) : Option (Unit × ai_H) :=
  r24 h v0 v1 v2 v3 v4 v5 v6 v7 (v8 + 1)
theorem sX9_goOn_186 {n : Nat} {r6 : ai_H → Nat → Nat → Int32 → Int32 → Int32 → Int32 → Int32 → Int32 → Option (Unit × ai_H)} {r24 : ai_H → Nat → Nat → Int32 → Int32 → Int32 → Int32 → Int32 → Int32 → Int32 → Option (Unit × ai_H)} {q : Unit × ai_H} {h : ai_H} {v0 : Nat} {v1 : Nat} {v2 : Int32} {v3 : Int32} {v4 : Int32} {v5 : Int32} {v6 : Int32} {v7 : Int32} {v8 : Int32} {lv : ai_L} (R6 : ∀ (h : ai_H) (v0 : Nat) (v1 : Nat) (v2 : Int32) (v3 : Int32) (v4 : Int32) (v5 : Int32) (v6 : Int32) (v7 : Int32) (lv : ai_L), ai_ld 0 lv = some (.ref v0) → ai_ld 1 lv = some (.ref v1) → ai_ld 2 lv = some (.int v2) → ai_ld 3 lv = some (.int v3) → ai_ld 4 lv = some (.int v4) → ai_ld 5 lv = some (.int v5) → ai_ld 6 lv = some (.int v6) → ai_ld 7 lv = some (.int v7) → r6 h v0 v1 v2 v3 v4 v5 v6 v7 = some q → bi_go 1 tX9_goOn n (fV n q) 6 lv [] h) (R24 : ∀ (h : ai_H) (v0 : Nat) (v1 : Nat) (v2 : Int32) (v3 : Int32) (v4 : Int32) (v5 : Int32) (v6 : Int32) (v7 : Int32) (v8 : Int32) (lv : ai_L), ai_ld 0 lv = some (.ref v0) → ai_ld 1 lv = some (.ref v1) → ai_ld 2 lv = some (.int v2) → ai_ld 3 lv = some (.int v3) → ai_ld 4 lv = some (.int v4) → ai_ld 5 lv = some (.int v5) → ai_ld 6 lv = some (.int v6) → ai_ld 7 lv = some (.int v7) → ai_ld 8 lv = some (.int v8) → r24 h v0 v1 v2 v3 v4 v5 v6 v7 v8 = some q → bi_go 1 tX9_goOn n (fV n q) 24 lv [] h) (l0 : ai_ld 0 lv = some (.ref v0)) (l1 : ai_ld 1 lv = some (.ref v1)) (l2 : ai_ld 2 lv = some (.int v2)) (l3 : ai_ld 3 lv = some (.int v3)) (l4 : ai_ld 4 lv = some (.int v4)) (l5 : ai_ld 5 lv = some (.int v5)) (l6 : ai_ld 6 lv = some (.int v6)) (l7 : ai_ld 7 lv = some (.int v7)) (l8 : ai_ld 8 lv = some (.int v8)) (hh : fX9_goOn_186 n r6 r24 h v0 v1 v2 v3 v4 v5 v6 v7 v8 = some q) : bi_go 1 tX9_goOn n (fV n q) 186 lv [] h := by
  unfold fX9_goOn_186 at hh
  refine go_inc (pc := 186) rfl l8 ?_
  refine go_goto (pc := 189) rfl ?_
  exact R24 _ _ _ _ _ _ _ _ _ _ _ (bi_k1 l0 rfl rfl) (bi_k1 l1 rfl rfl) (bi_k1 l2 rfl rfl) (bi_k1 l3 rfl rfl) (bi_k1 l4 rfl rfl) (bi_k1 l5 rfl rfl) (bi_k1 l6 rfl rfl) (bi_k1 l7 rfl rfl) bi_e1 hh
def fX9_goOn_184 (n : Nat) (r6 : ai_H → Nat → Nat → Int32 → Int32 → Int32 → Int32 → Int32 → Int32 → Option (Unit × ai_H)) (r24 : ai_H → Nat → Nat → Int32 → Int32 → Int32 → Int32 → Int32 → Int32 → Int32 → Option (Unit × ai_H)) (h : ai_H) (v0 : Nat) (v1 : Nat) (v2 : Int32) (v3 : Int32) (v4 : Int32) (v5 : Int32) (v7 : Int32) (v8 : Int32) (s0 : Int32) : Option (Unit × ai_H) :=
  fX9_goOn_186 n r6 r24 h v0 v1 v2 v3 v4 v5 s0 v7 v8
theorem sX9_goOn_184 {n : Nat} {r6 : ai_H → Nat → Nat → Int32 → Int32 → Int32 → Int32 → Int32 → Int32 → Option (Unit × ai_H)} {r24 : ai_H → Nat → Nat → Int32 → Int32 → Int32 → Int32 → Int32 → Int32 → Int32 → Option (Unit × ai_H)} {q : Unit × ai_H} {h : ai_H} {v0 : Nat} {v1 : Nat} {v2 : Int32} {v3 : Int32} {v4 : Int32} {v5 : Int32} {v7 : Int32} {v8 : Int32} {s0 : Int32} {lv : ai_L} (R6 : ∀ (h : ai_H) (v0 : Nat) (v1 : Nat) (v2 : Int32) (v3 : Int32) (v4 : Int32) (v5 : Int32) (v6 : Int32) (v7 : Int32) (lv : ai_L), ai_ld 0 lv = some (.ref v0) → ai_ld 1 lv = some (.ref v1) → ai_ld 2 lv = some (.int v2) → ai_ld 3 lv = some (.int v3) → ai_ld 4 lv = some (.int v4) → ai_ld 5 lv = some (.int v5) → ai_ld 6 lv = some (.int v6) → ai_ld 7 lv = some (.int v7) → r6 h v0 v1 v2 v3 v4 v5 v6 v7 = some q → bi_go 1 tX9_goOn n (fV n q) 6 lv [] h) (R24 : ∀ (h : ai_H) (v0 : Nat) (v1 : Nat) (v2 : Int32) (v3 : Int32) (v4 : Int32) (v5 : Int32) (v6 : Int32) (v7 : Int32) (v8 : Int32) (lv : ai_L), ai_ld 0 lv = some (.ref v0) → ai_ld 1 lv = some (.ref v1) → ai_ld 2 lv = some (.int v2) → ai_ld 3 lv = some (.int v3) → ai_ld 4 lv = some (.int v4) → ai_ld 5 lv = some (.int v5) → ai_ld 6 lv = some (.int v6) → ai_ld 7 lv = some (.int v7) → ai_ld 8 lv = some (.int v8) → r24 h v0 v1 v2 v3 v4 v5 v6 v7 v8 = some q → bi_go 1 tX9_goOn n (fV n q) 24 lv [] h) (l0 : ai_ld 0 lv = some (.ref v0)) (l1 : ai_ld 1 lv = some (.ref v1)) (l2 : ai_ld 2 lv = some (.int v2)) (l3 : ai_ld 3 lv = some (.int v3)) (l4 : ai_ld 4 lv = some (.int v4)) (l5 : ai_ld 5 lv = some (.int v5)) (l7 : ai_ld 7 lv = some (.int v7)) (l8 : ai_ld 8 lv = some (.int v8)) (hh : fX9_goOn_184 n r6 r24 h v0 v1 v2 v3 v4 v5 v7 v8 s0 = some q) : bi_go 1 tX9_goOn n (fV n q) 184 lv [.int s0] h := by
  unfold fX9_goOn_184 at hh
  refine go_is (pc := 184) rfl ?_
  exact sX9_goOn_186 R6 R24 (bi_k1 l0 rfl rfl) (bi_k1 l1 rfl rfl) (bi_k1 l2 rfl rfl) (bi_k1 l3 rfl rfl) (bi_k1 l4 rfl rfl) (bi_k1 l5 rfl rfl) bi_e1 (bi_k1 l7 rfl rfl) (bi_k1 l8 rfl rfl) hh
def fX9_goOn_179 (n : Nat) (r6 : ai_H → Nat → Nat → Int32 → Int32 → Int32 → Int32 → Int32 → Int32 → Option (Unit × ai_H)) (r24 : ai_H → Nat → Nat → Int32 → Int32 → Int32 → Int32 → Int32 → Int32 → Int32 → Option (Unit × ai_H)) (h : ai_H) (v0 : Nat) (v1 : Nat) (v2 : Int32) (v3 : Int32) (v4 : Int32) (v5 : Int32) (v7 : Int32) (v8 : Int32) : Option (Unit × ai_H) :=
  fX9_goOn_184 n r6 r24 h v0 v1 v2 v3 v4 v5 v7 v8 (1 : Int32)
theorem sX9_goOn_179 {n : Nat} {r6 : ai_H → Nat → Nat → Int32 → Int32 → Int32 → Int32 → Int32 → Int32 → Option (Unit × ai_H)} {r24 : ai_H → Nat → Nat → Int32 → Int32 → Int32 → Int32 → Int32 → Int32 → Int32 → Option (Unit × ai_H)} {q : Unit × ai_H} {h : ai_H} {v0 : Nat} {v1 : Nat} {v2 : Int32} {v3 : Int32} {v4 : Int32} {v5 : Int32} {v7 : Int32} {v8 : Int32} {lv : ai_L} (R6 : ∀ (h : ai_H) (v0 : Nat) (v1 : Nat) (v2 : Int32) (v3 : Int32) (v4 : Int32) (v5 : Int32) (v6 : Int32) (v7 : Int32) (lv : ai_L), ai_ld 0 lv = some (.ref v0) → ai_ld 1 lv = some (.ref v1) → ai_ld 2 lv = some (.int v2) → ai_ld 3 lv = some (.int v3) → ai_ld 4 lv = some (.int v4) → ai_ld 5 lv = some (.int v5) → ai_ld 6 lv = some (.int v6) → ai_ld 7 lv = some (.int v7) → r6 h v0 v1 v2 v3 v4 v5 v6 v7 = some q → bi_go 1 tX9_goOn n (fV n q) 6 lv [] h) (R24 : ∀ (h : ai_H) (v0 : Nat) (v1 : Nat) (v2 : Int32) (v3 : Int32) (v4 : Int32) (v5 : Int32) (v6 : Int32) (v7 : Int32) (v8 : Int32) (lv : ai_L), ai_ld 0 lv = some (.ref v0) → ai_ld 1 lv = some (.ref v1) → ai_ld 2 lv = some (.int v2) → ai_ld 3 lv = some (.int v3) → ai_ld 4 lv = some (.int v4) → ai_ld 5 lv = some (.int v5) → ai_ld 6 lv = some (.int v6) → ai_ld 7 lv = some (.int v7) → ai_ld 8 lv = some (.int v8) → r24 h v0 v1 v2 v3 v4 v5 v6 v7 v8 = some q → bi_go 1 tX9_goOn n (fV n q) 24 lv [] h) (l0 : ai_ld 0 lv = some (.ref v0)) (l1 : ai_ld 1 lv = some (.ref v1)) (l2 : ai_ld 2 lv = some (.int v2)) (l3 : ai_ld 3 lv = some (.int v3)) (l4 : ai_ld 4 lv = some (.int v4)) (l5 : ai_ld 5 lv = some (.int v5)) (l7 : ai_ld 7 lv = some (.int v7)) (l8 : ai_ld 8 lv = some (.int v8)) (hh : fX9_goOn_179 n r6 r24 h v0 v1 v2 v3 v4 v5 v7 v8 = some q) : bi_go 1 tX9_goOn n (fV n q) 179 lv [] h := by
  unfold fX9_goOn_179 at hh
  refine go_pi (pc := 179) rfl ?_
  refine go_goto (pc := 180) rfl ?_
  exact sX9_goOn_184 R6 R24 l0 l1 l2 l3 l4 l5 l7 l8 hh
def fX9_goOn_183 (n : Nat) (r6 : ai_H → Nat → Nat → Int32 → Int32 → Int32 → Int32 → Int32 → Int32 → Option (Unit × ai_H)) (r24 : ai_H → Nat → Nat → Int32 → Int32 → Int32 → Int32 → Int32 → Int32 → Int32 → Option (Unit × ai_H)) (h : ai_H) (v0 : Nat) (v1 : Nat) (v2 : Int32) (v3 : Int32) (v4 : Int32) (v5 : Int32) (v7 : Int32) (v8 : Int32) : Option (Unit × ai_H) :=
  fX9_goOn_184 n r6 r24 h v0 v1 v2 v3 v4 v5 v7 v8 (0 : Int32)
theorem sX9_goOn_183 {n : Nat} {r6 : ai_H → Nat → Nat → Int32 → Int32 → Int32 → Int32 → Int32 → Int32 → Option (Unit × ai_H)} {r24 : ai_H → Nat → Nat → Int32 → Int32 → Int32 → Int32 → Int32 → Int32 → Int32 → Option (Unit × ai_H)} {q : Unit × ai_H} {h : ai_H} {v0 : Nat} {v1 : Nat} {v2 : Int32} {v3 : Int32} {v4 : Int32} {v5 : Int32} {v7 : Int32} {v8 : Int32} {lv : ai_L} (R6 : ∀ (h : ai_H) (v0 : Nat) (v1 : Nat) (v2 : Int32) (v3 : Int32) (v4 : Int32) (v5 : Int32) (v6 : Int32) (v7 : Int32) (lv : ai_L), ai_ld 0 lv = some (.ref v0) → ai_ld 1 lv = some (.ref v1) → ai_ld 2 lv = some (.int v2) → ai_ld 3 lv = some (.int v3) → ai_ld 4 lv = some (.int v4) → ai_ld 5 lv = some (.int v5) → ai_ld 6 lv = some (.int v6) → ai_ld 7 lv = some (.int v7) → r6 h v0 v1 v2 v3 v4 v5 v6 v7 = some q → bi_go 1 tX9_goOn n (fV n q) 6 lv [] h) (R24 : ∀ (h : ai_H) (v0 : Nat) (v1 : Nat) (v2 : Int32) (v3 : Int32) (v4 : Int32) (v5 : Int32) (v6 : Int32) (v7 : Int32) (v8 : Int32) (lv : ai_L), ai_ld 0 lv = some (.ref v0) → ai_ld 1 lv = some (.ref v1) → ai_ld 2 lv = some (.int v2) → ai_ld 3 lv = some (.int v3) → ai_ld 4 lv = some (.int v4) → ai_ld 5 lv = some (.int v5) → ai_ld 6 lv = some (.int v6) → ai_ld 7 lv = some (.int v7) → ai_ld 8 lv = some (.int v8) → r24 h v0 v1 v2 v3 v4 v5 v6 v7 v8 = some q → bi_go 1 tX9_goOn n (fV n q) 24 lv [] h) (l0 : ai_ld 0 lv = some (.ref v0)) (l1 : ai_ld 1 lv = some (.ref v1)) (l2 : ai_ld 2 lv = some (.int v2)) (l3 : ai_ld 3 lv = some (.int v3)) (l4 : ai_ld 4 lv = some (.int v4)) (l5 : ai_ld 5 lv = some (.int v5)) (l7 : ai_ld 7 lv = some (.int v7)) (l8 : ai_ld 8 lv = some (.int v8)) (hh : fX9_goOn_183 n r6 r24 h v0 v1 v2 v3 v4 v5 v7 v8 = some q) : bi_go 1 tX9_goOn n (fV n q) 183 lv [] h := by
  unfold fX9_goOn_183 at hh
  refine go_pi (pc := 183) rfl ?_
  exact sX9_goOn_184 R6 R24 l0 l1 l2 l3 l4 l5 l7 l8 hh
def fX9_goOn_24b (n : Nat) (r6 : ai_H → Nat → Nat → Int32 → Int32 → Int32 → Int32 → Int32 → Int32 → Option (Unit × ai_H)) (r24 : ai_H → Nat → Nat → Int32 → Int32 → Int32 → Int32 → Int32 → Int32 → Int32 → Option (Unit × ai_H)) (h : ai_H) (v0 : Nat) (v1 : Nat) (v2 : Int32) (v3 : Int32) (v4 : Int32) (v5 : Int32) (v6 : Int32) (v7 : Int32) (v8 : Int32) : Option (Unit × ai_H) :=
  (pR n h v1 8 1).bind fun x1 =>
  (pI n h x1 6 4).bind fun x2 =>
  if x2 ≤ v8 then (
    r6 h v0 v1 v2 v3 v4 v5 v6 (v7 + 1))
  else (
    if ¬ ((v2 >>> (v8 &&& 31)) &&& (1 : Int32)) = 0 then (
      (pR n h v1 8 1).bind fun x3 =>
      (fX6_cell n h x3 v8 (0 : Int32)).bind fun q4 =>
      (pR n q4.2 v1 8 1).bind fun x5 =>
      (fX6_cell n q4.2 x5 v8 (1 : Int32)).bind fun q6 =>
      (pR n q6.2 v1 8 1).bind fun x7 =>
      (fX6_cell n q6.2 x7 v8 (2 : Int32)).bind fun q8 =>
      (pR n q8.2 v0 9 1).bind fun x9 =>
      (gX 1 n q8.2 x9 ((v4 * (7 : Int32)) + q4.1)).bind fun x10 =>
      (fX9_lessen n q8.2 v0 (((v4 ||| (((1 : Int32) <<< (v8 &&& 31)) &&& v3)) * (7 : Int32)) + q6.1) x10 q8.1 v5).bind fun q11 =>
      (pR n q11.2 v0 9 1).bind fun x12 =>
      (gX 1 n q11.2 x12 ((v4 * (7 : Int32)) + q6.1)).bind fun x13 =>
      (fX9_lessen n q11.2 v0 (((v4 ||| (((1 : Int32) <<< (v8 &&& 31)) &&& v3)) * (7 : Int32)) + q4.1) x13 q8.1 v5).bind fun q14 =>
      if ¬ v6 = 0 then (
        fX9_goOn_179 n r6 r24 q14.2 v0 v1 v2 v3 v4 v5 v7 v8)
      else (
        if ¬ (v4 ||| (((1 : Int32) <<< (v8 &&& 31)) &&& v3)) = v4 then (
          fX9_goOn_183 n r6 r24 q14.2 v0 v1 v2 v3 v4 v5 v7 v8)
        else (
          if ¬ q11.1 = 0 then (
            fX9_goOn_179 n r6 r24 q14.2 v0 v1 v2 v3 v4 v5 v7 v8)
          else (
            if q14.1 = 0 then (
              fX9_goOn_183 n r6 r24 q14.2 v0 v1 v2 v3 v4 v5 v7 v8)
            else (
              fX9_goOn_179 n r6 r24 q14.2 v0 v1 v2 v3 v4 v5 v7 v8)))))
    else (
      fX9_goOn_186 n r6 r24 h v0 v1 v2 v3 v4 v5 v6 v7 v8))
theorem sX9_goOn_24b {n : Nat} {r6 : ai_H → Nat → Nat → Int32 → Int32 → Int32 → Int32 → Int32 → Int32 → Option (Unit × ai_H)} {r24 : ai_H → Nat → Nat → Int32 → Int32 → Int32 → Int32 → Int32 → Int32 → Int32 → Option (Unit × ai_H)} {q : Unit × ai_H} {h : ai_H} {v0 : Nat} {v1 : Nat} {v2 : Int32} {v3 : Int32} {v4 : Int32} {v5 : Int32} {v6 : Int32} {v7 : Int32} {v8 : Int32} {lv : ai_L} (R6 : ∀ (h : ai_H) (v0 : Nat) (v1 : Nat) (v2 : Int32) (v3 : Int32) (v4 : Int32) (v5 : Int32) (v6 : Int32) (v7 : Int32) (lv : ai_L), ai_ld 0 lv = some (.ref v0) → ai_ld 1 lv = some (.ref v1) → ai_ld 2 lv = some (.int v2) → ai_ld 3 lv = some (.int v3) → ai_ld 4 lv = some (.int v4) → ai_ld 5 lv = some (.int v5) → ai_ld 6 lv = some (.int v6) → ai_ld 7 lv = some (.int v7) → r6 h v0 v1 v2 v3 v4 v5 v6 v7 = some q → bi_go 1 tX9_goOn n (fV n q) 6 lv [] h) (R24 : ∀ (h : ai_H) (v0 : Nat) (v1 : Nat) (v2 : Int32) (v3 : Int32) (v4 : Int32) (v5 : Int32) (v6 : Int32) (v7 : Int32) (v8 : Int32) (lv : ai_L), ai_ld 0 lv = some (.ref v0) → ai_ld 1 lv = some (.ref v1) → ai_ld 2 lv = some (.int v2) → ai_ld 3 lv = some (.int v3) → ai_ld 4 lv = some (.int v4) → ai_ld 5 lv = some (.int v5) → ai_ld 6 lv = some (.int v6) → ai_ld 7 lv = some (.int v7) → ai_ld 8 lv = some (.int v8) → r24 h v0 v1 v2 v3 v4 v5 v6 v7 v8 = some q → bi_go 1 tX9_goOn n (fV n q) 24 lv [] h) (l0 : ai_ld 0 lv = some (.ref v0)) (l1 : ai_ld 1 lv = some (.ref v1)) (l2 : ai_ld 2 lv = some (.int v2)) (l3 : ai_ld 3 lv = some (.int v3)) (l4 : ai_ld 4 lv = some (.int v4)) (l5 : ai_ld 5 lv = some (.int v5)) (l6 : ai_ld 6 lv = some (.int v6)) (l7 : ai_ld 7 lv = some (.int v7)) (l8 : ai_ld 8 lv = some (.int v8)) (hh : fX9_goOn_24b n r6 r24 h v0 v1 v2 v3 v4 v5 v6 v7 v8 = some q) : bi_go 1 tX9_goOn n (fV n q) 24 lv [] h := by
  unfold fX9_goOn_24b at hh
  refine go_il (pc := 24) rfl l8 ?_
  refine go_al (pc := 26) rfl l1 ?_
  obtain ⟨x1, ex1, hh⟩ := bi_bd hh
  refine go_gfR (pc := 27) rfl ex1 ?_
  obtain ⟨x2, ex2, hh⟩ := bi_bd hh
  refine go_gfI (pc := 30) rfl ex2 ?_
  refine bi_ite hh (fun hc hh => ?_) (fun hc hh => ?_)
  · refine go_cmpgeT (pc := 33) rfl hc ?_
    refine go_inc (pc := 192) rfl l7 ?_
    refine go_goto (pc := 195) rfl ?_
    exact R6 _ _ _ _ _ _ _ _ _ _ (bi_k1 l0 rfl rfl) (bi_k1 l1 rfl rfl) (bi_k1 l2 rfl rfl) (bi_k1 l3 rfl rfl) (bi_k1 l4 rfl rfl) (bi_k1 l5 rfl rfl) (bi_k1 l6 rfl rfl) bi_e1 hh
  · refine go_cmpgeF (pc := 33) rfl hc ?_
    refine go_il (pc := 36) rfl l2 ?_
    refine go_il (pc := 37) rfl l8 ?_
    refine go_ishr (pc := 39) rfl ?_
    refine go_pi (pc := 40) rfl ?_
    refine go_iand (pc := 41) rfl ?_
    refine bi_ite hh (fun hc hh => ?_) (fun hc hh => ?_)
    · refine go_ifneT (pc := 42) rfl hc ?_
      refine go_il (pc := 48) rfl l4 ?_
      refine go_pi (pc := 50) rfl ?_
      refine go_il (pc := 51) rfl l8 ?_
      refine go_ishl (pc := 53) rfl ?_
      refine go_il (pc := 54) rfl l3 ?_
      refine go_iand (pc := 55) rfl ?_
      refine go_ior (pc := 56) rfl ?_
      refine go_is (pc := 57) rfl ?_
      refine go_al (pc := 59) rfl (bi_k1 l1 rfl rfl) ?_
      obtain ⟨x3, ex3, hh⟩ := bi_bd hh
      refine go_gfR (pc := 60) rfl ex3 ?_
      refine go_il (pc := 63) rfl (bi_k1 l8 rfl rfl) ?_
      refine go_pi (pc := 65) rfl ?_
      obtain ⟨q4, eq4, hh⟩ := bi_bd hh
      refine go_ivI (pc := 66) rfl rfl (gX6_cell eq4) (Nat.le_of_ble_eq_true rfl) (bi_up (sX6_cell eq4) (Nat.le_of_ble_eq_true rfl)) ?_
      refine go_is (pc := 69) rfl ?_
      refine go_al (pc := 71) rfl (bi_k1 (bi_k1 l1 rfl rfl) rfl rfl) ?_
      obtain ⟨x5, ex5, hh⟩ := bi_bd hh
      refine go_gfR (pc := 72) rfl ex5 ?_
      refine go_il (pc := 75) rfl (bi_k1 (bi_k1 l8 rfl rfl) rfl rfl) ?_
      refine go_pi (pc := 77) rfl ?_
      obtain ⟨q6, eq6, hh⟩ := bi_bd hh
      refine go_ivI (pc := 78) rfl rfl (gX6_cell eq6) (Nat.le_of_ble_eq_true rfl) (bi_up (sX6_cell eq6) (Nat.le_of_ble_eq_true rfl)) ?_
      refine go_is (pc := 81) rfl ?_
      refine go_al (pc := 83) rfl (bi_k1 (bi_k1 (bi_k1 l1 rfl rfl) rfl rfl) rfl rfl) ?_
      obtain ⟨x7, ex7, hh⟩ := bi_bd hh
      refine go_gfR (pc := 84) rfl ex7 ?_
      refine go_il (pc := 87) rfl (bi_k1 (bi_k1 (bi_k1 l8 rfl rfl) rfl rfl) rfl rfl) ?_
      refine go_pi (pc := 89) rfl ?_
      obtain ⟨q8, eq8, hh⟩ := bi_bd hh
      refine go_ivI (pc := 90) rfl rfl (gX6_cell eq8) (Nat.le_of_ble_eq_true rfl) (bi_up (sX6_cell eq8) (Nat.le_of_ble_eq_true rfl)) ?_
      refine go_is (pc := 93) rfl ?_
      refine go_al (pc := 95) rfl (bi_k1 (bi_k1 (bi_k1 (bi_k1 l0 rfl rfl) rfl rfl) rfl rfl) rfl rfl) ?_
      refine go_il (pc := 96) rfl (bi_k1 (bi_k1 (bi_k1 bi_e1 rfl rfl) rfl rfl) rfl rfl) ?_
      refine go_pi (pc := 98) rfl ?_
      refine go_imul (pc := 100) rfl ?_
      refine go_il (pc := 101) rfl (bi_k1 bi_e1 rfl rfl) ?_
      refine go_iadd (pc := 103) rfl ?_
      refine go_al (pc := 104) rfl (bi_k1 (bi_k1 (bi_k1 (bi_k1 l0 rfl rfl) rfl rfl) rfl rfl) rfl rfl) ?_
      obtain ⟨x9, ex9, hh⟩ := bi_bd hh
      refine go_gfR (pc := 105) rfl ex9 ?_
      refine go_il (pc := 108) rfl (bi_k1 (bi_k1 (bi_k1 (bi_k1 l4 rfl rfl) rfl rfl) rfl rfl) rfl rfl) ?_
      refine go_pi (pc := 110) rfl ?_
      refine go_imul (pc := 112) rfl ?_
      refine go_il (pc := 113) rfl (bi_k1 (bi_k1 bi_e1 rfl rfl) rfl rfl) ?_
      refine go_iadd (pc := 115) rfl ?_
      obtain ⟨x10, ex10, hh⟩ := bi_bd hh
      refine go_iald (pc := 116) rfl ex10 ?_
      refine go_il (pc := 117) rfl bi_e1 ?_
      refine go_il (pc := 119) rfl (bi_k1 (bi_k1 (bi_k1 (bi_k1 l5 rfl rfl) rfl rfl) rfl rfl) rfl rfl) ?_
      obtain ⟨q11, eq11, hh⟩ := bi_bd hh
      refine go_ivI (pc := 121) rfl rfl (gX9_lessen eq11) (Nat.le_of_ble_eq_true rfl) (bi_up (sX9_lessen eq11) (Nat.le_of_ble_eq_true rfl)) ?_
      refine go_is (pc := 124) rfl ?_
      refine go_al (pc := 126) rfl (bi_k1 (bi_k1 (bi_k1 (bi_k1 (bi_k1 l0 rfl rfl) rfl rfl) rfl rfl) rfl rfl) rfl rfl) ?_
      refine go_il (pc := 127) rfl (bi_k1 (bi_k1 (bi_k1 (bi_k1 bi_e1 rfl rfl) rfl rfl) rfl rfl) rfl rfl) ?_
      refine go_pi (pc := 129) rfl ?_
      refine go_imul (pc := 131) rfl ?_
      refine go_il (pc := 132) rfl (bi_k1 (bi_k1 (bi_k1 bi_e1 rfl rfl) rfl rfl) rfl rfl) ?_
      refine go_iadd (pc := 134) rfl ?_
      refine go_al (pc := 135) rfl (bi_k1 (bi_k1 (bi_k1 (bi_k1 (bi_k1 l0 rfl rfl) rfl rfl) rfl rfl) rfl rfl) rfl rfl) ?_
      obtain ⟨x12, ex12, hh⟩ := bi_bd hh
      refine go_gfR (pc := 136) rfl ex12 ?_
      refine go_il (pc := 139) rfl (bi_k1 (bi_k1 (bi_k1 (bi_k1 (bi_k1 l4 rfl rfl) rfl rfl) rfl rfl) rfl rfl) rfl rfl) ?_
      refine go_pi (pc := 141) rfl ?_
      refine go_imul (pc := 143) rfl ?_
      refine go_il (pc := 144) rfl (bi_k1 (bi_k1 bi_e1 rfl rfl) rfl rfl) ?_
      refine go_iadd (pc := 146) rfl ?_
      obtain ⟨x13, ex13, hh⟩ := bi_bd hh
      refine go_iald (pc := 147) rfl ex13 ?_
      refine go_il (pc := 148) rfl (bi_k1 bi_e1 rfl rfl) ?_
      refine go_il (pc := 150) rfl (bi_k1 (bi_k1 (bi_k1 (bi_k1 (bi_k1 l5 rfl rfl) rfl rfl) rfl rfl) rfl rfl) rfl rfl) ?_
      obtain ⟨q14, eq14, hh⟩ := bi_bd hh
      refine go_ivI (pc := 152) rfl rfl (gX9_lessen eq14) (Nat.le_of_ble_eq_true rfl) (bi_up (sX9_lessen eq14) (Nat.le_of_ble_eq_true rfl)) ?_
      refine go_is (pc := 155) rfl ?_
      refine go_il (pc := 157) rfl (bi_k1 (bi_k1 (bi_k1 (bi_k1 (bi_k1 (bi_k1 l6 rfl rfl) rfl rfl) rfl rfl) rfl rfl) rfl rfl) rfl rfl) ?_
      refine bi_ite hh (fun hc hh => ?_) (fun hc hh => ?_)
      · refine go_ifneT (pc := 159) rfl hc ?_
        exact sX9_goOn_179 R6 R24 (bi_k1 (bi_k1 (bi_k1 (bi_k1 (bi_k1 (bi_k1 l0 rfl rfl) rfl rfl) rfl rfl) rfl rfl) rfl rfl) rfl rfl) (bi_k1 (bi_k1 (bi_k1 (bi_k1 (bi_k1 (bi_k1 l1 rfl rfl) rfl rfl) rfl rfl) rfl rfl) rfl rfl) rfl rfl) (bi_k1 (bi_k1 (bi_k1 (bi_k1 (bi_k1 (bi_k1 l2 rfl rfl) rfl rfl) rfl rfl) rfl rfl) rfl rfl) rfl rfl) (bi_k1 (bi_k1 (bi_k1 (bi_k1 (bi_k1 (bi_k1 l3 rfl rfl) rfl rfl) rfl rfl) rfl rfl) rfl rfl) rfl rfl) (bi_k1 (bi_k1 (bi_k1 (bi_k1 (bi_k1 (bi_k1 l4 rfl rfl) rfl rfl) rfl rfl) rfl rfl) rfl rfl) rfl rfl) (bi_k1 (bi_k1 (bi_k1 (bi_k1 (bi_k1 (bi_k1 l5 rfl rfl) rfl rfl) rfl rfl) rfl rfl) rfl rfl) rfl rfl) (bi_k1 (bi_k1 (bi_k1 (bi_k1 (bi_k1 (bi_k1 l7 rfl rfl) rfl rfl) rfl rfl) rfl rfl) rfl rfl) rfl rfl) (bi_k1 (bi_k1 (bi_k1 (bi_k1 (bi_k1 (bi_k1 l8 rfl rfl) rfl rfl) rfl rfl) rfl rfl) rfl rfl) rfl rfl) hh
      · refine go_ifneF (pc := 159) rfl hc ?_
        refine go_il (pc := 162) rfl (bi_k1 (bi_k1 (bi_k1 (bi_k1 (bi_k1 bi_e1 rfl rfl) rfl rfl) rfl rfl) rfl rfl) rfl rfl) ?_
        refine go_il (pc := 164) rfl (bi_k1 (bi_k1 (bi_k1 (bi_k1 (bi_k1 (bi_k1 l4 rfl rfl) rfl rfl) rfl rfl) rfl rfl) rfl rfl) rfl rfl) ?_
        refine bi_ite hh (fun hc hh => ?_) (fun hc hh => ?_)
        · refine go_cmpneT (pc := 166) rfl hc ?_
          exact sX9_goOn_183 R6 R24 (bi_k1 (bi_k1 (bi_k1 (bi_k1 (bi_k1 (bi_k1 l0 rfl rfl) rfl rfl) rfl rfl) rfl rfl) rfl rfl) rfl rfl) (bi_k1 (bi_k1 (bi_k1 (bi_k1 (bi_k1 (bi_k1 l1 rfl rfl) rfl rfl) rfl rfl) rfl rfl) rfl rfl) rfl rfl) (bi_k1 (bi_k1 (bi_k1 (bi_k1 (bi_k1 (bi_k1 l2 rfl rfl) rfl rfl) rfl rfl) rfl rfl) rfl rfl) rfl rfl) (bi_k1 (bi_k1 (bi_k1 (bi_k1 (bi_k1 (bi_k1 l3 rfl rfl) rfl rfl) rfl rfl) rfl rfl) rfl rfl) rfl rfl) (bi_k1 (bi_k1 (bi_k1 (bi_k1 (bi_k1 (bi_k1 l4 rfl rfl) rfl rfl) rfl rfl) rfl rfl) rfl rfl) rfl rfl) (bi_k1 (bi_k1 (bi_k1 (bi_k1 (bi_k1 (bi_k1 l5 rfl rfl) rfl rfl) rfl rfl) rfl rfl) rfl rfl) rfl rfl) (bi_k1 (bi_k1 (bi_k1 (bi_k1 (bi_k1 (bi_k1 l7 rfl rfl) rfl rfl) rfl rfl) rfl rfl) rfl rfl) rfl rfl) (bi_k1 (bi_k1 (bi_k1 (bi_k1 (bi_k1 (bi_k1 l8 rfl rfl) rfl rfl) rfl rfl) rfl rfl) rfl rfl) rfl rfl) hh
        · refine go_cmpneF (pc := 166) rfl hc ?_
          refine go_il (pc := 169) rfl (bi_k1 bi_e1 rfl rfl) ?_
          refine bi_ite hh (fun hc hh => ?_) (fun hc hh => ?_)
          · refine go_ifneT (pc := 171) rfl hc ?_
            exact sX9_goOn_179 R6 R24 (bi_k1 (bi_k1 (bi_k1 (bi_k1 (bi_k1 (bi_k1 l0 rfl rfl) rfl rfl) rfl rfl) rfl rfl) rfl rfl) rfl rfl) (bi_k1 (bi_k1 (bi_k1 (bi_k1 (bi_k1 (bi_k1 l1 rfl rfl) rfl rfl) rfl rfl) rfl rfl) rfl rfl) rfl rfl) (bi_k1 (bi_k1 (bi_k1 (bi_k1 (bi_k1 (bi_k1 l2 rfl rfl) rfl rfl) rfl rfl) rfl rfl) rfl rfl) rfl rfl) (bi_k1 (bi_k1 (bi_k1 (bi_k1 (bi_k1 (bi_k1 l3 rfl rfl) rfl rfl) rfl rfl) rfl rfl) rfl rfl) rfl rfl) (bi_k1 (bi_k1 (bi_k1 (bi_k1 (bi_k1 (bi_k1 l4 rfl rfl) rfl rfl) rfl rfl) rfl rfl) rfl rfl) rfl rfl) (bi_k1 (bi_k1 (bi_k1 (bi_k1 (bi_k1 (bi_k1 l5 rfl rfl) rfl rfl) rfl rfl) rfl rfl) rfl rfl) rfl rfl) (bi_k1 (bi_k1 (bi_k1 (bi_k1 (bi_k1 (bi_k1 l7 rfl rfl) rfl rfl) rfl rfl) rfl rfl) rfl rfl) rfl rfl) (bi_k1 (bi_k1 (bi_k1 (bi_k1 (bi_k1 (bi_k1 l8 rfl rfl) rfl rfl) rfl rfl) rfl rfl) rfl rfl) rfl rfl) hh
          · refine go_ifneF (pc := 171) rfl hc ?_
            refine go_il (pc := 174) rfl bi_e1 ?_
            refine bi_ite hh (fun hc hh => ?_) (fun hc hh => ?_)
            · refine go_ifeqT (pc := 176) rfl hc ?_
              exact sX9_goOn_183 R6 R24 (bi_k1 (bi_k1 (bi_k1 (bi_k1 (bi_k1 (bi_k1 l0 rfl rfl) rfl rfl) rfl rfl) rfl rfl) rfl rfl) rfl rfl) (bi_k1 (bi_k1 (bi_k1 (bi_k1 (bi_k1 (bi_k1 l1 rfl rfl) rfl rfl) rfl rfl) rfl rfl) rfl rfl) rfl rfl) (bi_k1 (bi_k1 (bi_k1 (bi_k1 (bi_k1 (bi_k1 l2 rfl rfl) rfl rfl) rfl rfl) rfl rfl) rfl rfl) rfl rfl) (bi_k1 (bi_k1 (bi_k1 (bi_k1 (bi_k1 (bi_k1 l3 rfl rfl) rfl rfl) rfl rfl) rfl rfl) rfl rfl) rfl rfl) (bi_k1 (bi_k1 (bi_k1 (bi_k1 (bi_k1 (bi_k1 l4 rfl rfl) rfl rfl) rfl rfl) rfl rfl) rfl rfl) rfl rfl) (bi_k1 (bi_k1 (bi_k1 (bi_k1 (bi_k1 (bi_k1 l5 rfl rfl) rfl rfl) rfl rfl) rfl rfl) rfl rfl) rfl rfl) (bi_k1 (bi_k1 (bi_k1 (bi_k1 (bi_k1 (bi_k1 l7 rfl rfl) rfl rfl) rfl rfl) rfl rfl) rfl rfl) rfl rfl) (bi_k1 (bi_k1 (bi_k1 (bi_k1 (bi_k1 (bi_k1 l8 rfl rfl) rfl rfl) rfl rfl) rfl rfl) rfl rfl) rfl rfl) hh
            · refine go_ifeqF (pc := 176) rfl hc ?_
              exact sX9_goOn_179 R6 R24 (bi_k1 (bi_k1 (bi_k1 (bi_k1 (bi_k1 (bi_k1 l0 rfl rfl) rfl rfl) rfl rfl) rfl rfl) rfl rfl) rfl rfl) (bi_k1 (bi_k1 (bi_k1 (bi_k1 (bi_k1 (bi_k1 l1 rfl rfl) rfl rfl) rfl rfl) rfl rfl) rfl rfl) rfl rfl) (bi_k1 (bi_k1 (bi_k1 (bi_k1 (bi_k1 (bi_k1 l2 rfl rfl) rfl rfl) rfl rfl) rfl rfl) rfl rfl) rfl rfl) (bi_k1 (bi_k1 (bi_k1 (bi_k1 (bi_k1 (bi_k1 l3 rfl rfl) rfl rfl) rfl rfl) rfl rfl) rfl rfl) rfl rfl) (bi_k1 (bi_k1 (bi_k1 (bi_k1 (bi_k1 (bi_k1 l4 rfl rfl) rfl rfl) rfl rfl) rfl rfl) rfl rfl) rfl rfl) (bi_k1 (bi_k1 (bi_k1 (bi_k1 (bi_k1 (bi_k1 l5 rfl rfl) rfl rfl) rfl rfl) rfl rfl) rfl rfl) rfl rfl) (bi_k1 (bi_k1 (bi_k1 (bi_k1 (bi_k1 (bi_k1 l7 rfl rfl) rfl rfl) rfl rfl) rfl rfl) rfl rfl) rfl rfl) (bi_k1 (bi_k1 (bi_k1 (bi_k1 (bi_k1 (bi_k1 l8 rfl rfl) rfl rfl) rfl rfl) rfl rfl) rfl rfl) rfl rfl) hh
    · refine go_ifneF (pc := 42) rfl hc ?_
      refine go_goto (pc := 45) rfl ?_
      exact sX9_goOn_186 R6 R24 l0 l1 l2 l3 l4 l5 l6 l7 l8 hh
def fX9_goOn_24 (n : Nat) (r6 : ai_H → Nat → Nat → Int32 → Int32 → Int32 → Int32 → Int32 → Int32 → Option (Unit × ai_H)) : Nat → ai_H → Nat → Nat → Int32 → Int32 → Int32 → Int32 → Int32 → Int32 → Int32 → Option (Unit × ai_H)
  | 0 => fun _ _ _ _ _ _ _ _ _ _ => none
  | k + 1 => fun h v0 v1 v2 v3 v4 v5 v6 v7 v8 => fX9_goOn_24b n r6 (fX9_goOn_24 n r6 k) h v0 v1 v2 v3 v4 v5 v6 v7 v8
theorem sX9_goOn_24 {n : Nat} {r6 : ai_H → Nat → Nat → Int32 → Int32 → Int32 → Int32 → Int32 → Int32 → Option (Unit × ai_H)} {q : Unit × ai_H} (R6 : ∀ (h : ai_H) (v0 : Nat) (v1 : Nat) (v2 : Int32) (v3 : Int32) (v4 : Int32) (v5 : Int32) (v6 : Int32) (v7 : Int32) (lv : ai_L), ai_ld 0 lv = some (.ref v0) → ai_ld 1 lv = some (.ref v1) → ai_ld 2 lv = some (.int v2) → ai_ld 3 lv = some (.int v3) → ai_ld 4 lv = some (.int v4) → ai_ld 5 lv = some (.int v5) → ai_ld 6 lv = some (.int v6) → ai_ld 7 lv = some (.int v7) → r6 h v0 v1 v2 v3 v4 v5 v6 v7 = some q → bi_go 1 tX9_goOn n (fV n q) 6 lv [] h) : ∀ (k : Nat) (h : ai_H) (v0 : Nat) (v1 : Nat) (v2 : Int32) (v3 : Int32) (v4 : Int32) (v5 : Int32) (v6 : Int32) (v7 : Int32) (v8 : Int32) (lv : ai_L), ai_ld 0 lv = some (.ref v0) → ai_ld 1 lv = some (.ref v1) → ai_ld 2 lv = some (.int v2) → ai_ld 3 lv = some (.int v3) → ai_ld 4 lv = some (.int v4) → ai_ld 5 lv = some (.int v5) → ai_ld 6 lv = some (.int v6) → ai_ld 7 lv = some (.int v7) → ai_ld 8 lv = some (.int v8) → fX9_goOn_24 n r6 k h v0 v1 v2 v3 v4 v5 v6 v7 v8 = some q → bi_go 1 tX9_goOn n (fV n q) 24 lv [] h
  | 0 => fun _ _ _ _ _ _ _ _ _ _ _ _ _ _ _ _ _ _ _ _ hh => by cases hh
  | k + 1 => fun h v0 v1 v2 v3 v4 v5 v6 v7 v8 lv l0 l1 l2 l3 l4 l5 l6 l7 l8 hh => sX9_goOn_24b R6 (sX9_goOn_24 R6 k) l0 l1 l2 l3 l4 l5 l6 l7 l8 hh
def fX9_goOn_6b (n : Nat) (r6 : ai_H → Nat → Nat → Int32 → Int32 → Int32 → Int32 → Int32 → Int32 → Option (Unit × ai_H)) (h : ai_H) (v0 : Nat) (v1 : Nat) (v2 : Int32) (v3 : Int32) (v4 : Int32) (v5 : Int32) (v6 : Int32) (v7 : Int32) : Option (Unit × ai_H) :=
  if (7 : Int32) ≤ v7 then (
    some ((), h))
  else (
    if v6 = 0 then (
      some ((), h))
    else (
      fX9_goOn_24 n r6 bi_K h v0 v1 v2 v3 v4 v5 (0 : Int32) v7 (0 : Int32)))
theorem sX9_goOn_6b {n : Nat} {r6 : ai_H → Nat → Nat → Int32 → Int32 → Int32 → Int32 → Int32 → Int32 → Option (Unit × ai_H)} {q : Unit × ai_H} {h : ai_H} {v0 : Nat} {v1 : Nat} {v2 : Int32} {v3 : Int32} {v4 : Int32} {v5 : Int32} {v6 : Int32} {v7 : Int32} {lv : ai_L} (R6 : ∀ (h : ai_H) (v0 : Nat) (v1 : Nat) (v2 : Int32) (v3 : Int32) (v4 : Int32) (v5 : Int32) (v6 : Int32) (v7 : Int32) (lv : ai_L), ai_ld 0 lv = some (.ref v0) → ai_ld 1 lv = some (.ref v1) → ai_ld 2 lv = some (.int v2) → ai_ld 3 lv = some (.int v3) → ai_ld 4 lv = some (.int v4) → ai_ld 5 lv = some (.int v5) → ai_ld 6 lv = some (.int v6) → ai_ld 7 lv = some (.int v7) → r6 h v0 v1 v2 v3 v4 v5 v6 v7 = some q → bi_go 1 tX9_goOn n (fV n q) 6 lv [] h) (l0 : ai_ld 0 lv = some (.ref v0)) (l1 : ai_ld 1 lv = some (.ref v1)) (l2 : ai_ld 2 lv = some (.int v2)) (l3 : ai_ld 3 lv = some (.int v3)) (l4 : ai_ld 4 lv = some (.int v4)) (l5 : ai_ld 5 lv = some (.int v5)) (l6 : ai_ld 6 lv = some (.int v6)) (l7 : ai_ld 7 lv = some (.int v7)) (hh : fX9_goOn_6b n r6 h v0 v1 v2 v3 v4 v5 v6 v7 = some q) : bi_go 1 tX9_goOn n (fV n q) 6 lv [] h := by
  unfold fX9_goOn_6b at hh
  refine go_il (pc := 6) rfl l7 ?_
  refine go_pi (pc := 8) rfl ?_
  refine bi_ite hh (fun hc hh => ?_) (fun hc hh => ?_)
  · refine go_cmpgeT (pc := 10) rfl hc ?_
    exact go_rv (pc := 198) rfl hh
  · refine go_cmpgeF (pc := 10) rfl hc ?_
    refine go_il (pc := 13) rfl l6 ?_
    refine bi_ite hh (fun hc hh => ?_) (fun hc hh => ?_)
    · refine go_ifeqT (pc := 15) rfl hc ?_
      exact go_rv (pc := 198) rfl hh
    · refine go_ifeqF (pc := 15) rfl hc ?_
      refine go_pi (pc := 18) rfl ?_
      refine go_is (pc := 19) rfl ?_
      refine go_pi (pc := 21) rfl ?_
      refine go_is (pc := 22) rfl ?_
      exact sX9_goOn_24 R6 _ _ _ _ _ _ _ _ _ _ _ _ (bi_k1 (bi_k1 l0 rfl rfl) rfl rfl) (bi_k1 (bi_k1 l1 rfl rfl) rfl rfl) (bi_k1 (bi_k1 l2 rfl rfl) rfl rfl) (bi_k1 (bi_k1 l3 rfl rfl) rfl rfl) (bi_k1 (bi_k1 l4 rfl rfl) rfl rfl) (bi_k1 (bi_k1 l5 rfl rfl) rfl rfl) (bi_k1 bi_e1 rfl rfl) (bi_k1 (bi_k1 l7 rfl rfl) rfl rfl) bi_e1 hh
def fX9_goOn_6 (n : Nat) : Nat → ai_H → Nat → Nat → Int32 → Int32 → Int32 → Int32 → Int32 → Int32 → Option (Unit × ai_H)
  | 0 => fun _ _ _ _ _ _ _ _ _ => none
  | k + 1 => fun h v0 v1 v2 v3 v4 v5 v6 v7 => fX9_goOn_6b n (fX9_goOn_6 n k) h v0 v1 v2 v3 v4 v5 v6 v7
theorem sX9_goOn_6 {n : Nat} {q : Unit × ai_H} : ∀ (k : Nat) (h : ai_H) (v0 : Nat) (v1 : Nat) (v2 : Int32) (v3 : Int32) (v4 : Int32) (v5 : Int32) (v6 : Int32) (v7 : Int32) (lv : ai_L), ai_ld 0 lv = some (.ref v0) → ai_ld 1 lv = some (.ref v1) → ai_ld 2 lv = some (.int v2) → ai_ld 3 lv = some (.int v3) → ai_ld 4 lv = some (.int v4) → ai_ld 5 lv = some (.int v5) → ai_ld 6 lv = some (.int v6) → ai_ld 7 lv = some (.int v7) → fX9_goOn_6 n k h v0 v1 v2 v3 v4 v5 v6 v7 = some q → bi_go 1 tX9_goOn n (fV n q) 6 lv [] h
  | 0 => fun _ _ _ _ _ _ _ _ _ _ _ _ _ _ _ _ _ _ hh => by cases hh
  | k + 1 => fun h v0 v1 v2 v3 v4 v5 v6 v7 lv l0 l1 l2 l3 l4 l5 l6 l7 hh => sX9_goOn_6b  (sX9_goOn_6  k) l0 l1 l2 l3 l4 l5 l6 l7 hh
def fX9_goOn (n : Nat) (h : ai_H) (a0 : Nat) (a1 : Nat) (a2 : Int32) (a3 : Int32) (a4 : Int32) (a5 : Int32) : Option (Unit × ai_H) :=
  (kO n h a0 9).bind fun _ =>
  fX9_goOn_6 n bi_K h a0 a1 a2 a3 a4 a5 (1 : Int32) (0 : Int32)
theorem gX9_goOn {n : Nat} {h : ai_H} {a0 : Nat} {a1 : Nat} {a2 : Int32} {a3 : Int32} {a4 : Int32} {a5 : Int32} {q : Unit × ai_H} (hh : fX9_goOn n h a0 a1 a2 a3 a4 a5 = some q) : kO n h a0 9 = some () := by
  obtain ⟨_, e, -⟩ := bi_bd hh
  exact e
theorem sX9_goOn {n : Nat} {h : ai_H} {a0 : Nat} {a1 : Nat} {a2 : Int32} {a3 : Int32} {a4 : Int32} {a5 : Int32} {q : Unit × ai_H} (hh : fX9_goOn n h a0 a1 a2 a3 a4 a5 = some q) : bi_sp 2 84 [.ref a0, .ref a1, .int a2, .int a3, .int a4, .int a5] h n (fV n q) := by
  refine bi_en (D := 1) (T := tX9_goOn) (funext fun pc => rfl) rfl (Nat.le_of_ble_eq_true rfl) ?_
  unfold fX9_goOn at hh
  obtain ⟨_, eO, hh⟩ := bi_bd hh
  refine go_pi (pc := 0) rfl ?_
  refine go_is (pc := 1) rfl ?_
  refine go_pi (pc := 3) rfl ?_
  refine go_is (pc := 4) rfl ?_
  exact sX9_goOn_6  _ _ _ _ _ _ _ _ _ _ _ (bi_k1 (bi_k1 (rfl : ai_ld 0 (lv_args 0 [.ref a0, .ref a1, .int a2, .int a3, .int a4, .int a5]) = some (.ref a0)) rfl rfl) rfl rfl) (bi_k1 (bi_k1 (rfl : ai_ld 1 (lv_args 0 [.ref a0, .ref a1, .int a2, .int a3, .int a4, .int a5]) = some (.ref a1)) rfl rfl) rfl rfl) (bi_k1 (bi_k1 (rfl : ai_ld 2 (lv_args 0 [.ref a0, .ref a1, .int a2, .int a3, .int a4, .int a5]) = some (.int a2)) rfl rfl) rfl rfl) (bi_k1 (bi_k1 (rfl : ai_ld 3 (lv_args 0 [.ref a0, .ref a1, .int a2, .int a3, .int a4, .int a5]) = some (.int a3)) rfl rfl) rfl rfl) (bi_k1 (bi_k1 (rfl : ai_ld 4 (lv_args 0 [.ref a0, .ref a1, .int a2, .int a3, .int a4, .int a5]) = some (.int a4)) rfl rfl) rfl rfl) (bi_k1 (bi_k1 (rfl : ai_ld 5 (lv_args 0 [.ref a0, .ref a1, .int a2, .int a3, .int a4, .int a5]) = some (.int a5)) rfl rfl) rfl rfl) (bi_k1 bi_e1 rfl rfl) bi_e1 hh
def fX9_leastRound_131 (n : Nat) (r101 : ai_H → Nat → Nat → Int32 → Int32 → Int32 → Int32 → Int32 → Option (Int32 × ai_H)) (h : ai_H) (v0 : Nat) (v1 : Nat) (v4 : Int32) (v5 : Int32) (v6 : Int32) (v7 : Int32) (v9 : Int32) : Option (Int32 × ai_H) :=
  r101 h v0 v1 v4 v5 v6 v7 (v9 + 1)
theorem sX9_leastRound_131 {n : Nat} {r101 : ai_H → Nat → Nat → Int32 → Int32 → Int32 → Int32 → Int32 → Option (Int32 × ai_H)} {q : Int32 × ai_H} {h : ai_H} {v0 : Nat} {v1 : Nat} {v4 : Int32} {v5 : Int32} {v6 : Int32} {v7 : Int32} {v9 : Int32} {lv : ai_L} (R101 : ∀ (h : ai_H) (v0 : Nat) (v1 : Nat) (v4 : Int32) (v5 : Int32) (v6 : Int32) (v7 : Int32) (v9 : Int32) (lv : ai_L), ai_ld 0 lv = some (.ref v0) → ai_ld 1 lv = some (.ref v1) → ai_ld 4 lv = some (.int v4) → ai_ld 5 lv = some (.int v5) → ai_ld 6 lv = some (.int v6) → ai_ld 7 lv = some (.int v7) → ai_ld 9 lv = some (.int v9) → r101 h v0 v1 v4 v5 v6 v7 v9 = some q → bi_go 2 tX9_leastRound n (fI n q) 101 lv [] h) (l0 : ai_ld 0 lv = some (.ref v0)) (l1 : ai_ld 1 lv = some (.ref v1)) (l4 : ai_ld 4 lv = some (.int v4)) (l5 : ai_ld 5 lv = some (.int v5)) (l6 : ai_ld 6 lv = some (.int v6)) (l7 : ai_ld 7 lv = some (.int v7)) (l9 : ai_ld 9 lv = some (.int v9)) (hh : fX9_leastRound_131 n r101 h v0 v1 v4 v5 v6 v7 v9 = some q) : bi_go 2 tX9_leastRound n (fI n q) 131 lv [] h := by
  unfold fX9_leastRound_131 at hh
  refine go_inc (pc := 131) rfl l9 ?_
  refine go_goto (pc := 134) rfl ?_
  exact R101 _ _ _ _ _ _ _ _ _ (bi_k1 l0 rfl rfl) (bi_k1 l1 rfl rfl) (bi_k1 l4 rfl rfl) (bi_k1 l5 rfl rfl) (bi_k1 l6 rfl rfl) (bi_k1 l7 rfl rfl) bi_e1 hh
def fX9_leastRound_144b (n : Nat) (r144 : ai_H → Nat → Nat → Int32 → Int32 → Int32 → Int32 → Option (Int32 × ai_H)) (h : ai_H) (v0 : Nat) (v1 : Nat) (v4 : Int32) (v5 : Int32) (v9 : Int32) (v10 : Int32) : Option (Int32 × ai_H) :=
  (pR n h v1 8 0).bind fun x1 =>
  (pI n h x1 6 4).bind fun x2 =>
  if x2 ≤ v10 then (
    if v9 < (1000000 : Int32) then (
      if v5 = 0 then (
        some (v9, h))
      else (
        some (v9 >>> ((7 : Int32) &&& 31), h)))
    else (
      some ((-2 : Int32), h)))
  else (
    (pR n h v0 9 1).bind fun x3 =>
    (gX 1 n h x3 (((7 : Int32) * v4) + v10)).bind fun x4 =>
    r144 h v0 v1 v4 v5 (if x4 < v9 then x4 else v9) (v10 + 1))
theorem sX9_leastRound_144b {n : Nat} {r144 : ai_H → Nat → Nat → Int32 → Int32 → Int32 → Int32 → Option (Int32 × ai_H)} {q : Int32 × ai_H} {h : ai_H} {v0 : Nat} {v1 : Nat} {v4 : Int32} {v5 : Int32} {v9 : Int32} {v10 : Int32} {lv : ai_L} (R144 : ∀ (h : ai_H) (v0 : Nat) (v1 : Nat) (v4 : Int32) (v5 : Int32) (v9 : Int32) (v10 : Int32) (lv : ai_L), ai_ld 0 lv = some (.ref v0) → ai_ld 1 lv = some (.ref v1) → ai_ld 4 lv = some (.int v4) → ai_ld 5 lv = some (.int v5) → ai_ld 9 lv = some (.int v9) → ai_ld 10 lv = some (.int v10) → r144 h v0 v1 v4 v5 v9 v10 = some q → bi_go 2 tX9_leastRound n (fI n q) 144 lv [] h) (l0 : ai_ld 0 lv = some (.ref v0)) (l1 : ai_ld 1 lv = some (.ref v1)) (l4 : ai_ld 4 lv = some (.int v4)) (l5 : ai_ld 5 lv = some (.int v5)) (l9 : ai_ld 9 lv = some (.int v9)) (l10 : ai_ld 10 lv = some (.int v10)) (hh : fX9_leastRound_144b n r144 h v0 v1 v4 v5 v9 v10 = some q) : bi_go 2 tX9_leastRound n (fI n q) 144 lv [] h := by
  unfold fX9_leastRound_144b at hh
  refine go_il (pc := 144) rfl l10 ?_
  refine go_al (pc := 146) rfl l1 ?_
  obtain ⟨x1, ex1, hh⟩ := bi_bd hh
  refine go_gfR (pc := 147) rfl ex1 ?_
  obtain ⟨x2, ex2, hh⟩ := bi_bd hh
  refine go_gfI (pc := 150) rfl ex2 ?_
  refine bi_ite hh (fun hc hh => ?_) (fun hc hh => ?_)
  · refine go_cmpgeT (pc := 153) rfl hc ?_
    refine go_il (pc := 182) rfl l9 ?_
    refine go_pi (pc := 184) rfl ?_
    refine bi_ite hh (fun hc hh => ?_) (fun hc hh => ?_)
    · refine go_cmpltT (pc := 186) rfl hc ?_
      refine go_il (pc := 192) rfl l5 ?_
      refine bi_ite hh (fun hc hh => ?_) (fun hc hh => ?_)
      · refine go_ifeqT (pc := 194) rfl hc ?_
        refine go_il (pc := 205) rfl l9 ?_
        exact go_ri (pc := 207) rfl hh
      · refine go_ifeqF (pc := 194) rfl hc ?_
        refine go_il (pc := 197) rfl l9 ?_
        refine go_pi (pc := 199) rfl ?_
        refine go_ishr (pc := 201) rfl ?_
        refine go_goto (pc := 202) rfl ?_
        exact go_ri (pc := 207) rfl hh
    · refine go_cmpltF (pc := 186) rfl hc ?_
      refine go_pi (pc := 189) rfl ?_
      exact go_ri (pc := 191) rfl hh
  · refine go_cmpgeF (pc := 153) rfl hc ?_
    refine go_il (pc := 156) rfl l9 ?_
    refine go_al (pc := 158) rfl l0 ?_
    obtain ⟨x3, ex3, hh⟩ := bi_bd hh
    refine go_gfR (pc := 159) rfl ex3 ?_
    refine go_pi (pc := 162) rfl ?_
    refine go_il (pc := 164) rfl l4 ?_
    refine go_imul (pc := 166) rfl ?_
    refine go_il (pc := 167) rfl l10 ?_
    refine go_iadd (pc := 169) rfl ?_
    obtain ⟨x4, ex4, hh⟩ := bi_bd hh
    refine go_iald (pc := 170) rfl ex4 ?_
    refine go_imin (pc := 171) rfl (Nat.le_of_ble_eq_true rfl) ?_
    refine go_is (pc := 174) rfl ?_
    refine go_inc (pc := 176) rfl (bi_k1 l10 rfl rfl) ?_
    refine go_goto (pc := 179) rfl ?_
    exact R144 _ _ _ _ _ _ _ _ (bi_k1 (bi_k1 l0 rfl rfl) rfl rfl) (bi_k1 (bi_k1 l1 rfl rfl) rfl rfl) (bi_k1 (bi_k1 l4 rfl rfl) rfl rfl) (bi_k1 (bi_k1 l5 rfl rfl) rfl rfl) (bi_k1 bi_e1 rfl rfl) bi_e1 hh
def fX9_leastRound_144 (n : Nat) : Nat → ai_H → Nat → Nat → Int32 → Int32 → Int32 → Int32 → Option (Int32 × ai_H)
  | 0 => fun _ _ _ _ _ _ _ => none
  | k + 1 => fun h v0 v1 v4 v5 v9 v10 => fX9_leastRound_144b n (fX9_leastRound_144 n k) h v0 v1 v4 v5 v9 v10
theorem sX9_leastRound_144 {n : Nat} {q : Int32 × ai_H} : ∀ (k : Nat) (h : ai_H) (v0 : Nat) (v1 : Nat) (v4 : Int32) (v5 : Int32) (v9 : Int32) (v10 : Int32) (lv : ai_L), ai_ld 0 lv = some (.ref v0) → ai_ld 1 lv = some (.ref v1) → ai_ld 4 lv = some (.int v4) → ai_ld 5 lv = some (.int v5) → ai_ld 9 lv = some (.int v9) → ai_ld 10 lv = some (.int v10) → fX9_leastRound_144 n k h v0 v1 v4 v5 v9 v10 = some q → bi_go 2 tX9_leastRound n (fI n q) 144 lv [] h
  | 0 => fun _ _ _ _ _ _ _ _ _ _ _ _ _ _ hh => by cases hh
  | k + 1 => fun h v0 v1 v4 v5 v9 v10 lv l0 l1 l4 l5 l9 l10 hh => sX9_leastRound_144b  (sX9_leastRound_144  k) l0 l1 l4 l5 l9 l10 hh
def fX9_leastRound_101b (n : Nat) (r101 : ai_H → Nat → Nat → Int32 → Int32 → Int32 → Int32 → Int32 → Option (Int32 × ai_H)) (h : ai_H) (v0 : Nat) (v1 : Nat) (v4 : Int32) (v5 : Int32) (v6 : Int32) (v7 : Int32) (v9 : Int32) : Option (Int32 × ai_H) :=
  if v4 < v9 then (
    fX9_leastRound_144 n bi_K h v0 v1 v4 v5 (1000000 : Int32) (0 : Int32))
  else (
    if ¬ (v9 &&& (v4 ^^^ (-1 : Int32))) = 0 then (
      fX9_leastRound_131 n r101 h v0 v1 v4 v5 v6 v7 v9)
    else (
      (fX9_goOn n h v0 v1 v6 v4 v9 v7).bind fun q1 =>
      fX9_leastRound_131 n r101 q1.2 v0 v1 v4 v5 v6 v7 v9))
theorem sX9_leastRound_101b {n : Nat} {r101 : ai_H → Nat → Nat → Int32 → Int32 → Int32 → Int32 → Int32 → Option (Int32 × ai_H)} {q : Int32 × ai_H} {h : ai_H} {v0 : Nat} {v1 : Nat} {v4 : Int32} {v5 : Int32} {v6 : Int32} {v7 : Int32} {v9 : Int32} {lv : ai_L} (R101 : ∀ (h : ai_H) (v0 : Nat) (v1 : Nat) (v4 : Int32) (v5 : Int32) (v6 : Int32) (v7 : Int32) (v9 : Int32) (lv : ai_L), ai_ld 0 lv = some (.ref v0) → ai_ld 1 lv = some (.ref v1) → ai_ld 4 lv = some (.int v4) → ai_ld 5 lv = some (.int v5) → ai_ld 6 lv = some (.int v6) → ai_ld 7 lv = some (.int v7) → ai_ld 9 lv = some (.int v9) → r101 h v0 v1 v4 v5 v6 v7 v9 = some q → bi_go 2 tX9_leastRound n (fI n q) 101 lv [] h) (l0 : ai_ld 0 lv = some (.ref v0)) (l1 : ai_ld 1 lv = some (.ref v1)) (l4 : ai_ld 4 lv = some (.int v4)) (l5 : ai_ld 5 lv = some (.int v5)) (l6 : ai_ld 6 lv = some (.int v6)) (l7 : ai_ld 7 lv = some (.int v7)) (l9 : ai_ld 9 lv = some (.int v9)) (hh : fX9_leastRound_101b n r101 h v0 v1 v4 v5 v6 v7 v9 = some q) : bi_go 2 tX9_leastRound n (fI n q) 101 lv [] h := by
  unfold fX9_leastRound_101b at hh
  refine go_il (pc := 101) rfl l9 ?_
  refine go_il (pc := 103) rfl l4 ?_
  refine bi_ite hh (fun hc hh => ?_) (fun hc hh => ?_)
  · refine go_cmpgtT (pc := 105) rfl hc ?_
    refine go_pi (pc := 137) rfl ?_
    refine go_is (pc := 139) rfl ?_
    refine go_pi (pc := 141) rfl ?_
    refine go_is (pc := 142) rfl ?_
    exact sX9_leastRound_144  _ _ _ _ _ _ _ _ _ (bi_k1 (bi_k1 l0 rfl rfl) rfl rfl) (bi_k1 (bi_k1 l1 rfl rfl) rfl rfl) (bi_k1 (bi_k1 l4 rfl rfl) rfl rfl) (bi_k1 (bi_k1 l5 rfl rfl) rfl rfl) (bi_k1 bi_e1 rfl rfl) bi_e1 hh
  · refine go_cmpgtF (pc := 105) rfl hc ?_
    refine go_il (pc := 108) rfl l9 ?_
    refine go_il (pc := 110) rfl l4 ?_
    refine go_pi (pc := 112) rfl ?_
    refine go_ixor (pc := 113) rfl ?_
    refine go_iand (pc := 114) rfl ?_
    refine bi_ite hh (fun hc hh => ?_) (fun hc hh => ?_)
    · refine go_ifneT (pc := 115) rfl hc ?_
      exact sX9_leastRound_131 R101 l0 l1 l4 l5 l6 l7 l9 hh
    · refine go_ifneF (pc := 115) rfl hc ?_
      refine go_al (pc := 118) rfl l0 ?_
      refine go_al (pc := 119) rfl l1 ?_
      refine go_il (pc := 120) rfl l6 ?_
      refine go_il (pc := 122) rfl l4 ?_
      refine go_il (pc := 124) rfl l9 ?_
      refine go_il (pc := 126) rfl l7 ?_
      obtain ⟨q1, eq1, hh⟩ := bi_bd hh
      refine go_ivV (pc := 128) rfl rfl (gX9_goOn eq1) (Nat.le_of_ble_eq_true rfl) (bi_up (sX9_goOn eq1) (Nat.le_of_ble_eq_true rfl)) ?_
      exact sX9_leastRound_131 R101 l0 l1 l4 l5 l6 l7 l9 hh
def fX9_leastRound_101 (n : Nat) : Nat → ai_H → Nat → Nat → Int32 → Int32 → Int32 → Int32 → Int32 → Option (Int32 × ai_H)
  | 0 => fun _ _ _ _ _ _ _ _ => none
  | k + 1 => fun h v0 v1 v4 v5 v6 v7 v9 => fX9_leastRound_101b n (fX9_leastRound_101 n k) h v0 v1 v4 v5 v6 v7 v9
theorem sX9_leastRound_101 {n : Nat} {q : Int32 × ai_H} : ∀ (k : Nat) (h : ai_H) (v0 : Nat) (v1 : Nat) (v4 : Int32) (v5 : Int32) (v6 : Int32) (v7 : Int32) (v9 : Int32) (lv : ai_L), ai_ld 0 lv = some (.ref v0) → ai_ld 1 lv = some (.ref v1) → ai_ld 4 lv = some (.int v4) → ai_ld 5 lv = some (.int v5) → ai_ld 6 lv = some (.int v6) → ai_ld 7 lv = some (.int v7) → ai_ld 9 lv = some (.int v9) → fX9_leastRound_101 n k h v0 v1 v4 v5 v6 v7 v9 = some q → bi_go 2 tX9_leastRound n (fI n q) 101 lv [] h
  | 0 => fun _ _ _ _ _ _ _ _ _ _ _ _ _ _ _ _ hh => by cases hh
  | k + 1 => fun h v0 v1 v4 v5 v6 v7 v9 lv l0 l1 l4 l5 l6 l7 l9 hh => sX9_leastRound_101b  (sX9_leastRound_101  k) l0 l1 l4 l5 l6 l7 l9 hh
def fX9_leastRound_85 (n : Nat) (h : ai_H) (v0 : Nat) (v1 : Nat) (v2 : Nat) (v3 : Int32) (v4 : Int32) (v5 : Int32) (v6 : Int32) (v7 : Int32) : Option (Int32 × ai_H) :=
  (pR n h v0 9 1).bind fun x1 =>
  (pR n h v2 5 7).bind fun x2 =>
  (gX 1 n h x2 v3).bind fun x3 =>
  (wX 1 (fun x => x) n h x1 x3 v7).bind fun h4 =>
  fX9_leastRound_101 n bi_K h4 v0 v1 v4 v5 v6 v7 (0 : Int32)
theorem sX9_leastRound_85 {n : Nat} {q : Int32 × ai_H} {h : ai_H} {v0 : Nat} {v1 : Nat} {v2 : Nat} {v3 : Int32} {v4 : Int32} {v5 : Int32} {v6 : Int32} {v7 : Int32} {lv : ai_L} (l0 : ai_ld 0 lv = some (.ref v0)) (l1 : ai_ld 1 lv = some (.ref v1)) (l2 : ai_ld 2 lv = some (.ref v2)) (l3 : ai_ld 3 lv = some (.int v3)) (l4 : ai_ld 4 lv = some (.int v4)) (l5 : ai_ld 5 lv = some (.int v5)) (l6 : ai_ld 6 lv = some (.int v6)) (l7 : ai_ld 7 lv = some (.int v7)) (hh : fX9_leastRound_85 n h v0 v1 v2 v3 v4 v5 v6 v7 = some q) : bi_go 2 tX9_leastRound n (fI n q) 85 lv [] h := by
  unfold fX9_leastRound_85 at hh
  refine go_al (pc := 85) rfl l0 ?_
  obtain ⟨x1, ex1, hh⟩ := bi_bd hh
  refine go_gfR (pc := 86) rfl ex1 ?_
  refine go_al (pc := 89) rfl l2 ?_
  obtain ⟨x2, ex2, hh⟩ := bi_bd hh
  refine go_gfR (pc := 90) rfl ex2 ?_
  refine go_il (pc := 93) rfl l3 ?_
  obtain ⟨x3, ex3, hh⟩ := bi_bd hh
  refine go_iald (pc := 94) rfl ex3 ?_
  refine go_il (pc := 95) rfl l7 ?_
  obtain ⟨h4, eh4, hh⟩ := bi_bd hh
  refine go_iast (pc := 97) rfl eh4 ?_
  refine go_pi (pc := 98) rfl ?_
  refine go_is (pc := 99) rfl ?_
  exact sX9_leastRound_101  _ _ _ _ _ _ _ _ _ _ (bi_k1 l0 rfl rfl) (bi_k1 l1 rfl rfl) (bi_k1 l4 rfl rfl) (bi_k1 l5 rfl rfl) (bi_k1 l6 rfl rfl) (bi_k1 l7 rfl rfl) bi_e1 hh
def fX9_leastRound_53b (n : Nat) (r53 : ai_H → Nat → Nat → Nat → Int32 → Int32 → Int32 → Int32 → Int32 → Int32 → Int32 → Option (Int32 × ai_H)) (h : ai_H) (v0 : Nat) (v1 : Nat) (v2 : Nat) (v3 : Int32) (v4 : Int32) (v5 : Int32) (v6 : Int32) (v7 : Int32) (v8 : Int32) (v9 : Int32) : Option (Int32 × ai_H) :=
  if v8 ≤ v9 then (
    fX9_leastRound_85 n h v0 v1 v2 v3 v4 v5 v6 v7)
  else (
    (pR n h v0 9 1).bind fun x1 =>
    (lA n h x1).bind fun x2 =>
    if x2 ≤ v9 then (
      fX9_leastRound_85 n h v0 v1 v2 v3 v4 v5 v6 v7)
    else (
      (pR n h v0 9 1).bind fun x3 =>
      (wX 1 (fun x => x) n h x3 v9 (1000000 : Int32)).bind fun h4 =>
      r53 h4 v0 v1 v2 v3 v4 v5 v6 v7 v8 (v9 + 1)))
theorem sX9_leastRound_53b {n : Nat} {r53 : ai_H → Nat → Nat → Nat → Int32 → Int32 → Int32 → Int32 → Int32 → Int32 → Int32 → Option (Int32 × ai_H)} {q : Int32 × ai_H} {h : ai_H} {v0 : Nat} {v1 : Nat} {v2 : Nat} {v3 : Int32} {v4 : Int32} {v5 : Int32} {v6 : Int32} {v7 : Int32} {v8 : Int32} {v9 : Int32} {lv : ai_L} (R53 : ∀ (h : ai_H) (v0 : Nat) (v1 : Nat) (v2 : Nat) (v3 : Int32) (v4 : Int32) (v5 : Int32) (v6 : Int32) (v7 : Int32) (v8 : Int32) (v9 : Int32) (lv : ai_L), ai_ld 0 lv = some (.ref v0) → ai_ld 1 lv = some (.ref v1) → ai_ld 2 lv = some (.ref v2) → ai_ld 3 lv = some (.int v3) → ai_ld 4 lv = some (.int v4) → ai_ld 5 lv = some (.int v5) → ai_ld 6 lv = some (.int v6) → ai_ld 7 lv = some (.int v7) → ai_ld 8 lv = some (.int v8) → ai_ld 9 lv = some (.int v9) → r53 h v0 v1 v2 v3 v4 v5 v6 v7 v8 v9 = some q → bi_go 2 tX9_leastRound n (fI n q) 53 lv [] h) (l0 : ai_ld 0 lv = some (.ref v0)) (l1 : ai_ld 1 lv = some (.ref v1)) (l2 : ai_ld 2 lv = some (.ref v2)) (l3 : ai_ld 3 lv = some (.int v3)) (l4 : ai_ld 4 lv = some (.int v4)) (l5 : ai_ld 5 lv = some (.int v5)) (l6 : ai_ld 6 lv = some (.int v6)) (l7 : ai_ld 7 lv = some (.int v7)) (l8 : ai_ld 8 lv = some (.int v8)) (l9 : ai_ld 9 lv = some (.int v9)) (hh : fX9_leastRound_53b n r53 h v0 v1 v2 v3 v4 v5 v6 v7 v8 v9 = some q) : bi_go 2 tX9_leastRound n (fI n q) 53 lv [] h := by
  unfold fX9_leastRound_53b at hh
  refine go_il (pc := 53) rfl l9 ?_
  refine go_il (pc := 55) rfl l8 ?_
  refine bi_ite hh (fun hc hh => ?_) (fun hc hh => ?_)
  · refine go_cmpgeT (pc := 57) rfl hc ?_
    exact sX9_leastRound_85  l0 l1 l2 l3 l4 l5 l6 l7 hh
  · refine go_cmpgeF (pc := 57) rfl hc ?_
    refine go_il (pc := 60) rfl l9 ?_
    refine go_al (pc := 62) rfl l0 ?_
    obtain ⟨x1, ex1, hh⟩ := bi_bd hh
    refine go_gfR (pc := 63) rfl ex1 ?_
    obtain ⟨x2, ex2, hh⟩ := bi_bd hh
    refine go_len (pc := 66) rfl ex2 ?_
    refine bi_ite hh (fun hc hh => ?_) (fun hc hh => ?_)
    · refine go_cmpgeT (pc := 67) rfl hc ?_
      exact sX9_leastRound_85  l0 l1 l2 l3 l4 l5 l6 l7 hh
    · refine go_cmpgeF (pc := 67) rfl hc ?_
      refine go_al (pc := 70) rfl l0 ?_
      obtain ⟨x3, ex3, hh⟩ := bi_bd hh
      refine go_gfR (pc := 71) rfl ex3 ?_
      refine go_il (pc := 74) rfl l9 ?_
      refine go_pi (pc := 76) rfl ?_
      obtain ⟨h4, eh4, hh⟩ := bi_bd hh
      refine go_iast (pc := 78) rfl eh4 ?_
      refine go_inc (pc := 79) rfl l9 ?_
      refine go_goto (pc := 82) rfl ?_
      exact R53 _ _ _ _ _ _ _ _ _ _ _ _ (bi_k1 l0 rfl rfl) (bi_k1 l1 rfl rfl) (bi_k1 l2 rfl rfl) (bi_k1 l3 rfl rfl) (bi_k1 l4 rfl rfl) (bi_k1 l5 rfl rfl) (bi_k1 l6 rfl rfl) (bi_k1 l7 rfl rfl) (bi_k1 l8 rfl rfl) bi_e1 hh
def fX9_leastRound_53 (n : Nat) : Nat → ai_H → Nat → Nat → Nat → Int32 → Int32 → Int32 → Int32 → Int32 → Int32 → Int32 → Option (Int32 × ai_H)
  | 0 => fun _ _ _ _ _ _ _ _ _ _ _ => none
  | k + 1 => fun h v0 v1 v2 v3 v4 v5 v6 v7 v8 v9 => fX9_leastRound_53b n (fX9_leastRound_53 n k) h v0 v1 v2 v3 v4 v5 v6 v7 v8 v9
theorem sX9_leastRound_53 {n : Nat} {q : Int32 × ai_H} : ∀ (k : Nat) (h : ai_H) (v0 : Nat) (v1 : Nat) (v2 : Nat) (v3 : Int32) (v4 : Int32) (v5 : Int32) (v6 : Int32) (v7 : Int32) (v8 : Int32) (v9 : Int32) (lv : ai_L), ai_ld 0 lv = some (.ref v0) → ai_ld 1 lv = some (.ref v1) → ai_ld 2 lv = some (.ref v2) → ai_ld 3 lv = some (.int v3) → ai_ld 4 lv = some (.int v4) → ai_ld 5 lv = some (.int v5) → ai_ld 6 lv = some (.int v6) → ai_ld 7 lv = some (.int v7) → ai_ld 8 lv = some (.int v8) → ai_ld 9 lv = some (.int v9) → fX9_leastRound_53 n k h v0 v1 v2 v3 v4 v5 v6 v7 v8 v9 = some q → bi_go 2 tX9_leastRound n (fI n q) 53 lv [] h
  | 0 => fun _ _ _ _ _ _ _ _ _ _ _ _ _ _ _ _ _ _ _ _ _ _ hh => by cases hh
  | k + 1 => fun h v0 v1 v2 v3 v4 v5 v6 v7 v8 v9 lv l0 l1 l2 l3 l4 l5 l6 l7 l8 l9 hh => sX9_leastRound_53b  (sX9_leastRound_53  k) l0 l1 l2 l3 l4 l5 l6 l7 l8 l9 hh
def fX9_leastRound_39 (n : Nat) (h : ai_H) (v0 : Nat) (v1 : Nat) (v2 : Nat) (v3 : Int32) (v4 : Int32) (v5 : Int32) (v6 : Int32) (s0 : Int32) : Option (Int32 × ai_H) :=
  fX9_leastRound_53 n bi_K h v0 v1 v2 v3 v4 v5 v6 s0 ((7 : Int32) * (v4 + (1 : Int32))) (0 : Int32)
theorem sX9_leastRound_39 {n : Nat} {q : Int32 × ai_H} {h : ai_H} {v0 : Nat} {v1 : Nat} {v2 : Nat} {v3 : Int32} {v4 : Int32} {v5 : Int32} {v6 : Int32} {s0 : Int32} {lv : ai_L} (l0 : ai_ld 0 lv = some (.ref v0)) (l1 : ai_ld 1 lv = some (.ref v1)) (l2 : ai_ld 2 lv = some (.ref v2)) (l3 : ai_ld 3 lv = some (.int v3)) (l4 : ai_ld 4 lv = some (.int v4)) (l5 : ai_ld 5 lv = some (.int v5)) (l6 : ai_ld 6 lv = some (.int v6)) (hh : fX9_leastRound_39 n h v0 v1 v2 v3 v4 v5 v6 s0 = some q) : bi_go 2 tX9_leastRound n (fI n q) 39 lv [.int s0] h := by
  unfold fX9_leastRound_39 at hh
  refine go_is (pc := 39) rfl ?_
  refine go_pi (pc := 41) rfl ?_
  refine go_il (pc := 43) rfl (bi_k1 l4 rfl rfl) ?_
  refine go_pi (pc := 45) rfl ?_
  refine go_iadd (pc := 46) rfl ?_
  refine go_imul (pc := 47) rfl ?_
  refine go_is (pc := 48) rfl ?_
  refine go_pi (pc := 50) rfl ?_
  refine go_is (pc := 51) rfl ?_
  exact sX9_leastRound_53  _ _ _ _ _ _ _ _ _ _ _ _ _ (bi_k1 (bi_k1 (bi_k1 l0 rfl rfl) rfl rfl) rfl rfl) (bi_k1 (bi_k1 (bi_k1 l1 rfl rfl) rfl rfl) rfl rfl) (bi_k1 (bi_k1 (bi_k1 l2 rfl rfl) rfl rfl) rfl rfl) (bi_k1 (bi_k1 (bi_k1 l3 rfl rfl) rfl rfl) rfl rfl) (bi_k1 (bi_k1 (bi_k1 l4 rfl rfl) rfl rfl) rfl rfl) (bi_k1 (bi_k1 (bi_k1 l5 rfl rfl) rfl rfl) rfl rfl) (bi_k1 (bi_k1 (bi_k1 l6 rfl rfl) rfl rfl) rfl rfl) (bi_k1 (bi_k1 bi_e1 rfl rfl) rfl rfl) (bi_k1 bi_e1 rfl rfl) bi_e1 hh
def fX9_leastRound (n : Nat) (h : ai_H) (a0 : Nat) (a1 : Nat) (a2 : Nat) (a3 : Int32) (a4 : Int32) (a5 : Int32) : Option (Int32 × ai_H) :=
  (kO n h a0 9).bind fun _ =>
  (fX9_openFor n h a1 a2 a3).bind fun q1 =>
  if (a4 &&& (q1.1 ^^^ (-1 : Int32))) = 0 then (
    if a5 = 0 then (
      fX9_leastRound_39 n q1.2 a0 a1 a2 a3 a4 a5 q1.1 (0 : Int32))
    else (
      (pR n q1.2 a1 8 2).bind fun x2 =>
      (fX6_cell n q1.2 x2 a3 (2 : Int32)).bind fun q3 =>
      fX9_leastRound_39 n q3.2 a0 a1 a2 a3 a4 a5 q1.1 q3.1))
  else (
    some ((-2 : Int32), q1.2))
theorem gX9_leastRound {n : Nat} {h : ai_H} {a0 : Nat} {a1 : Nat} {a2 : Nat} {a3 : Int32} {a4 : Int32} {a5 : Int32} {q : Int32 × ai_H} (hh : fX9_leastRound n h a0 a1 a2 a3 a4 a5 = some q) : kO n h a0 9 = some () := by
  obtain ⟨_, e, -⟩ := bi_bd hh
  exact e
theorem sX9_leastRound {n : Nat} {h : ai_H} {a0 : Nat} {a1 : Nat} {a2 : Nat} {a3 : Int32} {a4 : Int32} {a5 : Int32} {q : Int32 × ai_H} (hh : fX9_leastRound n h a0 a1 a2 a3 a4 a5 = some q) : bi_sp 3 83 [.ref a0, .ref a1, .ref a2, .int a3, .int a4, .int a5] h n (fI n q) := by
  refine bi_en (D := 2) (T := tX9_leastRound) (funext fun pc => rfl) rfl (Nat.le_of_ble_eq_true rfl) ?_
  unfold fX9_leastRound at hh
  obtain ⟨_, eO, hh⟩ := bi_bd hh
  refine go_al (pc := 0) rfl (rfl : ai_ld 1 (lv_args 0 [.ref a0, .ref a1, .ref a2, .int a3, .int a4, .int a5]) = some (.ref a1)) ?_
  refine go_al (pc := 1) rfl (rfl : ai_ld 2 (lv_args 0 [.ref a0, .ref a1, .ref a2, .int a3, .int a4, .int a5]) = some (.ref a2)) ?_
  refine go_il (pc := 2) rfl (rfl : ai_ld 3 (lv_args 0 [.ref a0, .ref a1, .ref a2, .int a3, .int a4, .int a5]) = some (.int a3)) ?_
  obtain ⟨q1, eq1, hh⟩ := bi_bd hh
  refine go_iSI (pc := 3) rfl (Nat.le_of_ble_eq_true rfl) rfl (Nat.le_of_ble_eq_true rfl) (bi_up (sX9_openFor eq1) (Nat.le_of_ble_eq_true rfl)) ?_
  refine go_is (pc := 6) rfl ?_
  refine go_il (pc := 8) rfl (bi_k1 (rfl : ai_ld 4 (lv_args 0 [.ref a0, .ref a1, .ref a2, .int a3, .int a4, .int a5]) = some (.int a4)) rfl rfl) ?_
  refine go_il (pc := 10) rfl bi_e1 ?_
  refine go_pi (pc := 12) rfl ?_
  refine go_ixor (pc := 13) rfl ?_
  refine go_iand (pc := 14) rfl ?_
  refine bi_ite hh (fun hc hh => ?_) (fun hc hh => ?_)
  · refine go_ifeqT (pc := 15) rfl hc ?_
    refine go_il (pc := 21) rfl (bi_k1 (rfl : ai_ld 5 (lv_args 0 [.ref a0, .ref a1, .ref a2, .int a3, .int a4, .int a5]) = some (.int a5)) rfl rfl) ?_
    refine bi_ite hh (fun hc hh => ?_) (fun hc hh => ?_)
    · refine go_ifeqT (pc := 23) rfl hc ?_
      refine go_pi (pc := 38) rfl ?_
      exact sX9_leastRound_39  (bi_k1 (rfl : ai_ld 0 (lv_args 0 [.ref a0, .ref a1, .ref a2, .int a3, .int a4, .int a5]) = some (.ref a0)) rfl rfl) (bi_k1 (rfl : ai_ld 1 (lv_args 0 [.ref a0, .ref a1, .ref a2, .int a3, .int a4, .int a5]) = some (.ref a1)) rfl rfl) (bi_k1 (rfl : ai_ld 2 (lv_args 0 [.ref a0, .ref a1, .ref a2, .int a3, .int a4, .int a5]) = some (.ref a2)) rfl rfl) (bi_k1 (rfl : ai_ld 3 (lv_args 0 [.ref a0, .ref a1, .ref a2, .int a3, .int a4, .int a5]) = some (.int a3)) rfl rfl) (bi_k1 (rfl : ai_ld 4 (lv_args 0 [.ref a0, .ref a1, .ref a2, .int a3, .int a4, .int a5]) = some (.int a4)) rfl rfl) (bi_k1 (rfl : ai_ld 5 (lv_args 0 [.ref a0, .ref a1, .ref a2, .int a3, .int a4, .int a5]) = some (.int a5)) rfl rfl) bi_e1 hh
    · refine go_ifeqF (pc := 23) rfl hc ?_
      refine go_al (pc := 26) rfl (bi_k1 (rfl : ai_ld 1 (lv_args 0 [.ref a0, .ref a1, .ref a2, .int a3, .int a4, .int a5]) = some (.ref a1)) rfl rfl) ?_
      obtain ⟨x2, ex2, hh⟩ := bi_bd hh
      refine go_gfR (pc := 27) rfl ex2 ?_
      refine go_il (pc := 30) rfl (bi_k1 (rfl : ai_ld 3 (lv_args 0 [.ref a0, .ref a1, .ref a2, .int a3, .int a4, .int a5]) = some (.int a3)) rfl rfl) ?_
      refine go_pi (pc := 31) rfl ?_
      obtain ⟨q3, eq3, hh⟩ := bi_bd hh
      refine go_ivI (pc := 32) rfl rfl (gX6_cell eq3) (Nat.le_of_ble_eq_true rfl) (bi_up (sX6_cell eq3) (Nat.le_of_ble_eq_true rfl)) ?_
      refine go_goto (pc := 35) rfl ?_
      exact sX9_leastRound_39  (bi_k1 (rfl : ai_ld 0 (lv_args 0 [.ref a0, .ref a1, .ref a2, .int a3, .int a4, .int a5]) = some (.ref a0)) rfl rfl) (bi_k1 (rfl : ai_ld 1 (lv_args 0 [.ref a0, .ref a1, .ref a2, .int a3, .int a4, .int a5]) = some (.ref a1)) rfl rfl) (bi_k1 (rfl : ai_ld 2 (lv_args 0 [.ref a0, .ref a1, .ref a2, .int a3, .int a4, .int a5]) = some (.ref a2)) rfl rfl) (bi_k1 (rfl : ai_ld 3 (lv_args 0 [.ref a0, .ref a1, .ref a2, .int a3, .int a4, .int a5]) = some (.int a3)) rfl rfl) (bi_k1 (rfl : ai_ld 4 (lv_args 0 [.ref a0, .ref a1, .ref a2, .int a3, .int a4, .int a5]) = some (.int a4)) rfl rfl) (bi_k1 (rfl : ai_ld 5 (lv_args 0 [.ref a0, .ref a1, .ref a2, .int a3, .int a4, .int a5]) = some (.int a5)) rfl rfl) bi_e1 hh
  · refine go_ifeqF (pc := 15) rfl hc ?_
    refine go_pi (pc := 18) rfl ?_
    exact go_ri (pc := 20) rfl hh
