/-! ===== methods as functions, part 12 ===== -/
def fX11_plain_80b (n : Nat) (r80 : ai_H → Nat → Int32 → Option (Unit × ai_H)) (h : ai_H) (v0 : Nat) (v1 : Int32) : Option (Unit × ai_H) :=
  if (6 : Int32) ≤ v1 then (
    some ((), h))
  else (
    (pR n h v0 11 43).bind fun x1 =>
    (wB n h x1 v1 (0 : Int32)).bind fun h2 =>
    r80 h2 v0 (v1 + 1))
theorem sX11_plain_80b {n : Nat} {r80 : ai_H → Nat → Int32 → Option (Unit × ai_H)} {q : Unit × ai_H} {h : ai_H} {v0 : Nat} {v1 : Int32} {lv : ai_L} (R80 : ∀ (h : ai_H) (v0 : Nat) (v1 : Int32) (lv : ai_L), ai_ld 0 lv = some (.ref v0) → ai_ld 1 lv = some (.int v1) → r80 h v0 v1 = some q → bi_go 0 tX11_plain n (fV n q) 80 lv [] h) (l0 : ai_ld 0 lv = some (.ref v0)) (l1 : ai_ld 1 lv = some (.int v1)) (hh : fX11_plain_80b n r80 h v0 v1 = some q) : bi_go 0 tX11_plain n (fV n q) 80 lv [] h := by
  unfold fX11_plain_80b at hh
  refine go_il (pc := 80) rfl l1 ?_
  refine go_pi (pc := 81) rfl ?_
  refine bi_ite hh (fun hc hh => ?_) (fun hc hh => ?_)
  · refine go_cmpgeT (pc := 83) rfl hc ?_
    exact go_rv (pc := 99) rfl hh
  · refine go_cmpgeF (pc := 83) rfl hc ?_
    refine go_al (pc := 86) rfl l0 ?_
    obtain ⟨x1, ex1, hh⟩ := bi_bd hh
    refine go_gfR (pc := 87) rfl ex1 ?_
    refine go_il (pc := 90) rfl l1 ?_
    refine go_pi (pc := 91) rfl ?_
    obtain ⟨h2, eh2, hh⟩ := bi_bd hh
    refine go_bast (pc := 92) rfl eh2 ?_
    refine go_inc (pc := 93) rfl l1 ?_
    refine go_goto (pc := 96) rfl ?_
    exact R80 _ _ _ _ (bi_k1 l0 rfl rfl) bi_e1 hh
def fX11_plain_80 (n : Nat) : Nat → ai_H → Nat → Int32 → Option (Unit × ai_H)
  | 0 => fun _ _ _ => none
  | k + 1 => fun h v0 v1 => fX11_plain_80b n (fX11_plain_80 n k) h v0 v1
theorem sX11_plain_80 {n : Nat} {q : Unit × ai_H} : ∀ (k : Nat) (h : ai_H) (v0 : Nat) (v1 : Int32) (lv : ai_L), ai_ld 0 lv = some (.ref v0) → ai_ld 1 lv = some (.int v1) → fX11_plain_80 n k h v0 v1 = some q → bi_go 0 tX11_plain n (fV n q) 80 lv [] h
  | 0 => fun _ _ _ _ _ _ hh => by cases hh
  | k + 1 => fun h v0 v1 lv l0 l1 hh => sX11_plain_80b  (sX11_plain_80  k) l0 l1 hh
def fX11_plain_37b (n : Nat) (r37 : ai_H → Nat → Int32 → Option (Unit × ai_H)) (h : ai_H) (v0 : Nat) (v1 : Int32) : Option (Unit × ai_H) :=
  if (3 : Int32) ≤ v1 then (
    (pR n h v0 11 25).bind fun x1 =>
    (wX 1 (fun x => x) n h x1 (3 : Int32) (366 : Int32)).bind fun h2 =>
    (pR n h2 v0 11 25).bind fun x3 =>
    (wX 1 (fun x => x) n h2 x3 (4 : Int32) (0 : Int32)).bind fun h4 =>
    (pR n h4 v0 11 25).bind fun x5 =>
    (wX 1 (fun x => x) n h4 x5 (5 : Int32) (0 : Int32)).bind fun h6 =>
    fX11_plain_80 n bi_K h6 v0 (3 : Int32))
  else (
    (pR n h v0 11 24).bind fun x7 =>
    (wB n h x7 v1 (0 : Int32)).bind fun h8 =>
    r37 h8 v0 (v1 + 1))
theorem sX11_plain_37b {n : Nat} {r37 : ai_H → Nat → Int32 → Option (Unit × ai_H)} {q : Unit × ai_H} {h : ai_H} {v0 : Nat} {v1 : Int32} {lv : ai_L} (R37 : ∀ (h : ai_H) (v0 : Nat) (v1 : Int32) (lv : ai_L), ai_ld 0 lv = some (.ref v0) → ai_ld 1 lv = some (.int v1) → r37 h v0 v1 = some q → bi_go 0 tX11_plain n (fV n q) 37 lv [] h) (l0 : ai_ld 0 lv = some (.ref v0)) (l1 : ai_ld 1 lv = some (.int v1)) (hh : fX11_plain_37b n r37 h v0 v1 = some q) : bi_go 0 tX11_plain n (fV n q) 37 lv [] h := by
  unfold fX11_plain_37b at hh
  refine go_il (pc := 37) rfl l1 ?_
  refine go_pi (pc := 38) rfl ?_
  refine bi_ite hh (fun hc hh => ?_) (fun hc hh => ?_)
  · refine go_cmpgeT (pc := 39) rfl hc ?_
    refine go_al (pc := 55) rfl l0 ?_
    obtain ⟨x1, ex1, hh⟩ := bi_bd hh
    refine go_gfR (pc := 56) rfl ex1 ?_
    refine go_pi (pc := 59) rfl ?_
    refine go_pi (pc := 60) rfl ?_
    obtain ⟨h2, eh2, hh⟩ := bi_bd hh
    refine go_iast (pc := 63) rfl eh2 ?_
    refine go_al (pc := 64) rfl l0 ?_
    obtain ⟨x3, ex3, hh⟩ := bi_bd hh
    refine go_gfR (pc := 65) rfl ex3 ?_
    refine go_pi (pc := 68) rfl ?_
    refine go_pi (pc := 69) rfl ?_
    obtain ⟨h4, eh4, hh⟩ := bi_bd hh
    refine go_iast (pc := 70) rfl eh4 ?_
    refine go_al (pc := 71) rfl l0 ?_
    obtain ⟨x5, ex5, hh⟩ := bi_bd hh
    refine go_gfR (pc := 72) rfl ex5 ?_
    refine go_pi (pc := 75) rfl ?_
    refine go_pi (pc := 76) rfl ?_
    obtain ⟨h6, eh6, hh⟩ := bi_bd hh
    refine go_iast (pc := 77) rfl eh6 ?_
    refine go_pi (pc := 78) rfl ?_
    refine go_is (pc := 79) rfl ?_
    exact sX11_plain_80  _ _ _ _ _ (bi_k1 l0 rfl rfl) bi_e1 hh
  · refine go_cmpgeF (pc := 39) rfl hc ?_
    refine go_al (pc := 42) rfl l0 ?_
    obtain ⟨x7, ex7, hh⟩ := bi_bd hh
    refine go_gfR (pc := 43) rfl ex7 ?_
    refine go_il (pc := 46) rfl l1 ?_
    refine go_pi (pc := 47) rfl ?_
    obtain ⟨h8, eh8, hh⟩ := bi_bd hh
    refine go_bast (pc := 48) rfl eh8 ?_
    refine go_inc (pc := 49) rfl l1 ?_
    refine go_goto (pc := 52) rfl ?_
    exact R37 _ _ _ _ (bi_k1 l0 rfl rfl) bi_e1 hh
def fX11_plain_37 (n : Nat) : Nat → ai_H → Nat → Int32 → Option (Unit × ai_H)
  | 0 => fun _ _ _ => none
  | k + 1 => fun h v0 v1 => fX11_plain_37b n (fX11_plain_37 n k) h v0 v1
theorem sX11_plain_37 {n : Nat} {q : Unit × ai_H} : ∀ (k : Nat) (h : ai_H) (v0 : Nat) (v1 : Int32) (lv : ai_L), ai_ld 0 lv = some (.ref v0) → ai_ld 1 lv = some (.int v1) → fX11_plain_37 n k h v0 v1 = some q → bi_go 0 tX11_plain n (fV n q) 37 lv [] h
  | 0 => fun _ _ _ _ _ _ hh => by cases hh
  | k + 1 => fun h v0 v1 lv l0 l1 hh => sX11_plain_37b  (sX11_plain_37  k) l0 l1 hh
def fX11_plain (n : Nat) (h : ai_H) (a0 : Nat) : Option (Unit × ai_H) :=
  (kO n h a0 11).bind fun _ =>
  (sF n h a0 11 18 (.int) (.int (0 : Int32))).bind fun h1 =>
  (sF n h1 a0 11 19 (.int) (.int (0 : Int32))).bind fun h2 =>
  (sF n h2 a0 11 20 (.int) (.int (0 : Int32))).bind fun h3 =>
  (sF n h3 a0 11 21 (.int) (.int (0 : Int32))).bind fun h4 =>
  (sF n h4 a0 11 22 (.int) (.int (0 : Int32))).bind fun h5 =>
  (sF n h5 a0 11 23 (.int) (.int (0 : Int32))).bind fun h6 =>
  (sF n h6 a0 11 54 (.int) (.int (0 : Int32))).bind fun h7 =>
  fX11_plain_37 n bi_K h7 a0 (0 : Int32)
theorem gX11_plain {n : Nat} {h : ai_H} {a0 : Nat} {q : Unit × ai_H} (hh : fX11_plain n h a0 = some q) : kO n h a0 11 = some () := by
  obtain ⟨_, e, -⟩ := bi_bd hh
  exact e
theorem sX11_plain {n : Nat} {h : ai_H} {a0 : Nat} {q : Unit × ai_H} (hh : fX11_plain n h a0 = some q) : bi_sp 1 155 [.ref a0] h n (fV n q) := by
  refine bi_en (D := 0) (T := tX11_plain) (funext fun pc => rfl) rfl (Nat.le_of_ble_eq_true rfl) ?_
  unfold fX11_plain at hh
  obtain ⟨_, eO, hh⟩ := bi_bd hh
  refine go_al (pc := 0) rfl (rfl : ai_ld 0 (lv_args 0 [.ref a0]) = some (.ref a0)) ?_
  refine go_pi (pc := 1) rfl ?_
  obtain ⟨h1, eh1, hh⟩ := bi_bd hh
  refine go_pf (pc := 2) rfl eh1 ?_
  refine go_al (pc := 5) rfl (rfl : ai_ld 0 (lv_args 0 [.ref a0]) = some (.ref a0)) ?_
  refine go_pi (pc := 6) rfl ?_
  obtain ⟨h2, eh2, hh⟩ := bi_bd hh
  refine go_pf (pc := 7) rfl eh2 ?_
  refine go_al (pc := 10) rfl (rfl : ai_ld 0 (lv_args 0 [.ref a0]) = some (.ref a0)) ?_
  refine go_pi (pc := 11) rfl ?_
  obtain ⟨h3, eh3, hh⟩ := bi_bd hh
  refine go_pf (pc := 12) rfl eh3 ?_
  refine go_al (pc := 15) rfl (rfl : ai_ld 0 (lv_args 0 [.ref a0]) = some (.ref a0)) ?_
  refine go_pi (pc := 16) rfl ?_
  obtain ⟨h4, eh4, hh⟩ := bi_bd hh
  refine go_pf (pc := 17) rfl eh4 ?_
  refine go_al (pc := 20) rfl (rfl : ai_ld 0 (lv_args 0 [.ref a0]) = some (.ref a0)) ?_
  refine go_pi (pc := 21) rfl ?_
  obtain ⟨h5, eh5, hh⟩ := bi_bd hh
  refine go_pf (pc := 22) rfl eh5 ?_
  refine go_al (pc := 25) rfl (rfl : ai_ld 0 (lv_args 0 [.ref a0]) = some (.ref a0)) ?_
  refine go_pi (pc := 26) rfl ?_
  obtain ⟨h6, eh6, hh⟩ := bi_bd hh
  refine go_pf (pc := 27) rfl eh6 ?_
  refine go_al (pc := 30) rfl (rfl : ai_ld 0 (lv_args 0 [.ref a0]) = some (.ref a0)) ?_
  refine go_pi (pc := 31) rfl ?_
  obtain ⟨h7, eh7, hh⟩ := bi_bd hh
  refine go_pf (pc := 32) rfl eh7 ?_
  refine go_pi (pc := 35) rfl ?_
  refine go_is (pc := 36) rfl ?_
  exact sX11_plain_37  _ _ _ _ _ (bi_k1 (rfl : ai_ld 0 (lv_args 0 [.ref a0]) = some (.ref a0)) rfl rfl) bi_e1 hh
def fX11_copies_2b (n : Nat) (r2 : ai_H → Nat → Int32 → Int32 → Option (Unit × ai_H)) (h : ai_H) (v0 : Nat) (v1 : Int32) (v2 : Int32) : Option (Unit × ai_H) :=
  if v1 ≤ v2 then (
    some ((), h))
  else (
    (gX 1 n h v0 (v1 + v2)).bind fun x1 =>
    (wX 1 (fun x => x) n h v0 v2 x1).bind fun h2 =>
    r2 h2 v0 v1 (v2 + 1))
theorem sX11_copies_2b {n : Nat} {r2 : ai_H → Nat → Int32 → Int32 → Option (Unit × ai_H)} {q : Unit × ai_H} {h : ai_H} {v0 : Nat} {v1 : Int32} {v2 : Int32} {lv : ai_L} (R2 : ∀ (h : ai_H) (v0 : Nat) (v1 : Int32) (v2 : Int32) (lv : ai_L), ai_ld 0 lv = some (.ref v0) → ai_ld 1 lv = some (.int v1) → ai_ld 2 lv = some (.int v2) → r2 h v0 v1 v2 = some q → bi_go 0 tX11_copies n (fV n q) 2 lv [] h) (l0 : ai_ld 0 lv = some (.ref v0)) (l1 : ai_ld 1 lv = some (.int v1)) (l2 : ai_ld 2 lv = some (.int v2)) (hh : fX11_copies_2b n r2 h v0 v1 v2 = some q) : bi_go 0 tX11_copies n (fV n q) 2 lv [] h := by
  unfold fX11_copies_2b at hh
  refine go_il (pc := 2) rfl l2 ?_
  refine go_il (pc := 3) rfl l1 ?_
  refine bi_ite hh (fun hc hh => ?_) (fun hc hh => ?_)
  · refine go_cmpgeT (pc := 4) rfl hc ?_
    exact go_rv (pc := 21) rfl hh
  · refine go_cmpgeF (pc := 4) rfl hc ?_
    refine go_al (pc := 7) rfl l0 ?_
    refine go_il (pc := 8) rfl l2 ?_
    refine go_al (pc := 9) rfl l0 ?_
    refine go_il (pc := 10) rfl l1 ?_
    refine go_il (pc := 11) rfl l2 ?_
    refine go_iadd (pc := 12) rfl ?_
    obtain ⟨x1, ex1, hh⟩ := bi_bd hh
    refine go_iald (pc := 13) rfl ex1 ?_
    obtain ⟨h2, eh2, hh⟩ := bi_bd hh
    refine go_iast (pc := 14) rfl eh2 ?_
    refine go_inc (pc := 15) rfl l2 ?_
    refine go_goto (pc := 18) rfl ?_
    exact R2 _ _ _ _ _ (bi_k1 l0 rfl rfl) (bi_k1 l1 rfl rfl) bi_e1 hh
def fX11_copies_2 (n : Nat) : Nat → ai_H → Nat → Int32 → Int32 → Option (Unit × ai_H)
  | 0 => fun _ _ _ _ => none
  | k + 1 => fun h v0 v1 v2 => fX11_copies_2b n (fX11_copies_2 n k) h v0 v1 v2
theorem sX11_copies_2 {n : Nat} {q : Unit × ai_H} : ∀ (k : Nat) (h : ai_H) (v0 : Nat) (v1 : Int32) (v2 : Int32) (lv : ai_L), ai_ld 0 lv = some (.ref v0) → ai_ld 1 lv = some (.int v1) → ai_ld 2 lv = some (.int v2) → fX11_copies_2 n k h v0 v1 v2 = some q → bi_go 0 tX11_copies n (fV n q) 2 lv [] h
  | 0 => fun _ _ _ _ _ _ _ _ hh => by cases hh
  | k + 1 => fun h v0 v1 v2 lv l0 l1 l2 hh => sX11_copies_2b  (sX11_copies_2  k) l0 l1 l2 hh
def fX11_copies (n : Nat) (h : ai_H) (a0 : Nat) (a1 : Int32) : Option (Unit × ai_H) :=
  fX11_copies_2 n bi_K h a0 a1 (0 : Int32)
theorem sX11_copies {n : Nat} {h : ai_H} {a0 : Nat} {a1 : Int32} {q : Unit × ai_H} (hh : fX11_copies n h a0 a1 = some q) : bi_sp 1 156 [.ref a0, .int a1] h n (fV n q) := by
  refine bi_en (D := 0) (T := tX11_copies) (funext fun pc => rfl) rfl (Nat.le_of_ble_eq_true rfl) ?_
  unfold fX11_copies at hh
  refine go_pi (pc := 0) rfl ?_
  refine go_is (pc := 1) rfl ?_
  exact sX11_copies_2  _ _ _ _ _ _ (bi_k1 (rfl : ai_ld 0 (lv_args 0 [.ref a0, .int a1]) = some (.ref a0)) rfl rfl) (bi_k1 (rfl : ai_ld 1 (lv_args 0 [.ref a0, .int a1]) = some (.int a1)) rfl rfl) bi_e1 hh
def fX11_atFirst_47b (n : Nat) (r47 : ai_H → Nat → Int32 → Int32 → Option (Unit × ai_H)) (h : ai_H) (v0 : Nat) (v1 : Int32) (v2 : Int32) : Option (Unit × ai_H) :=
  if (9 : Int32) ≤ v2 then (
    (pR n h v0 11 65).bind fun x1 =>
    (wX 1 (fun x => x) n h x1 v1 (0 : Int32)).bind fun h2 =>
    (pR n h2 v0 11 66).bind fun x3 =>
    (wX 1 (fun x => x) n h2 x3 v1 (0 : Int32)).bind fun h4 =>
    (pR n h4 v0 11 67).bind fun x5 =>
    (wX 1 (fun x => x) n h4 x5 v1 (0 : Int32)).bind fun h6 =>
    some ((), h6))
  else (
    (pR n h v0 11 62).bind fun x7 =>
    (pR n h v0 11 32).bind fun x8 =>
    (gX 1 n h x8 v2).bind fun x9 =>
    (wX 1 (fun x => x) n h x7 (((9 : Int32) * v1) + v2) x9).bind fun h10 =>
    (pR n h10 v0 11 63).bind fun x11 =>
    (wB n h10 x11 (((9 : Int32) * v1) + v2) (1 : Int32)).bind fun h12 =>
    (pR n h12 v0 11 64).bind fun x13 =>
    (wX 1 (fun x => x) n h12 x13 (((9 : Int32) * v1) + v2) (0 : Int32)).bind fun h14 =>
    r47 h14 v0 v1 (v2 + 1))
theorem sX11_atFirst_47b {n : Nat} {r47 : ai_H → Nat → Int32 → Int32 → Option (Unit × ai_H)} {q : Unit × ai_H} {h : ai_H} {v0 : Nat} {v1 : Int32} {v2 : Int32} {lv : ai_L} (R47 : ∀ (h : ai_H) (v0 : Nat) (v1 : Int32) (v2 : Int32) (lv : ai_L), ai_ld 0 lv = some (.ref v0) → ai_ld 1 lv = some (.int v1) → ai_ld 2 lv = some (.int v2) → r47 h v0 v1 v2 = some q → bi_go 0 tX11_atFirst n (fV n q) 47 lv [] h) (l0 : ai_ld 0 lv = some (.ref v0)) (l1 : ai_ld 1 lv = some (.int v1)) (l2 : ai_ld 2 lv = some (.int v2)) (hh : fX11_atFirst_47b n r47 h v0 v1 v2 = some q) : bi_go 0 tX11_atFirst n (fV n q) 47 lv [] h := by
  unfold fX11_atFirst_47b at hh
  refine go_il (pc := 47) rfl l2 ?_
  refine go_pi (pc := 48) rfl ?_
  refine bi_ite hh (fun hc hh => ?_) (fun hc hh => ?_)
  · refine go_cmpgeT (pc := 50) rfl hc ?_
    refine go_al (pc := 100) rfl l0 ?_
    obtain ⟨x1, ex1, hh⟩ := bi_bd hh
    refine go_gfR (pc := 101) rfl ex1 ?_
    refine go_il (pc := 104) rfl l1 ?_
    refine go_pi (pc := 105) rfl ?_
    obtain ⟨h2, eh2, hh⟩ := bi_bd hh
    refine go_iast (pc := 106) rfl eh2 ?_
    refine go_al (pc := 107) rfl l0 ?_
    obtain ⟨x3, ex3, hh⟩ := bi_bd hh
    refine go_gfR (pc := 108) rfl ex3 ?_
    refine go_il (pc := 111) rfl l1 ?_
    refine go_pi (pc := 112) rfl ?_
    obtain ⟨h4, eh4, hh⟩ := bi_bd hh
    refine go_iast (pc := 113) rfl eh4 ?_
    refine go_al (pc := 114) rfl l0 ?_
    obtain ⟨x5, ex5, hh⟩ := bi_bd hh
    refine go_gfR (pc := 115) rfl ex5 ?_
    refine go_il (pc := 118) rfl l1 ?_
    refine go_pi (pc := 119) rfl ?_
    obtain ⟨h6, eh6, hh⟩ := bi_bd hh
    refine go_iast (pc := 120) rfl eh6 ?_
    exact go_rv (pc := 121) rfl hh
  · refine go_cmpgeF (pc := 50) rfl hc ?_
    refine go_al (pc := 53) rfl l0 ?_
    obtain ⟨x7, ex7, hh⟩ := bi_bd hh
    refine go_gfR (pc := 54) rfl ex7 ?_
    refine go_pi (pc := 57) rfl ?_
    refine go_il (pc := 59) rfl l1 ?_
    refine go_imul (pc := 60) rfl ?_
    refine go_il (pc := 61) rfl l2 ?_
    refine go_iadd (pc := 62) rfl ?_
    refine go_al (pc := 63) rfl l0 ?_
    obtain ⟨x8, ex8, hh⟩ := bi_bd hh
    refine go_gfR (pc := 64) rfl ex8 ?_
    refine go_il (pc := 67) rfl l2 ?_
    obtain ⟨x9, ex9, hh⟩ := bi_bd hh
    refine go_iald (pc := 68) rfl ex9 ?_
    obtain ⟨h10, eh10, hh⟩ := bi_bd hh
    refine go_iast (pc := 69) rfl eh10 ?_
    refine go_al (pc := 70) rfl l0 ?_
    obtain ⟨x11, ex11, hh⟩ := bi_bd hh
    refine go_gfR (pc := 71) rfl ex11 ?_
    refine go_pi (pc := 74) rfl ?_
    refine go_il (pc := 76) rfl l1 ?_
    refine go_imul (pc := 77) rfl ?_
    refine go_il (pc := 78) rfl l2 ?_
    refine go_iadd (pc := 79) rfl ?_
    refine go_pi (pc := 80) rfl ?_
    obtain ⟨h12, eh12, hh⟩ := bi_bd hh
    refine go_bast (pc := 81) rfl eh12 ?_
    refine go_al (pc := 82) rfl l0 ?_
    obtain ⟨x13, ex13, hh⟩ := bi_bd hh
    refine go_gfR (pc := 83) rfl ex13 ?_
    refine go_pi (pc := 86) rfl ?_
    refine go_il (pc := 88) rfl l1 ?_
    refine go_imul (pc := 89) rfl ?_
    refine go_il (pc := 90) rfl l2 ?_
    refine go_iadd (pc := 91) rfl ?_
    refine go_pi (pc := 92) rfl ?_
    obtain ⟨h14, eh14, hh⟩ := bi_bd hh
    refine go_iast (pc := 93) rfl eh14 ?_
    refine go_inc (pc := 94) rfl l2 ?_
    refine go_goto (pc := 97) rfl ?_
    exact R47 _ _ _ _ _ (bi_k1 l0 rfl rfl) (bi_k1 l1 rfl rfl) bi_e1 hh
def fX11_atFirst_47 (n : Nat) : Nat → ai_H → Nat → Int32 → Int32 → Option (Unit × ai_H)
  | 0 => fun _ _ _ _ => none
  | k + 1 => fun h v0 v1 v2 => fX11_atFirst_47b n (fX11_atFirst_47 n k) h v0 v1 v2
theorem sX11_atFirst_47 {n : Nat} {q : Unit × ai_H} : ∀ (k : Nat) (h : ai_H) (v0 : Nat) (v1 : Int32) (v2 : Int32) (lv : ai_L), ai_ld 0 lv = some (.ref v0) → ai_ld 1 lv = some (.int v1) → ai_ld 2 lv = some (.int v2) → fX11_atFirst_47 n k h v0 v1 v2 = some q → bi_go 0 tX11_atFirst n (fV n q) 47 lv [] h
  | 0 => fun _ _ _ _ _ _ _ _ hh => by cases hh
  | k + 1 => fun h v0 v1 v2 lv l0 l1 l2 hh => sX11_atFirst_47b  (sX11_atFirst_47  k) l0 l1 l2 hh
def fX11_atFirst_2b (n : Nat) (r2 : ai_H → Nat → Int32 → Int32 → Option (Unit × ai_H)) (h : ai_H) (v0 : Nat) (v1 : Int32) (v2 : Int32) : Option (Unit × ai_H) :=
  if (4 : Int32) ≤ v2 then (
    fX11_atFirst_47 n bi_K h v0 v1 (0 : Int32))
  else (
    (pR n h v0 11 60).bind fun x1 =>
    (pR n h v0 11 34).bind fun x2 =>
    (gX 1 n h x2 v2).bind fun x3 =>
    (wX 1 (fun x => x) n h x1 (((4 : Int32) * v1) + v2) x3).bind fun h4 =>
    (pR n h4 v0 11 61).bind fun x5 =>
    (pR n h4 v0 11 36).bind fun x6 =>
    (gX 1 n h4 x6 v2).bind fun x7 =>
    (wX 1 (fun x => x) n h4 x5 (((4 : Int32) * v1) + v2) x7).bind fun h8 =>
    r2 h8 v0 v1 (v2 + 1))
theorem sX11_atFirst_2b {n : Nat} {r2 : ai_H → Nat → Int32 → Int32 → Option (Unit × ai_H)} {q : Unit × ai_H} {h : ai_H} {v0 : Nat} {v1 : Int32} {v2 : Int32} {lv : ai_L} (R2 : ∀ (h : ai_H) (v0 : Nat) (v1 : Int32) (v2 : Int32) (lv : ai_L), ai_ld 0 lv = some (.ref v0) → ai_ld 1 lv = some (.int v1) → ai_ld 2 lv = some (.int v2) → r2 h v0 v1 v2 = some q → bi_go 0 tX11_atFirst n (fV n q) 2 lv [] h) (l0 : ai_ld 0 lv = some (.ref v0)) (l1 : ai_ld 1 lv = some (.int v1)) (l2 : ai_ld 2 lv = some (.int v2)) (hh : fX11_atFirst_2b n r2 h v0 v1 v2 = some q) : bi_go 0 tX11_atFirst n (fV n q) 2 lv [] h := by
  unfold fX11_atFirst_2b at hh
  refine go_il (pc := 2) rfl l2 ?_
  refine go_pi (pc := 3) rfl ?_
  refine bi_ite hh (fun hc hh => ?_) (fun hc hh => ?_)
  · refine go_cmpgeT (pc := 4) rfl hc ?_
    refine go_pi (pc := 45) rfl ?_
    refine go_is (pc := 46) rfl ?_
    exact sX11_atFirst_47  _ _ _ _ _ _ (bi_k1 l0 rfl rfl) (bi_k1 l1 rfl rfl) bi_e1 hh
  · refine go_cmpgeF (pc := 4) rfl hc ?_
    refine go_al (pc := 7) rfl l0 ?_
    obtain ⟨x1, ex1, hh⟩ := bi_bd hh
    refine go_gfR (pc := 8) rfl ex1 ?_
    refine go_pi (pc := 11) rfl ?_
    refine go_il (pc := 12) rfl l1 ?_
    refine go_imul (pc := 13) rfl ?_
    refine go_il (pc := 14) rfl l2 ?_
    refine go_iadd (pc := 15) rfl ?_
    refine go_al (pc := 16) rfl l0 ?_
    obtain ⟨x2, ex2, hh⟩ := bi_bd hh
    refine go_gfR (pc := 17) rfl ex2 ?_
    refine go_il (pc := 20) rfl l2 ?_
    obtain ⟨x3, ex3, hh⟩ := bi_bd hh
    refine go_iald (pc := 21) rfl ex3 ?_
    obtain ⟨h4, eh4, hh⟩ := bi_bd hh
    refine go_iast (pc := 22) rfl eh4 ?_
    refine go_al (pc := 23) rfl l0 ?_
    obtain ⟨x5, ex5, hh⟩ := bi_bd hh
    refine go_gfR (pc := 24) rfl ex5 ?_
    refine go_pi (pc := 27) rfl ?_
    refine go_il (pc := 28) rfl l1 ?_
    refine go_imul (pc := 29) rfl ?_
    refine go_il (pc := 30) rfl l2 ?_
    refine go_iadd (pc := 31) rfl ?_
    refine go_al (pc := 32) rfl l0 ?_
    obtain ⟨x6, ex6, hh⟩ := bi_bd hh
    refine go_gfR (pc := 33) rfl ex6 ?_
    refine go_il (pc := 36) rfl l2 ?_
    obtain ⟨x7, ex7, hh⟩ := bi_bd hh
    refine go_iald (pc := 37) rfl ex7 ?_
    obtain ⟨h8, eh8, hh⟩ := bi_bd hh
    refine go_iast (pc := 38) rfl eh8 ?_
    refine go_inc (pc := 39) rfl l2 ?_
    refine go_goto (pc := 42) rfl ?_
    exact R2 _ _ _ _ _ (bi_k1 l0 rfl rfl) (bi_k1 l1 rfl rfl) bi_e1 hh
def fX11_atFirst_2 (n : Nat) : Nat → ai_H → Nat → Int32 → Int32 → Option (Unit × ai_H)
  | 0 => fun _ _ _ _ => none
  | k + 1 => fun h v0 v1 v2 => fX11_atFirst_2b n (fX11_atFirst_2 n k) h v0 v1 v2
theorem sX11_atFirst_2 {n : Nat} {q : Unit × ai_H} : ∀ (k : Nat) (h : ai_H) (v0 : Nat) (v1 : Int32) (v2 : Int32) (lv : ai_L), ai_ld 0 lv = some (.ref v0) → ai_ld 1 lv = some (.int v1) → ai_ld 2 lv = some (.int v2) → fX11_atFirst_2 n k h v0 v1 v2 = some q → bi_go 0 tX11_atFirst n (fV n q) 2 lv [] h
  | 0 => fun _ _ _ _ _ _ _ _ hh => by cases hh
  | k + 1 => fun h v0 v1 v2 lv l0 l1 l2 hh => sX11_atFirst_2b  (sX11_atFirst_2  k) l0 l1 l2 hh
def fX11_atFirst (n : Nat) (h : ai_H) (a0 : Nat) (a1 : Int32) : Option (Unit × ai_H) :=
  (kO n h a0 11).bind fun _ =>
  fX11_atFirst_2 n bi_K h a0 a1 (0 : Int32)
theorem gX11_atFirst {n : Nat} {h : ai_H} {a0 : Nat} {a1 : Int32} {q : Unit × ai_H} (hh : fX11_atFirst n h a0 a1 = some q) : kO n h a0 11 = some () := by
  obtain ⟨_, e, -⟩ := bi_bd hh
  exact e
theorem sX11_atFirst {n : Nat} {h : ai_H} {a0 : Nat} {a1 : Int32} {q : Unit × ai_H} (hh : fX11_atFirst n h a0 a1 = some q) : bi_sp 1 186 [.ref a0, .int a1] h n (fV n q) := by
  refine bi_en (D := 0) (T := tX11_atFirst) (funext fun pc => rfl) rfl (Nat.le_of_ble_eq_true rfl) ?_
  unfold fX11_atFirst at hh
  obtain ⟨_, eO, hh⟩ := bi_bd hh
  refine go_pi (pc := 0) rfl ?_
  refine go_is (pc := 1) rfl ?_
  exact sX11_atFirst_2  _ _ _ _ _ _ (bi_k1 (rfl : ai_ld 0 (lv_args 0 [.ref a0, .int a1]) = some (.ref a0)) rfl rfl) (bi_k1 (rfl : ai_ld 1 (lv_args 0 [.ref a0, .int a1]) = some (.int a1)) rfl rfl) bi_e1 hh
def fX11_plainTried (n : Nat) (h : ai_H) (a0 : Nat) : Option (Unit × ai_H) :=
  (kO n h a0 11).bind fun _ =>
  (sF n h a0 11 69 (.boolean) (.int (0 : Int32))).bind fun h1 =>
  (sF n h1 a0 11 70 (.boolean) (.int (0 : Int32))).bind fun h2 =>
  (sF n h2 a0 11 71 (.boolean) (.int (0 : Int32))).bind fun h3 =>
  (sF n h3 a0 11 72 (.boolean) (.int (0 : Int32))).bind fun h4 =>
  (sF n h4 a0 11 73 (.boolean) (.int (0 : Int32))).bind fun h5 =>
  (sF n h5 a0 11 74 (.int) (.int (-1 : Int32))).bind fun h6 =>
  (sF n h6 a0 11 75 (.int) (.int (-1 : Int32))).bind fun h7 =>
  (sF n h7 a0 11 76 (.int) (.int (0 : Int32))).bind fun h8 =>
  some ((), h8)
theorem gX11_plainTried {n : Nat} {h : ai_H} {a0 : Nat} {q : Unit × ai_H} (hh : fX11_plainTried n h a0 = some q) : kO n h a0 11 = some () := by
  obtain ⟨_, e, -⟩ := bi_bd hh
  exact e
theorem sX11_plainTried {n : Nat} {h : ai_H} {a0 : Nat} {q : Unit × ai_H} (hh : fX11_plainTried n h a0 = some q) : bi_sp 1 187 [.ref a0] h n (fV n q) := by
  refine bi_en (D := 0) (T := tX11_plainTried) (funext fun pc => rfl) rfl (Nat.le_of_ble_eq_true rfl) ?_
  unfold fX11_plainTried at hh
  obtain ⟨_, eO, hh⟩ := bi_bd hh
  refine go_al (pc := 0) rfl (rfl : ai_ld 0 (lv_args 0 [.ref a0]) = some (.ref a0)) ?_
  refine go_pi (pc := 1) rfl ?_
  obtain ⟨h1, eh1, hh⟩ := bi_bd hh
  refine go_pf (pc := 2) rfl eh1 ?_
  refine go_al (pc := 5) rfl (rfl : ai_ld 0 (lv_args 0 [.ref a0]) = some (.ref a0)) ?_
  refine go_pi (pc := 6) rfl ?_
  obtain ⟨h2, eh2, hh⟩ := bi_bd hh
  refine go_pf (pc := 7) rfl eh2 ?_
  refine go_al (pc := 10) rfl (rfl : ai_ld 0 (lv_args 0 [.ref a0]) = some (.ref a0)) ?_
  refine go_pi (pc := 11) rfl ?_
  obtain ⟨h3, eh3, hh⟩ := bi_bd hh
  refine go_pf (pc := 12) rfl eh3 ?_
  refine go_al (pc := 15) rfl (rfl : ai_ld 0 (lv_args 0 [.ref a0]) = some (.ref a0)) ?_
  refine go_pi (pc := 16) rfl ?_
  obtain ⟨h4, eh4, hh⟩ := bi_bd hh
  refine go_pf (pc := 17) rfl eh4 ?_
  refine go_al (pc := 20) rfl (rfl : ai_ld 0 (lv_args 0 [.ref a0]) = some (.ref a0)) ?_
  refine go_pi (pc := 21) rfl ?_
  obtain ⟨h5, eh5, hh⟩ := bi_bd hh
  refine go_pf (pc := 22) rfl eh5 ?_
  refine go_al (pc := 25) rfl (rfl : ai_ld 0 (lv_args 0 [.ref a0]) = some (.ref a0)) ?_
  refine go_pi (pc := 26) rfl ?_
  obtain ⟨h6, eh6, hh⟩ := bi_bd hh
  refine go_pf (pc := 27) rfl eh6 ?_
  refine go_al (pc := 30) rfl (rfl : ai_ld 0 (lv_args 0 [.ref a0]) = some (.ref a0)) ?_
  refine go_pi (pc := 31) rfl ?_
  obtain ⟨h7, eh7, hh⟩ := bi_bd hh
  refine go_pf (pc := 32) rfl eh7 ?_
  refine go_al (pc := 35) rfl (rfl : ai_ld 0 (lv_args 0 [.ref a0]) = some (.ref a0)) ?_
  refine go_pi (pc := 36) rfl ?_
  obtain ⟨h8, eh8, hh⟩ := bi_bd hh
  refine go_pf (pc := 37) rfl eh8 ?_
  exact go_rv (pc := 40) rfl hh
def fX11_begin (n : Nat) (h : ai_H) (a0 : Nat) : Option (Unit × ai_H) :=
  (kO n h a0 11).bind fun _ =>
  (fX11_atFirst n h a0 (0 : Int32)).bind fun q1 =>
  (pR n q1.2 a0 11 25).bind fun x2 =>
  (gX 1 n q1.2 x2 (2 : Int32)).bind fun x3 =>
  (sF n q1.2 a0 11 68 (.long) (.long x3.toInt64)).bind fun h4 =>
  (fX11_plainTried n h4 a0).bind fun q5 =>
  (sF n q5.2 a0 11 84 (.int) (.int (0 : Int32))).bind fun h6 =>
  (sF n h6 a0 11 85 (.int) (.int (-1 : Int32))).bind fun h7 =>
  (sF n h7 a0 11 89 (.int) (.int (0 : Int32))).bind fun h8 =>
  (sF n h8 a0 11 91 (.boolean) (.int (0 : Int32))).bind fun h9 =>
  some ((), h9)
theorem gX11_begin {n : Nat} {h : ai_H} {a0 : Nat} {q : Unit × ai_H} (hh : fX11_begin n h a0 = some q) : kO n h a0 11 = some () := by
  obtain ⟨_, e, -⟩ := bi_bd hh
  exact e
theorem sX11_begin {n : Nat} {h : ai_H} {a0 : Nat} {q : Unit × ai_H} (hh : fX11_begin n h a0 = some q) : bi_sp 2 185 [.ref a0] h n (fV n q) := by
  refine bi_en (D := 1) (T := tX11_begin) (funext fun pc => rfl) rfl (Nat.le_of_ble_eq_true rfl) ?_
  unfold fX11_begin at hh
  obtain ⟨_, eO, hh⟩ := bi_bd hh
  refine go_al (pc := 0) rfl (rfl : ai_ld 0 (lv_args 0 [.ref a0]) = some (.ref a0)) ?_
  refine go_pi (pc := 1) rfl ?_
  obtain ⟨q1, eq1, hh⟩ := bi_bd hh
  refine go_ivV (pc := 2) rfl rfl (gX11_atFirst eq1) (Nat.le_of_ble_eq_true rfl) (bi_up (sX11_atFirst eq1) (Nat.le_of_ble_eq_true rfl)) ?_
  refine go_al (pc := 5) rfl (rfl : ai_ld 0 (lv_args 0 [.ref a0]) = some (.ref a0)) ?_
  refine go_al (pc := 6) rfl (rfl : ai_ld 0 (lv_args 0 [.ref a0]) = some (.ref a0)) ?_
  obtain ⟨x2, ex2, hh⟩ := bi_bd hh
  refine go_gfR (pc := 7) rfl ex2 ?_
  refine go_pi (pc := 10) rfl ?_
  obtain ⟨x3, ex3, hh⟩ := bi_bd hh
  refine go_iald (pc := 11) rfl ex3 ?_
  refine go_i2l (pc := 12) rfl ?_
  obtain ⟨h4, eh4, hh⟩ := bi_bd hh
  refine go_pf (pc := 13) rfl eh4 ?_
  refine go_al (pc := 16) rfl (rfl : ai_ld 0 (lv_args 0 [.ref a0]) = some (.ref a0)) ?_
  obtain ⟨q5, eq5, hh⟩ := bi_bd hh
  refine go_ivV (pc := 17) rfl rfl (gX11_plainTried eq5) (Nat.le_of_ble_eq_true rfl) (bi_up (sX11_plainTried eq5) (Nat.le_of_ble_eq_true rfl)) ?_
  refine go_al (pc := 20) rfl (rfl : ai_ld 0 (lv_args 0 [.ref a0]) = some (.ref a0)) ?_
  refine go_pi (pc := 21) rfl ?_
  obtain ⟨h6, eh6, hh⟩ := bi_bd hh
  refine go_pf (pc := 22) rfl eh6 ?_
  refine go_al (pc := 25) rfl (rfl : ai_ld 0 (lv_args 0 [.ref a0]) = some (.ref a0)) ?_
  refine go_pi (pc := 26) rfl ?_
  obtain ⟨h7, eh7, hh⟩ := bi_bd hh
  refine go_pf (pc := 27) rfl eh7 ?_
  refine go_al (pc := 30) rfl (rfl : ai_ld 0 (lv_args 0 [.ref a0]) = some (.ref a0)) ?_
  refine go_pi (pc := 31) rfl ?_
  obtain ⟨h8, eh8, hh⟩ := bi_bd hh
  refine go_pf (pc := 32) rfl eh8 ?_
  refine go_al (pc := 35) rfl (rfl : ai_ld 0 (lv_args 0 [.ref a0]) = some (.ref a0)) ?_
  refine go_pi (pc := 36) rfl ?_
  obtain ⟨h9, eh9, hh⟩ := bi_bd hh
  refine go_pf (pc := 37) rfl eh9 ?_
  exact go_rv (pc := 40) rfl hh
def fX11_keepText_207b (n : Nat) (r207 : ai_H → Nat → Int32 → Option (Unit × ai_H)) (h : ai_H) (v0 : Nat) (v1 : Int32) : Option (Unit × ai_H) :=
  if (3 : Int32) ≤ v1 then (
    (pR n h v0 11 44).bind fun x1 =>
    (fX11_copies n h x1 (3 : Int32)).bind fun q2 =>
    (pR n q2.2 v0 11 45).bind fun x3 =>
    (fX11_copies n q2.2 x3 (3 : Int32)).bind fun q4 =>
    (pR n q4.2 v0 11 46).bind fun x5 =>
    (fX11_copies n q4.2 x5 (64 : Int32)).bind fun q6 =>
    (pR n q6.2 v0 11 47).bind fun x7 =>
    (fX11_copies n q6.2 x7 (64 : Int32)).bind fun q8 =>
    (pR n q8.2 v0 11 48).bind fun x9 =>
    (fX11_copies n q8.2 x9 (64 : Int32)).bind fun q10 =>
    (fX11_begin n q10.2 v0).bind fun q11 =>
    some ((), q11.2))
  else (
    (pR n h v0 11 43).bind fun x12 =>
    (pR n h v0 11 43).bind fun x13 =>
    (gB n h x13 ((3 : Int32) + v1)).bind fun x14 =>
    (wB n h x12 v1 x14).bind fun h15 =>
    r207 h15 v0 (v1 + 1))
theorem sX11_keepText_207b {n : Nat} {r207 : ai_H → Nat → Int32 → Option (Unit × ai_H)} {q : Unit × ai_H} {h : ai_H} {v0 : Nat} {v1 : Int32} {lv : ai_L} (R207 : ∀ (h : ai_H) (v0 : Nat) (v1 : Int32) (lv : ai_L), ai_ld 0 lv = some (.ref v0) → ai_ld 1 lv = some (.int v1) → r207 h v0 v1 = some q → bi_go 2 tX11_keepText n (fV n q) 207 lv [] h) (l0 : ai_ld 0 lv = some (.ref v0)) (l1 : ai_ld 1 lv = some (.int v1)) (hh : fX11_keepText_207b n r207 h v0 v1 = some q) : bi_go 2 tX11_keepText n (fV n q) 207 lv [] h := by
  unfold fX11_keepText_207b at hh
  refine go_il (pc := 207) rfl l1 ?_
  refine go_pi (pc := 208) rfl ?_
  refine bi_ite hh (fun hc hh => ?_) (fun hc hh => ?_)
  · refine go_cmpgeT (pc := 209) rfl hc ?_
    refine go_al (pc := 232) rfl l0 ?_
    obtain ⟨x1, ex1, hh⟩ := bi_bd hh
    refine go_gfR (pc := 233) rfl ex1 ?_
    refine go_pi (pc := 236) rfl ?_
    obtain ⟨q2, eq2, hh⟩ := bi_bd hh
    refine go_iSV (pc := 237) rfl (Nat.le_of_ble_eq_true rfl) rfl (Nat.le_of_ble_eq_true rfl) (bi_up (sX11_copies eq2) (Nat.le_of_ble_eq_true rfl)) ?_
    refine go_al (pc := 240) rfl l0 ?_
    obtain ⟨x3, ex3, hh⟩ := bi_bd hh
    refine go_gfR (pc := 241) rfl ex3 ?_
    refine go_pi (pc := 244) rfl ?_
    obtain ⟨q4, eq4, hh⟩ := bi_bd hh
    refine go_iSV (pc := 245) rfl (Nat.le_of_ble_eq_true rfl) rfl (Nat.le_of_ble_eq_true rfl) (bi_up (sX11_copies eq4) (Nat.le_of_ble_eq_true rfl)) ?_
    refine go_al (pc := 248) rfl l0 ?_
    obtain ⟨x5, ex5, hh⟩ := bi_bd hh
    refine go_gfR (pc := 249) rfl ex5 ?_
    refine go_pi (pc := 252) rfl ?_
    obtain ⟨q6, eq6, hh⟩ := bi_bd hh
    refine go_iSV (pc := 254) rfl (Nat.le_of_ble_eq_true rfl) rfl (Nat.le_of_ble_eq_true rfl) (bi_up (sX11_copies eq6) (Nat.le_of_ble_eq_true rfl)) ?_
    refine go_al (pc := 257) rfl l0 ?_
    obtain ⟨x7, ex7, hh⟩ := bi_bd hh
    refine go_gfR (pc := 258) rfl ex7 ?_
    refine go_pi (pc := 261) rfl ?_
    obtain ⟨q8, eq8, hh⟩ := bi_bd hh
    refine go_iSV (pc := 263) rfl (Nat.le_of_ble_eq_true rfl) rfl (Nat.le_of_ble_eq_true rfl) (bi_up (sX11_copies eq8) (Nat.le_of_ble_eq_true rfl)) ?_
    refine go_al (pc := 266) rfl l0 ?_
    obtain ⟨x9, ex9, hh⟩ := bi_bd hh
    refine go_gfR (pc := 267) rfl ex9 ?_
    refine go_pi (pc := 270) rfl ?_
    obtain ⟨q10, eq10, hh⟩ := bi_bd hh
    refine go_iSV (pc := 272) rfl (Nat.le_of_ble_eq_true rfl) rfl (Nat.le_of_ble_eq_true rfl) (bi_up (sX11_copies eq10) (Nat.le_of_ble_eq_true rfl)) ?_
    refine go_al (pc := 275) rfl l0 ?_
    obtain ⟨q11, eq11, hh⟩ := bi_bd hh
    refine go_ivV (pc := 276) rfl rfl (gX11_begin eq11) (Nat.le_of_ble_eq_true rfl) (bi_up (sX11_begin eq11) (Nat.le_of_ble_eq_true rfl)) ?_
    exact go_rv (pc := 279) rfl hh
  · refine go_cmpgeF (pc := 209) rfl hc ?_
    refine go_al (pc := 212) rfl l0 ?_
    obtain ⟨x12, ex12, hh⟩ := bi_bd hh
    refine go_gfR (pc := 213) rfl ex12 ?_
    refine go_il (pc := 216) rfl l1 ?_
    refine go_al (pc := 217) rfl l0 ?_
    obtain ⟨x13, ex13, hh⟩ := bi_bd hh
    refine go_gfR (pc := 218) rfl ex13 ?_
    refine go_pi (pc := 221) rfl ?_
    refine go_il (pc := 222) rfl l1 ?_
    refine go_iadd (pc := 223) rfl ?_
    obtain ⟨x14, ex14, hh⟩ := bi_bd hh
    refine go_bald (pc := 224) rfl ex14 ?_
    obtain ⟨h15, eh15, hh⟩ := bi_bd hh
    refine go_bast (pc := 225) rfl eh15 ?_
    refine go_inc (pc := 226) rfl l1 ?_
    refine go_goto (pc := 229) rfl ?_
    exact R207 _ _ _ _ (bi_k1 l0 rfl rfl) bi_e1 hh
def fX11_keepText_207 (n : Nat) : Nat → ai_H → Nat → Int32 → Option (Unit × ai_H)
  | 0 => fun _ _ _ => none
  | k + 1 => fun h v0 v1 => fX11_keepText_207b n (fX11_keepText_207 n k) h v0 v1
theorem sX11_keepText_207 {n : Nat} {q : Unit × ai_H} : ∀ (k : Nat) (h : ai_H) (v0 : Nat) (v1 : Int32) (lv : ai_L), ai_ld 0 lv = some (.ref v0) → ai_ld 1 lv = some (.int v1) → fX11_keepText_207 n k h v0 v1 = some q → bi_go 2 tX11_keepText n (fV n q) 207 lv [] h
  | 0 => fun _ _ _ _ _ _ hh => by cases hh
  | k + 1 => fun h v0 v1 lv l0 l1 hh => sX11_keepText_207b  (sX11_keepText_207  k) l0 l1 hh
def fX11_keepText (n : Nat) (h : ai_H) (a0 : Nat) : Option (Unit × ai_H) :=
  (kO n h a0 11).bind fun _ =>
  (pI n h a0 11 18).bind fun x1 =>
  (sF n h a0 11 12 (.int) (.int x1)).bind fun h2 =>
  (pI n h2 a0 11 19).bind fun x3 =>
  (sF n h2 a0 11 13 (.int) (.int x3)).bind fun h4 =>
  (pI n h4 a0 11 20).bind fun x5 =>
  (sF n h4 a0 11 14 (.int) (.int x5)).bind fun h6 =>
  (pI n h6 a0 11 21).bind fun x7 =>
  (sF n h6 a0 11 15 (.int) (.int x7)).bind fun h8 =>
  (pI n h8 a0 11 22).bind fun x9 =>
  (sF n h8 a0 11 16 (.int) (.int x9)).bind fun h10 =>
  (pI n h10 a0 11 23).bind fun x11 =>
  (sF n h10 a0 11 17 (.int) (.int x11)).bind fun h12 =>
  (pR n h12 a0 11 25).bind fun x13 =>
  (fX11_copies n h12 x13 (3 : Int32)).bind fun q14 =>
  (pR n q14.2 a0 11 26).bind fun x15 =>
  (fX11_copies n q14.2 x15 (7 : Int32)).bind fun q16 =>
  (pR n q16.2 a0 11 27).bind fun x17 =>
  (fX11_copies n q16.2 x17 (9 : Int32)).bind fun q18 =>
  (pR n q18.2 a0 11 28).bind fun x19 =>
  (fX11_copies n q18.2 x19 (9 : Int32)).bind fun q20 =>
  (pR n q20.2 a0 11 29).bind fun x21 =>
  (fX11_copies n q20.2 x21 (9 : Int32)).bind fun q22 =>
  (pR n q22.2 a0 11 30).bind fun x23 =>
  (fX11_copies n q22.2 x23 (9 : Int32)).bind fun q24 =>
  (pR n q24.2 a0 11 31).bind fun x25 =>
  (fX11_copies n q24.2 x25 (9 : Int32)).bind fun q26 =>
  (pR n q26.2 a0 11 32).bind fun x27 =>
  (fX11_copies n q26.2 x27 (9 : Int32)).bind fun q28 =>
  (pR n q28.2 a0 11 33).bind fun x29 =>
  (fX11_copies n q28.2 x29 (4 : Int32)).bind fun q30 =>
  (pR n q30.2 a0 11 34).bind fun x31 =>
  (fX11_copies n q30.2 x31 (4 : Int32)).bind fun q32 =>
  (pR n q32.2 a0 11 35).bind fun x33 =>
  (fX11_copies n q32.2 x33 (4 : Int32)).bind fun q34 =>
  (pR n q34.2 a0 11 36).bind fun x35 =>
  (fX11_copies n q34.2 x35 (4 : Int32)).bind fun q36 =>
  (pR n q36.2 a0 11 37).bind fun x37 =>
  (fX11_copies n q36.2 x37 (12 : Int32)).bind fun q38 =>
  (pR n q38.2 a0 11 38).bind fun x39 =>
  (fX11_copies n q38.2 x39 (12 : Int32)).bind fun q40 =>
  (pR n q40.2 a0 11 39).bind fun x41 =>
  (fX11_copies n q40.2 x41 (12 : Int32)).bind fun q42 =>
  (pR n q42.2 a0 11 40).bind fun x43 =>
  (fX11_copies n q42.2 x43 (6 : Int32)).bind fun q44 =>
  (pR n q44.2 a0 11 41).bind fun x45 =>
  (fX11_copies n q44.2 x45 (6 : Int32)).bind fun q46 =>
  (pR n q46.2 a0 11 42).bind fun x47 =>
  (fX11_copies n q46.2 x47 (6 : Int32)).bind fun q48 =>
  fX11_keepText_207 n bi_K q48.2 a0 (0 : Int32)
theorem gX11_keepText {n : Nat} {h : ai_H} {a0 : Nat} {q : Unit × ai_H} (hh : fX11_keepText n h a0 = some q) : kO n h a0 11 = some () := by
  obtain ⟨_, e, -⟩ := bi_bd hh
  exact e
theorem sX11_keepText {n : Nat} {h : ai_H} {a0 : Nat} {q : Unit × ai_H} (hh : fX11_keepText n h a0 = some q) : bi_sp 3 157 [.ref a0] h n (fV n q) := by
  refine bi_en (D := 2) (T := tX11_keepText) (funext fun pc => rfl) rfl (Nat.le_of_ble_eq_true rfl) ?_
  unfold fX11_keepText at hh
  obtain ⟨_, eO, hh⟩ := bi_bd hh
  refine go_al (pc := 0) rfl (rfl : ai_ld 0 (lv_args 0 [.ref a0]) = some (.ref a0)) ?_
  refine go_al (pc := 1) rfl (rfl : ai_ld 0 (lv_args 0 [.ref a0]) = some (.ref a0)) ?_
  obtain ⟨x1, ex1, hh⟩ := bi_bd hh
  refine go_gfI (pc := 2) rfl ex1 ?_
  obtain ⟨h2, eh2, hh⟩ := bi_bd hh
  refine go_pf (pc := 5) rfl eh2 ?_
  refine go_al (pc := 8) rfl (rfl : ai_ld 0 (lv_args 0 [.ref a0]) = some (.ref a0)) ?_
  refine go_al (pc := 9) rfl (rfl : ai_ld 0 (lv_args 0 [.ref a0]) = some (.ref a0)) ?_
  obtain ⟨x3, ex3, hh⟩ := bi_bd hh
  refine go_gfI (pc := 10) rfl ex3 ?_
  obtain ⟨h4, eh4, hh⟩ := bi_bd hh
  refine go_pf (pc := 13) rfl eh4 ?_
  refine go_al (pc := 16) rfl (rfl : ai_ld 0 (lv_args 0 [.ref a0]) = some (.ref a0)) ?_
  refine go_al (pc := 17) rfl (rfl : ai_ld 0 (lv_args 0 [.ref a0]) = some (.ref a0)) ?_
  obtain ⟨x5, ex5, hh⟩ := bi_bd hh
  refine go_gfI (pc := 18) rfl ex5 ?_
  obtain ⟨h6, eh6, hh⟩ := bi_bd hh
  refine go_pf (pc := 21) rfl eh6 ?_
  refine go_al (pc := 24) rfl (rfl : ai_ld 0 (lv_args 0 [.ref a0]) = some (.ref a0)) ?_
  refine go_al (pc := 25) rfl (rfl : ai_ld 0 (lv_args 0 [.ref a0]) = some (.ref a0)) ?_
  obtain ⟨x7, ex7, hh⟩ := bi_bd hh
  refine go_gfI (pc := 26) rfl ex7 ?_
  obtain ⟨h8, eh8, hh⟩ := bi_bd hh
  refine go_pf (pc := 29) rfl eh8 ?_
  refine go_al (pc := 32) rfl (rfl : ai_ld 0 (lv_args 0 [.ref a0]) = some (.ref a0)) ?_
  refine go_al (pc := 33) rfl (rfl : ai_ld 0 (lv_args 0 [.ref a0]) = some (.ref a0)) ?_
  obtain ⟨x9, ex9, hh⟩ := bi_bd hh
  refine go_gfI (pc := 34) rfl ex9 ?_
  obtain ⟨h10, eh10, hh⟩ := bi_bd hh
  refine go_pf (pc := 37) rfl eh10 ?_
  refine go_al (pc := 40) rfl (rfl : ai_ld 0 (lv_args 0 [.ref a0]) = some (.ref a0)) ?_
  refine go_al (pc := 41) rfl (rfl : ai_ld 0 (lv_args 0 [.ref a0]) = some (.ref a0)) ?_
  obtain ⟨x11, ex11, hh⟩ := bi_bd hh
  refine go_gfI (pc := 42) rfl ex11 ?_
  obtain ⟨h12, eh12, hh⟩ := bi_bd hh
  refine go_pf (pc := 45) rfl eh12 ?_
  refine go_al (pc := 48) rfl (rfl : ai_ld 0 (lv_args 0 [.ref a0]) = some (.ref a0)) ?_
  obtain ⟨x13, ex13, hh⟩ := bi_bd hh
  refine go_gfR (pc := 49) rfl ex13 ?_
  refine go_pi (pc := 52) rfl ?_
  obtain ⟨q14, eq14, hh⟩ := bi_bd hh
  refine go_iSV (pc := 53) rfl (Nat.le_of_ble_eq_true rfl) rfl (Nat.le_of_ble_eq_true rfl) (bi_up (sX11_copies eq14) (Nat.le_of_ble_eq_true rfl)) ?_
  refine go_al (pc := 56) rfl (rfl : ai_ld 0 (lv_args 0 [.ref a0]) = some (.ref a0)) ?_
  obtain ⟨x15, ex15, hh⟩ := bi_bd hh
  refine go_gfR (pc := 57) rfl ex15 ?_
  refine go_pi (pc := 60) rfl ?_
  obtain ⟨q16, eq16, hh⟩ := bi_bd hh
  refine go_iSV (pc := 62) rfl (Nat.le_of_ble_eq_true rfl) rfl (Nat.le_of_ble_eq_true rfl) (bi_up (sX11_copies eq16) (Nat.le_of_ble_eq_true rfl)) ?_
  refine go_al (pc := 65) rfl (rfl : ai_ld 0 (lv_args 0 [.ref a0]) = some (.ref a0)) ?_
  obtain ⟨x17, ex17, hh⟩ := bi_bd hh
  refine go_gfR (pc := 66) rfl ex17 ?_
  refine go_pi (pc := 69) rfl ?_
  obtain ⟨q18, eq18, hh⟩ := bi_bd hh
  refine go_iSV (pc := 71) rfl (Nat.le_of_ble_eq_true rfl) rfl (Nat.le_of_ble_eq_true rfl) (bi_up (sX11_copies eq18) (Nat.le_of_ble_eq_true rfl)) ?_
  refine go_al (pc := 74) rfl (rfl : ai_ld 0 (lv_args 0 [.ref a0]) = some (.ref a0)) ?_
  obtain ⟨x19, ex19, hh⟩ := bi_bd hh
  refine go_gfR (pc := 75) rfl ex19 ?_
  refine go_pi (pc := 78) rfl ?_
  obtain ⟨q20, eq20, hh⟩ := bi_bd hh
  refine go_iSV (pc := 80) rfl (Nat.le_of_ble_eq_true rfl) rfl (Nat.le_of_ble_eq_true rfl) (bi_up (sX11_copies eq20) (Nat.le_of_ble_eq_true rfl)) ?_
  refine go_al (pc := 83) rfl (rfl : ai_ld 0 (lv_args 0 [.ref a0]) = some (.ref a0)) ?_
  obtain ⟨x21, ex21, hh⟩ := bi_bd hh
  refine go_gfR (pc := 84) rfl ex21 ?_
  refine go_pi (pc := 87) rfl ?_
  obtain ⟨q22, eq22, hh⟩ := bi_bd hh
  refine go_iSV (pc := 89) rfl (Nat.le_of_ble_eq_true rfl) rfl (Nat.le_of_ble_eq_true rfl) (bi_up (sX11_copies eq22) (Nat.le_of_ble_eq_true rfl)) ?_
  refine go_al (pc := 92) rfl (rfl : ai_ld 0 (lv_args 0 [.ref a0]) = some (.ref a0)) ?_
  obtain ⟨x23, ex23, hh⟩ := bi_bd hh
  refine go_gfR (pc := 93) rfl ex23 ?_
  refine go_pi (pc := 96) rfl ?_
  obtain ⟨q24, eq24, hh⟩ := bi_bd hh
  refine go_iSV (pc := 98) rfl (Nat.le_of_ble_eq_true rfl) rfl (Nat.le_of_ble_eq_true rfl) (bi_up (sX11_copies eq24) (Nat.le_of_ble_eq_true rfl)) ?_
  refine go_al (pc := 101) rfl (rfl : ai_ld 0 (lv_args 0 [.ref a0]) = some (.ref a0)) ?_
  obtain ⟨x25, ex25, hh⟩ := bi_bd hh
  refine go_gfR (pc := 102) rfl ex25 ?_
  refine go_pi (pc := 105) rfl ?_
  obtain ⟨q26, eq26, hh⟩ := bi_bd hh
  refine go_iSV (pc := 107) rfl (Nat.le_of_ble_eq_true rfl) rfl (Nat.le_of_ble_eq_true rfl) (bi_up (sX11_copies eq26) (Nat.le_of_ble_eq_true rfl)) ?_
  refine go_al (pc := 110) rfl (rfl : ai_ld 0 (lv_args 0 [.ref a0]) = some (.ref a0)) ?_
  obtain ⟨x27, ex27, hh⟩ := bi_bd hh
  refine go_gfR (pc := 111) rfl ex27 ?_
  refine go_pi (pc := 114) rfl ?_
  obtain ⟨q28, eq28, hh⟩ := bi_bd hh
  refine go_iSV (pc := 116) rfl (Nat.le_of_ble_eq_true rfl) rfl (Nat.le_of_ble_eq_true rfl) (bi_up (sX11_copies eq28) (Nat.le_of_ble_eq_true rfl)) ?_
  refine go_al (pc := 119) rfl (rfl : ai_ld 0 (lv_args 0 [.ref a0]) = some (.ref a0)) ?_
  obtain ⟨x29, ex29, hh⟩ := bi_bd hh
  refine go_gfR (pc := 120) rfl ex29 ?_
  refine go_pi (pc := 123) rfl ?_
  obtain ⟨q30, eq30, hh⟩ := bi_bd hh
  refine go_iSV (pc := 124) rfl (Nat.le_of_ble_eq_true rfl) rfl (Nat.le_of_ble_eq_true rfl) (bi_up (sX11_copies eq30) (Nat.le_of_ble_eq_true rfl)) ?_
  refine go_al (pc := 127) rfl (rfl : ai_ld 0 (lv_args 0 [.ref a0]) = some (.ref a0)) ?_
  obtain ⟨x31, ex31, hh⟩ := bi_bd hh
  refine go_gfR (pc := 128) rfl ex31 ?_
  refine go_pi (pc := 131) rfl ?_
  obtain ⟨q32, eq32, hh⟩ := bi_bd hh
  refine go_iSV (pc := 132) rfl (Nat.le_of_ble_eq_true rfl) rfl (Nat.le_of_ble_eq_true rfl) (bi_up (sX11_copies eq32) (Nat.le_of_ble_eq_true rfl)) ?_
  refine go_al (pc := 135) rfl (rfl : ai_ld 0 (lv_args 0 [.ref a0]) = some (.ref a0)) ?_
  obtain ⟨x33, ex33, hh⟩ := bi_bd hh
  refine go_gfR (pc := 136) rfl ex33 ?_
  refine go_pi (pc := 139) rfl ?_
  obtain ⟨q34, eq34, hh⟩ := bi_bd hh
  refine go_iSV (pc := 140) rfl (Nat.le_of_ble_eq_true rfl) rfl (Nat.le_of_ble_eq_true rfl) (bi_up (sX11_copies eq34) (Nat.le_of_ble_eq_true rfl)) ?_
  refine go_al (pc := 143) rfl (rfl : ai_ld 0 (lv_args 0 [.ref a0]) = some (.ref a0)) ?_
  obtain ⟨x35, ex35, hh⟩ := bi_bd hh
  refine go_gfR (pc := 144) rfl ex35 ?_
  refine go_pi (pc := 147) rfl ?_
  obtain ⟨q36, eq36, hh⟩ := bi_bd hh
  refine go_iSV (pc := 148) rfl (Nat.le_of_ble_eq_true rfl) rfl (Nat.le_of_ble_eq_true rfl) (bi_up (sX11_copies eq36) (Nat.le_of_ble_eq_true rfl)) ?_
  refine go_al (pc := 151) rfl (rfl : ai_ld 0 (lv_args 0 [.ref a0]) = some (.ref a0)) ?_
  obtain ⟨x37, ex37, hh⟩ := bi_bd hh
  refine go_gfR (pc := 152) rfl ex37 ?_
  refine go_pi (pc := 155) rfl ?_
  obtain ⟨q38, eq38, hh⟩ := bi_bd hh
  refine go_iSV (pc := 157) rfl (Nat.le_of_ble_eq_true rfl) rfl (Nat.le_of_ble_eq_true rfl) (bi_up (sX11_copies eq38) (Nat.le_of_ble_eq_true rfl)) ?_
  refine go_al (pc := 160) rfl (rfl : ai_ld 0 (lv_args 0 [.ref a0]) = some (.ref a0)) ?_
  obtain ⟨x39, ex39, hh⟩ := bi_bd hh
  refine go_gfR (pc := 161) rfl ex39 ?_
  refine go_pi (pc := 164) rfl ?_
  obtain ⟨q40, eq40, hh⟩ := bi_bd hh
  refine go_iSV (pc := 166) rfl (Nat.le_of_ble_eq_true rfl) rfl (Nat.le_of_ble_eq_true rfl) (bi_up (sX11_copies eq40) (Nat.le_of_ble_eq_true rfl)) ?_
  refine go_al (pc := 169) rfl (rfl : ai_ld 0 (lv_args 0 [.ref a0]) = some (.ref a0)) ?_
  obtain ⟨x41, ex41, hh⟩ := bi_bd hh
  refine go_gfR (pc := 170) rfl ex41 ?_
  refine go_pi (pc := 173) rfl ?_
  obtain ⟨q42, eq42, hh⟩ := bi_bd hh
  refine go_iSV (pc := 175) rfl (Nat.le_of_ble_eq_true rfl) rfl (Nat.le_of_ble_eq_true rfl) (bi_up (sX11_copies eq42) (Nat.le_of_ble_eq_true rfl)) ?_
  refine go_al (pc := 178) rfl (rfl : ai_ld 0 (lv_args 0 [.ref a0]) = some (.ref a0)) ?_
  obtain ⟨x43, ex43, hh⟩ := bi_bd hh
  refine go_gfR (pc := 179) rfl ex43 ?_
  refine go_pi (pc := 182) rfl ?_
  obtain ⟨q44, eq44, hh⟩ := bi_bd hh
  refine go_iSV (pc := 184) rfl (Nat.le_of_ble_eq_true rfl) rfl (Nat.le_of_ble_eq_true rfl) (bi_up (sX11_copies eq44) (Nat.le_of_ble_eq_true rfl)) ?_
  refine go_al (pc := 187) rfl (rfl : ai_ld 0 (lv_args 0 [.ref a0]) = some (.ref a0)) ?_
  obtain ⟨x45, ex45, hh⟩ := bi_bd hh
  refine go_gfR (pc := 188) rfl ex45 ?_
  refine go_pi (pc := 191) rfl ?_
  obtain ⟨q46, eq46, hh⟩ := bi_bd hh
  refine go_iSV (pc := 193) rfl (Nat.le_of_ble_eq_true rfl) rfl (Nat.le_of_ble_eq_true rfl) (bi_up (sX11_copies eq46) (Nat.le_of_ble_eq_true rfl)) ?_
  refine go_al (pc := 196) rfl (rfl : ai_ld 0 (lv_args 0 [.ref a0]) = some (.ref a0)) ?_
  obtain ⟨x47, ex47, hh⟩ := bi_bd hh
  refine go_gfR (pc := 197) rfl ex47 ?_
  refine go_pi (pc := 200) rfl ?_
  obtain ⟨q48, eq48, hh⟩ := bi_bd hh
  refine go_iSV (pc := 202) rfl (Nat.le_of_ble_eq_true rfl) rfl (Nat.le_of_ble_eq_true rfl) (bi_up (sX11_copies eq48) (Nat.le_of_ble_eq_true rfl)) ?_
  refine go_pi (pc := 205) rfl ?_
  refine go_is (pc := 206) rfl ?_
  exact sX11_keepText_207  _ _ _ _ _ (bi_k1 (rfl : ai_ld 0 (lv_args 0 [.ref a0]) = some (.ref a0)) rfl rfl) bi_e1 hh
def fX11_thrown (n : Nat) (h : ai_H) (a0 : Nat) : Option (Int32 × ai_H) :=
  (kO n h a0 11).bind fun _ =>
  (pI n h a0 11 2).bind fun x1 =>
  some (x1, h)
theorem gX11_thrown {n : Nat} {h : ai_H} {a0 : Nat} {q : Int32 × ai_H} (hh : fX11_thrown n h a0 = some q) : kO n h a0 11 = some () := by
  obtain ⟨_, e, -⟩ := bi_bd hh
  exact e
theorem sX11_thrown {n : Nat} {h : ai_H} {a0 : Nat} {q : Int32 × ai_H} (hh : fX11_thrown n h a0 = some q) : bi_sp 1 141 [.ref a0] h n (fI n q) := by
  refine bi_en (D := 0) (T := tX11_thrown) (funext fun pc => rfl) rfl (Nat.le_of_ble_eq_true rfl) ?_
  unfold fX11_thrown at hh
  obtain ⟨_, eO, hh⟩ := bi_bd hh
  refine go_al (pc := 0) rfl (rfl : ai_ld 0 (lv_args 0 [.ref a0]) = some (.ref a0)) ?_
  obtain ⟨x1, ex1, hh⟩ := bi_bd hh
  refine go_gfI (pc := 1) rfl ex1 ?_
  exact go_ri (pc := 4) rfl hh
def fX11_feed_76 (n : Nat) (r23 : ai_H → Nat → Int32 → Int32 → Int32 → Int32 → Int32 → Int32 → Option (Int32 × ai_H)) (h : ai_H) (v0 : Nat) (v1 : Int32) (v2 : Int32) (v3 : Int32) (v4 : Int32) (v5 : Int32) (v6 : Int32) (s0 : Int32) : Option (Int32 × ai_H) :=
  (pR n h v0 11 0).bind fun x1 =>
  (pI n h v0 11 1).bind fun x2 =>
  (rI v6 (4 : Int32)).bind fun x3 =>
  (wX 1 (fun x => x) n h x1 (x2 + v6) ((s0 >>> (((24 : Int32) - ((8 : Int32) * x3)) &&& 31)) &&& (255 : Int32))).bind fun h4 =>
  r23 h4 v0 v1 v2 v3 v4 v5 (v6 + 1)
theorem sX11_feed_76 {n : Nat} {r23 : ai_H → Nat → Int32 → Int32 → Int32 → Int32 → Int32 → Int32 → Option (Int32 × ai_H)} {q : Int32 × ai_H} {h : ai_H} {v0 : Nat} {v1 : Int32} {v2 : Int32} {v3 : Int32} {v4 : Int32} {v5 : Int32} {v6 : Int32} {s0 : Int32} {lv : ai_L} (R23 : ∀ (h : ai_H) (v0 : Nat) (v1 : Int32) (v2 : Int32) (v3 : Int32) (v4 : Int32) (v5 : Int32) (v6 : Int32) (lv : ai_L), ai_ld 0 lv = some (.ref v0) → ai_ld 1 lv = some (.int v1) → ai_ld 2 lv = some (.int v2) → ai_ld 3 lv = some (.int v3) → ai_ld 4 lv = some (.int v4) → ai_ld 5 lv = some (.int v5) → ai_ld 6 lv = some (.int v6) → r23 h v0 v1 v2 v3 v4 v5 v6 = some q → bi_go 0 tX11_feed n (fI n q) 23 lv [] h) (l0 : ai_ld 0 lv = some (.ref v0)) (l1 : ai_ld 1 lv = some (.int v1)) (l2 : ai_ld 2 lv = some (.int v2)) (l3 : ai_ld 3 lv = some (.int v3)) (l4 : ai_ld 4 lv = some (.int v4)) (l5 : ai_ld 5 lv = some (.int v5)) (l6 : ai_ld 6 lv = some (.int v6)) (hh : fX11_feed_76 n r23 h v0 v1 v2 v3 v4 v5 v6 s0 = some q) : bi_go 0 tX11_feed n (fI n q) 76 lv [.int s0] h := by
  unfold fX11_feed_76 at hh
  refine go_is (pc := 76) rfl ?_
  refine go_al (pc := 78) rfl (bi_k1 l0 rfl rfl) ?_
  obtain ⟨x1, ex1, hh⟩ := bi_bd hh
  refine go_gfR (pc := 79) rfl ex1 ?_
  refine go_al (pc := 82) rfl (bi_k1 l0 rfl rfl) ?_
  obtain ⟨x2, ex2, hh⟩ := bi_bd hh
  refine go_gfI (pc := 83) rfl ex2 ?_
  refine go_il (pc := 86) rfl (bi_k1 l6 rfl rfl) ?_
  refine go_iadd (pc := 88) rfl ?_
  refine go_il (pc := 89) rfl bi_e1 ?_
  refine go_pi (pc := 91) rfl ?_
  refine go_pi (pc := 93) rfl ?_
  refine go_il (pc := 95) rfl (bi_k1 l6 rfl rfl) ?_
  refine go_pi (pc := 97) rfl ?_
  obtain ⟨x3, ex3, hh⟩ := bi_bd hh
  refine go_irem (pc := 98) rfl ex3 ?_
  refine go_imul (pc := 99) rfl ?_
  refine go_isub (pc := 100) rfl ?_
  refine go_ishr (pc := 101) rfl ?_
  refine go_pi (pc := 102) rfl ?_
  refine go_iand (pc := 105) rfl ?_
  obtain ⟨h4, eh4, hh⟩ := bi_bd hh
  refine go_iast (pc := 106) rfl eh4 ?_
  refine go_inc (pc := 107) rfl (bi_k1 l6 rfl rfl) ?_
  refine go_goto (pc := 110) rfl ?_
  exact R23 _ _ _ _ _ _ _ _ _ (bi_k1 (bi_k1 l0 rfl rfl) rfl rfl) (bi_k1 (bi_k1 l1 rfl rfl) rfl rfl) (bi_k1 (bi_k1 l2 rfl rfl) rfl rfl) (bi_k1 (bi_k1 l3 rfl rfl) rfl rfl) (bi_k1 (bi_k1 l4 rfl rfl) rfl rfl) (bi_k1 (bi_k1 l5 rfl rfl) rfl rfl) bi_e1 hh
def fX11_feed_23b (n : Nat) (r23 : ai_H → Nat → Int32 → Int32 → Int32 → Int32 → Int32 → Int32 → Option (Int32 × ai_H)) (h : ai_H) (v0 : Nat) (v1 : Int32) (v2 : Int32) (v3 : Int32) (v4 : Int32) (v5 : Int32) (v6 : Int32) : Option (Int32 × ai_H) :=
  if (20 : Int32) ≤ v6 then (
    (pI n h v0 11 1).bind fun x1 =>
    (sF n h v0 11 1 (.int) (.int (x1 + (20 : Int32)))).bind fun h2 =>
    (pI n h2 v0 11 1).bind fun x3 =>
    some (x3, h2))
  else (
    if (4 : Int32) ≤ v6 then (
      if (8 : Int32) ≤ v6 then (
        if (12 : Int32) ≤ v6 then (
          if (16 : Int32) ≤ v6 then (
            fX11_feed_76 n r23 h v0 v1 v2 v3 v4 v5 v6 v5)
          else (
            fX11_feed_76 n r23 h v0 v1 v2 v3 v4 v5 v6 v4))
        else (
          fX11_feed_76 n r23 h v0 v1 v2 v3 v4 v5 v6 v3))
      else (
        fX11_feed_76 n r23 h v0 v1 v2 v3 v4 v5 v6 v2))
    else (
      fX11_feed_76 n r23 h v0 v1 v2 v3 v4 v5 v6 v1))
theorem sX11_feed_23b {n : Nat} {r23 : ai_H → Nat → Int32 → Int32 → Int32 → Int32 → Int32 → Int32 → Option (Int32 × ai_H)} {q : Int32 × ai_H} {h : ai_H} {v0 : Nat} {v1 : Int32} {v2 : Int32} {v3 : Int32} {v4 : Int32} {v5 : Int32} {v6 : Int32} {lv : ai_L} (R23 : ∀ (h : ai_H) (v0 : Nat) (v1 : Int32) (v2 : Int32) (v3 : Int32) (v4 : Int32) (v5 : Int32) (v6 : Int32) (lv : ai_L), ai_ld 0 lv = some (.ref v0) → ai_ld 1 lv = some (.int v1) → ai_ld 2 lv = some (.int v2) → ai_ld 3 lv = some (.int v3) → ai_ld 4 lv = some (.int v4) → ai_ld 5 lv = some (.int v5) → ai_ld 6 lv = some (.int v6) → r23 h v0 v1 v2 v3 v4 v5 v6 = some q → bi_go 0 tX11_feed n (fI n q) 23 lv [] h) (l0 : ai_ld 0 lv = some (.ref v0)) (l1 : ai_ld 1 lv = some (.int v1)) (l2 : ai_ld 2 lv = some (.int v2)) (l3 : ai_ld 3 lv = some (.int v3)) (l4 : ai_ld 4 lv = some (.int v4)) (l5 : ai_ld 5 lv = some (.int v5)) (l6 : ai_ld 6 lv = some (.int v6)) (hh : fX11_feed_23b n r23 h v0 v1 v2 v3 v4 v5 v6 = some q) : bi_go 0 tX11_feed n (fI n q) 23 lv [] h := by
  unfold fX11_feed_23b at hh
  refine go_il (pc := 23) rfl l6 ?_
  refine go_pi (pc := 25) rfl ?_
  refine bi_ite hh (fun hc hh => ?_) (fun hc hh => ?_)
  · refine go_cmpgeT (pc := 27) rfl hc ?_
    refine go_al (pc := 113) rfl l0 ?_
    refine go_dup (pc := 114) rfl rfl ?_
    obtain ⟨x1, ex1, hh⟩ := bi_bd hh
    refine go_gfI (pc := 115) rfl ex1 ?_
    refine go_pi (pc := 118) rfl ?_
    refine go_iadd (pc := 120) rfl ?_
    obtain ⟨h2, eh2, hh⟩ := bi_bd hh
    refine go_pf (pc := 121) rfl eh2 ?_
    refine go_al (pc := 124) rfl l0 ?_
    obtain ⟨x3, ex3, hh⟩ := bi_bd hh
    refine go_gfI (pc := 125) rfl ex3 ?_
    exact go_ri (pc := 128) rfl hh
  · refine go_cmpgeF (pc := 27) rfl hc ?_
    refine go_il (pc := 30) rfl l6 ?_
    refine go_pi (pc := 32) rfl ?_
    refine bi_ite hh (fun hc hh => ?_) (fun hc hh => ?_)
    · refine go_cmpgeT (pc := 33) rfl hc ?_
      refine go_il (pc := 40) rfl l6 ?_
      refine go_pi (pc := 42) rfl ?_
      refine bi_ite hh (fun hc hh => ?_) (fun hc hh => ?_)
      · refine go_cmpgeT (pc := 44) rfl hc ?_
        refine go_il (pc := 51) rfl l6 ?_
        refine go_pi (pc := 53) rfl ?_
        refine bi_ite hh (fun hc hh => ?_) (fun hc hh => ?_)
        · refine go_cmpgeT (pc := 55) rfl hc ?_
          refine go_il (pc := 62) rfl l6 ?_
          refine go_pi (pc := 64) rfl ?_
          refine bi_ite hh (fun hc hh => ?_) (fun hc hh => ?_)
          · refine go_cmpgeT (pc := 66) rfl hc ?_
            refine go_il (pc := 74) rfl l5 ?_
            exact sX11_feed_76 R23 l0 l1 l2 l3 l4 l5 l6 hh
          · refine go_cmpgeF (pc := 66) rfl hc ?_
            refine go_il (pc := 69) rfl l4 ?_
            refine go_goto (pc := 71) rfl ?_
            exact sX11_feed_76 R23 l0 l1 l2 l3 l4 l5 l6 hh
        · refine go_cmpgeF (pc := 55) rfl hc ?_
          refine go_il (pc := 58) rfl l3 ?_
          refine go_goto (pc := 59) rfl ?_
          exact sX11_feed_76 R23 l0 l1 l2 l3 l4 l5 l6 hh
      · refine go_cmpgeF (pc := 44) rfl hc ?_
        refine go_il (pc := 47) rfl l2 ?_
        refine go_goto (pc := 48) rfl ?_
        exact sX11_feed_76 R23 l0 l1 l2 l3 l4 l5 l6 hh
    · refine go_cmpgeF (pc := 33) rfl hc ?_
      refine go_il (pc := 36) rfl l1 ?_
      refine go_goto (pc := 37) rfl ?_
      exact sX11_feed_76 R23 l0 l1 l2 l3 l4 l5 l6 hh
def fX11_feed_23 (n : Nat) : Nat → ai_H → Nat → Int32 → Int32 → Int32 → Int32 → Int32 → Int32 → Option (Int32 × ai_H)
  | 0 => fun _ _ _ _ _ _ _ _ => none
  | k + 1 => fun h v0 v1 v2 v3 v4 v5 v6 => fX11_feed_23b n (fX11_feed_23 n k) h v0 v1 v2 v3 v4 v5 v6
theorem sX11_feed_23 {n : Nat} {q : Int32 × ai_H} : ∀ (k : Nat) (h : ai_H) (v0 : Nat) (v1 : Int32) (v2 : Int32) (v3 : Int32) (v4 : Int32) (v5 : Int32) (v6 : Int32) (lv : ai_L), ai_ld 0 lv = some (.ref v0) → ai_ld 1 lv = some (.int v1) → ai_ld 2 lv = some (.int v2) → ai_ld 3 lv = some (.int v3) → ai_ld 4 lv = some (.int v4) → ai_ld 5 lv = some (.int v5) → ai_ld 6 lv = some (.int v6) → fX11_feed_23 n k h v0 v1 v2 v3 v4 v5 v6 = some q → bi_go 0 tX11_feed n (fI n q) 23 lv [] h
  | 0 => fun _ _ _ _ _ _ _ _ _ _ _ _ _ _ _ _ hh => by cases hh
  | k + 1 => fun h v0 v1 v2 v3 v4 v5 v6 lv l0 l1 l2 l3 l4 l5 l6 hh => sX11_feed_23b  (sX11_feed_23  k) l0 l1 l2 l3 l4 l5 l6 hh
def fX11_feed (n : Nat) (h : ai_H) (a0 : Nat) (a1 : Int32) (a2 : Int32) (a3 : Int32) (a4 : Int32) (a5 : Int32) : Option (Int32 × ai_H) :=
  (kO n h a0 11).bind fun _ =>
  (sF n h a0 11 2 (.int) (.int (0 : Int32))).bind fun h1 =>
  (pI n h1 a0 11 1).bind fun x2 =>
  if (x2 + (20 : Int32)) ≤ (700 : Int32) then (
    fX11_feed_23 n bi_K h1 a0 a1 a2 a3 a4 a5 (0 : Int32))
  else (
    some ((-1 : Int32), h1))
theorem gX11_feed {n : Nat} {h : ai_H} {a0 : Nat} {a1 : Int32} {a2 : Int32} {a3 : Int32} {a4 : Int32} {a5 : Int32} {q : Int32 × ai_H} (hh : fX11_feed n h a0 a1 a2 a3 a4 a5 = some q) : kO n h a0 11 = some () := by
  obtain ⟨_, e, -⟩ := bi_bd hh
  exact e
theorem sX11_feed {n : Nat} {h : ai_H} {a0 : Nat} {a1 : Int32} {a2 : Int32} {a3 : Int32} {a4 : Int32} {a5 : Int32} {q : Int32 × ai_H} (hh : fX11_feed n h a0 a1 a2 a3 a4 a5 = some q) : bi_sp 1 142 [.ref a0, .int a1, .int a2, .int a3, .int a4, .int a5] h n (fI n q) := by
  refine bi_en (D := 0) (T := tX11_feed) (funext fun pc => rfl) rfl (Nat.le_of_ble_eq_true rfl) ?_
  unfold fX11_feed at hh
  obtain ⟨_, eO, hh⟩ := bi_bd hh
  refine go_al (pc := 0) rfl (rfl : ai_ld 0 (lv_args 0 [.ref a0, .int a1, .int a2, .int a3, .int a4, .int a5]) = some (.ref a0)) ?_
  refine go_pi (pc := 1) rfl ?_
  obtain ⟨h1, eh1, hh⟩ := bi_bd hh
  refine go_pf (pc := 2) rfl eh1 ?_
  refine go_al (pc := 5) rfl (rfl : ai_ld 0 (lv_args 0 [.ref a0, .int a1, .int a2, .int a3, .int a4, .int a5]) = some (.ref a0)) ?_
  obtain ⟨x2, ex2, hh⟩ := bi_bd hh
  refine go_gfI (pc := 6) rfl ex2 ?_
  refine go_pi (pc := 9) rfl ?_
  refine go_iadd (pc := 11) rfl ?_
  refine go_pi (pc := 12) rfl ?_
  refine bi_ite hh (fun hc hh => ?_) (fun hc hh => ?_)
  · refine go_cmpleT (pc := 15) rfl hc ?_
    refine go_pi (pc := 20) rfl ?_
    refine go_is (pc := 21) rfl ?_
    exact sX11_feed_23  _ _ _ _ _ _ _ _ _ _ (bi_k1 (rfl : ai_ld 0 (lv_args 0 [.ref a0, .int a1, .int a2, .int a3, .int a4, .int a5]) = some (.ref a0)) rfl rfl) (bi_k1 (rfl : ai_ld 1 (lv_args 0 [.ref a0, .int a1, .int a2, .int a3, .int a4, .int a5]) = some (.int a1)) rfl rfl) (bi_k1 (rfl : ai_ld 2 (lv_args 0 [.ref a0, .int a1, .int a2, .int a3, .int a4, .int a5]) = some (.int a2)) rfl rfl) (bi_k1 (rfl : ai_ld 3 (lv_args 0 [.ref a0, .int a1, .int a2, .int a3, .int a4, .int a5]) = some (.int a3)) rfl rfl) (bi_k1 (rfl : ai_ld 4 (lv_args 0 [.ref a0, .int a1, .int a2, .int a3, .int a4, .int a5]) = some (.int a4)) rfl rfl) (bi_k1 (rfl : ai_ld 5 (lv_args 0 [.ref a0, .int a1, .int a2, .int a3, .int a4, .int a5]) = some (.int a5)) rfl rfl) bi_e1 hh
  · refine go_cmpleF (pc := 15) rfl hc ?_
    refine go_pi (pc := 18) rfl ?_
    exact go_ri (pc := 19) rfl hh
def fX11_isIn (n : Nat) (h : ai_H) (a0 : Int32) (a1 : Int32) (a2 : Int32) : Option (Int32 × ai_H) :=
  if a0 < a1 then (
    some ((0 : Int32), h))
  else (
    if a2 < a0 then (
      some ((0 : Int32), h))
    else (
      some ((1 : Int32), h)))
theorem sX11_isIn {n : Nat} {h : ai_H} {a0 : Int32} {a1 : Int32} {a2 : Int32} {q : Int32 × ai_H} (hh : fX11_isIn n h a0 a1 a2 = some q) : bi_sp 1 143 [.int a0, .int a1, .int a2] h n (fI n q) := by
  refine bi_en (D := 0) (T := tX11_isIn) (funext fun pc => rfl) rfl (Nat.le_of_ble_eq_true rfl) ?_
  unfold fX11_isIn at hh
  refine go_il (pc := 0) rfl (rfl : ai_ld 0 (lv_args 0 [.int a0, .int a1, .int a2]) = some (.int a0)) ?_
  refine go_il (pc := 1) rfl (rfl : ai_ld 1 (lv_args 0 [.int a0, .int a1, .int a2]) = some (.int a1)) ?_
  refine bi_ite hh (fun hc hh => ?_) (fun hc hh => ?_)
  · refine go_cmpltT (pc := 2) rfl hc ?_
    refine go_pi (pc := 14) rfl ?_
    exact go_rz (pc := 15) rfl bi_z0 hh
  · refine go_cmpltF (pc := 2) rfl hc ?_
    refine go_il (pc := 5) rfl (rfl : ai_ld 0 (lv_args 0 [.int a0, .int a1, .int a2]) = some (.int a0)) ?_
    refine go_il (pc := 6) rfl (rfl : ai_ld 2 (lv_args 0 [.int a0, .int a1, .int a2]) = some (.int a2)) ?_
    refine bi_ite hh (fun hc hh => ?_) (fun hc hh => ?_)
    · refine go_cmpgtT (pc := 7) rfl hc ?_
      refine go_pi (pc := 14) rfl ?_
      exact go_rz (pc := 15) rfl bi_z0 hh
    · refine go_cmpgtF (pc := 7) rfl hc ?_
      refine go_pi (pc := 10) rfl ?_
      refine go_goto (pc := 11) rfl ?_
      exact go_rz (pc := 15) rfl bi_z1 hh
def fX11_isOf (n : Nat) (h : ai_H) (a0 : Int32) (a1 : Int32) : Option (Int32 × ai_H) :=
  if ¬ ((a0 >>> (a1 &&& 31)) &&& (1 : Int32)) = (1 : Int32) then (
    some ((0 : Int32), h))
  else (
    some ((1 : Int32), h))
theorem sX11_isOf {n : Nat} {h : ai_H} {a0 : Int32} {a1 : Int32} {q : Int32 × ai_H} (hh : fX11_isOf n h a0 a1 = some q) : bi_sp 1 144 [.int a0, .int a1] h n (fI n q) := by
  refine bi_en (D := 0) (T := tX11_isOf) (funext fun pc => rfl) rfl (Nat.le_of_ble_eq_true rfl) ?_
  unfold fX11_isOf at hh
  refine go_il (pc := 0) rfl (rfl : ai_ld 0 (lv_args 0 [.int a0, .int a1]) = some (.int a0)) ?_
  refine go_il (pc := 1) rfl (rfl : ai_ld 1 (lv_args 0 [.int a0, .int a1]) = some (.int a1)) ?_
  refine go_ishr (pc := 2) rfl ?_
  refine go_pi (pc := 3) rfl ?_
  refine go_iand (pc := 4) rfl ?_
  refine go_pi (pc := 5) rfl ?_
  refine bi_ite hh (fun hc hh => ?_) (fun hc hh => ?_)
  · refine go_cmpneT (pc := 6) rfl hc ?_
    refine go_pi (pc := 13) rfl ?_
    exact go_rz (pc := 14) rfl bi_z0 hh
  · refine go_cmpneF (pc := 6) rfl hc ?_
    refine go_pi (pc := 9) rfl ?_
    refine go_goto (pc := 10) rfl ?_
    exact go_rz (pc := 14) rfl bi_z1 hh
def fX11_wrong (n : Nat) (h : ai_H) (a0 : Nat) (a1 : Int32) : Option (Int32 × ai_H) :=
  (kO n h a0 11).bind fun _ =>
  (sF n h a0 11 4 (.int) (.int a1)).bind fun h1 =>
  (pI n h1 a0 11 10).bind fun x2 =>
  (sF n h1 a0 11 5 (.int) (.int x2)).bind fun h3 =>
  some ((0 : Int32), h3)
theorem gX11_wrong {n : Nat} {h : ai_H} {a0 : Nat} {a1 : Int32} {q : Int32 × ai_H} (hh : fX11_wrong n h a0 a1 = some q) : kO n h a0 11 = some () := by
  obtain ⟨_, e, -⟩ := bi_bd hh
  exact e
theorem sX11_wrong {n : Nat} {h : ai_H} {a0 : Nat} {a1 : Int32} {q : Int32 × ai_H} (hh : fX11_wrong n h a0 a1 = some q) : bi_sp 1 145 [.ref a0, .int a1] h n (fI n q) := by
  refine bi_en (D := 0) (T := tX11_wrong) (funext fun pc => rfl) rfl (Nat.le_of_ble_eq_true rfl) ?_
  unfold fX11_wrong at hh
  obtain ⟨_, eO, hh⟩ := bi_bd hh
  refine go_al (pc := 0) rfl (rfl : ai_ld 0 (lv_args 0 [.ref a0, .int a1]) = some (.ref a0)) ?_
  refine go_il (pc := 1) rfl (rfl : ai_ld 1 (lv_args 0 [.ref a0, .int a1]) = some (.int a1)) ?_
  obtain ⟨h1, eh1, hh⟩ := bi_bd hh
  refine go_pf (pc := 2) rfl eh1 ?_
  refine go_al (pc := 5) rfl (rfl : ai_ld 0 (lv_args 0 [.ref a0, .int a1]) = some (.ref a0)) ?_
  refine go_al (pc := 6) rfl (rfl : ai_ld 0 (lv_args 0 [.ref a0, .int a1]) = some (.ref a0)) ?_
  obtain ⟨x2, ex2, hh⟩ := bi_bd hh
  refine go_gfI (pc := 7) rfl ex2 ?_
  obtain ⟨h3, eh3, hh⟩ := bi_bd hh
  refine go_pf (pc := 10) rfl eh3 ?_
  refine go_pi (pc := 13) rfl ?_
  exact go_rz (pc := 14) rfl bi_z0 hh
