/-! ===== methods as functions, part 2 ===== -/
def fX0_pass_40 (n : Nat) (r10 : ai_H → Nat → Int32 → Option (Unit × ai_H)) (h : ai_H) (v0 : Nat) (v1 : Int32) : Option (Unit × ai_H) :=
  r10 h v0 (v1 + 1)
theorem sX0_pass_40 {n : Nat} {r10 : ai_H → Nat → Int32 → Option (Unit × ai_H)} {q : Unit × ai_H} {h : ai_H} {v0 : Nat} {v1 : Int32} {lv : ai_L} (R10 : ∀ (h : ai_H) (v0 : Nat) (v1 : Int32) (lv : ai_L), ai_ld 0 lv = some (.ref v0) → ai_ld 1 lv = some (.int v1) → r10 h v0 v1 = some q → bi_go 4 tX0_pass n (fV n q) 10 lv [] h) (l0 : ai_ld 0 lv = some (.ref v0)) (l1 : ai_ld 1 lv = some (.int v1)) (hh : fX0_pass_40 n r10 h v0 v1 = some q) : bi_go 4 tX0_pass n (fV n q) 40 lv [] h := by
  unfold fX0_pass_40 at hh
  refine go_inc (pc := 40) rfl l1 ?_
  refine go_goto (pc := 43) rfl ?_
  exact R10 _ _ _ _ (bi_k1 l0 rfl rfl) bi_e1 hh
def fX0_pass_48b (n : Nat) (r48 : ai_H → Nat → Int32 → Option (Unit × ai_H)) (h : ai_H) (v0 : Nat) (v1 : Int32) : Option (Unit × ai_H) :=
  (pR n h v0 0 0).bind fun x1 =>
  (pR n h x1 8 2).bind fun x2 =>
  (pI n h x2 6 4).bind fun x3 =>
  if x3 ≤ v1 then (
    (pR n h v0 0 1).bind fun x4 =>
    (pI n h x4 5 0).bind fun x5 =>
    (sF n h x4 5 0 (.int) (.int (x5 + (1 : Int32)))).bind fun h6 =>
    some ((), h6))
  else (
    (pR n h v0 0 1).bind fun x7 =>
    (pR n h x7 5 8).bind fun x8 =>
    (pR n h v0 0 0).bind fun x9 =>
    (pR n h x9 8 2).bind fun x10 =>
    (fX6_cell n h x10 v1 (2 : Int32)).bind fun q11 =>
    (wX 1 (fun x => x) n q11.2 x8 v1 q11.1).bind fun h12 =>
    r48 h12 v0 (v1 + 1))
theorem sX0_pass_48b {n : Nat} {r48 : ai_H → Nat → Int32 → Option (Unit × ai_H)} {q : Unit × ai_H} {h : ai_H} {v0 : Nat} {v1 : Int32} {lv : ai_L} (R48 : ∀ (h : ai_H) (v0 : Nat) (v1 : Int32) (lv : ai_L), ai_ld 0 lv = some (.ref v0) → ai_ld 1 lv = some (.int v1) → r48 h v0 v1 = some q → bi_go 4 tX0_pass n (fV n q) 48 lv [] h) (l0 : ai_ld 0 lv = some (.ref v0)) (l1 : ai_ld 1 lv = some (.int v1)) (hh : fX0_pass_48b n r48 h v0 v1 = some q) : bi_go 4 tX0_pass n (fV n q) 48 lv [] h := by
  unfold fX0_pass_48b at hh
  refine go_il (pc := 48) rfl l1 ?_
  refine go_al (pc := 49) rfl l0 ?_
  obtain ⟨x1, ex1, hh⟩ := bi_bd hh
  refine go_gfR (pc := 50) rfl ex1 ?_
  obtain ⟨x2, ex2, hh⟩ := bi_bd hh
  refine go_gfR (pc := 53) rfl ex2 ?_
  obtain ⟨x3, ex3, hh⟩ := bi_bd hh
  refine go_gfI (pc := 56) rfl ex3 ?_
  refine bi_ite hh (fun hc hh => ?_) (fun hc hh => ?_)
  · refine go_cmpgeT (pc := 59) rfl hc ?_
    refine go_al (pc := 89) rfl l0 ?_
    obtain ⟨x4, ex4, hh⟩ := bi_bd hh
    refine go_gfR (pc := 90) rfl ex4 ?_
    refine go_dup (pc := 93) rfl rfl ?_
    obtain ⟨x5, ex5, hh⟩ := bi_bd hh
    refine go_gfI (pc := 94) rfl ex5 ?_
    refine go_pi (pc := 97) rfl ?_
    refine go_iadd (pc := 98) rfl ?_
    obtain ⟨h6, eh6, hh⟩ := bi_bd hh
    refine go_pf (pc := 99) rfl eh6 ?_
    exact go_rv (pc := 102) rfl hh
  · refine go_cmpgeF (pc := 59) rfl hc ?_
    refine go_al (pc := 62) rfl l0 ?_
    obtain ⟨x7, ex7, hh⟩ := bi_bd hh
    refine go_gfR (pc := 63) rfl ex7 ?_
    obtain ⟨x8, ex8, hh⟩ := bi_bd hh
    refine go_gfR (pc := 66) rfl ex8 ?_
    refine go_il (pc := 69) rfl l1 ?_
    refine go_al (pc := 70) rfl l0 ?_
    obtain ⟨x9, ex9, hh⟩ := bi_bd hh
    refine go_gfR (pc := 71) rfl ex9 ?_
    obtain ⟨x10, ex10, hh⟩ := bi_bd hh
    refine go_gfR (pc := 74) rfl ex10 ?_
    refine go_il (pc := 77) rfl l1 ?_
    refine go_pi (pc := 78) rfl ?_
    obtain ⟨q11, eq11, hh⟩ := bi_bd hh
    refine go_ivI (pc := 79) rfl rfl (gX6_cell eq11) (Nat.le_of_ble_eq_true rfl) (bi_up (sX6_cell eq11) (Nat.le_of_ble_eq_true rfl)) ?_
    obtain ⟨h12, eh12, hh⟩ := bi_bd hh
    refine go_iast (pc := 82) rfl eh12 ?_
    refine go_inc (pc := 83) rfl l1 ?_
    refine go_goto (pc := 86) rfl ?_
    exact R48 _ _ _ _ (bi_k1 l0 rfl rfl) bi_e1 hh
def fX0_pass_48 (n : Nat) : Nat → ai_H → Nat → Int32 → Option (Unit × ai_H)
  | 0 => fun _ _ _ => none
  | k + 1 => fun h v0 v1 => fX0_pass_48b n (fX0_pass_48 n k) h v0 v1
theorem sX0_pass_48 {n : Nat} {q : Unit × ai_H} : ∀ (k : Nat) (h : ai_H) (v0 : Nat) (v1 : Int32) (lv : ai_L), ai_ld 0 lv = some (.ref v0) → ai_ld 1 lv = some (.int v1) → fX0_pass_48 n k h v0 v1 = some q → bi_go 4 tX0_pass n (fV n q) 48 lv [] h
  | 0 => fun _ _ _ _ _ _ hh => by cases hh
  | k + 1 => fun h v0 v1 lv l0 l1 hh => sX0_pass_48b  (sX0_pass_48  k) l0 l1 hh
def fX0_pass_10b (n : Nat) (r10 : ai_H → Nat → Int32 → Option (Unit × ai_H)) (h : ai_H) (v0 : Nat) (v1 : Int32) : Option (Unit × ai_H) :=
  (pR n h v0 0 0).bind fun x1 =>
  (pR n h x1 8 1).bind fun x2 =>
  (pI n h x2 6 4).bind fun x3 =>
  if x3 ≤ v1 then (
    fX0_pass_48 n bi_K h v0 (0 : Int32))
  else (
    (pR n h v0 0 1).bind fun x4 =>
    (fX5_isKept n h x4 v1).bind fun q5 =>
    if q5.1 = 0 then (
      fX0_pass_40 n r10 q5.2 v0 v1)
    else (
      (fX0_growOlder n q5.2 v0 v1).bind fun q6 =>
      fX0_pass_40 n r10 q6.2 v0 v1))
theorem sX0_pass_10b {n : Nat} {r10 : ai_H → Nat → Int32 → Option (Unit × ai_H)} {q : Unit × ai_H} {h : ai_H} {v0 : Nat} {v1 : Int32} {lv : ai_L} (R10 : ∀ (h : ai_H) (v0 : Nat) (v1 : Int32) (lv : ai_L), ai_ld 0 lv = some (.ref v0) → ai_ld 1 lv = some (.int v1) → r10 h v0 v1 = some q → bi_go 4 tX0_pass n (fV n q) 10 lv [] h) (l0 : ai_ld 0 lv = some (.ref v0)) (l1 : ai_ld 1 lv = some (.int v1)) (hh : fX0_pass_10b n r10 h v0 v1 = some q) : bi_go 4 tX0_pass n (fV n q) 10 lv [] h := by
  unfold fX0_pass_10b at hh
  refine go_il (pc := 10) rfl l1 ?_
  refine go_al (pc := 11) rfl l0 ?_
  obtain ⟨x1, ex1, hh⟩ := bi_bd hh
  refine go_gfR (pc := 12) rfl ex1 ?_
  obtain ⟨x2, ex2, hh⟩ := bi_bd hh
  refine go_gfR (pc := 15) rfl ex2 ?_
  obtain ⟨x3, ex3, hh⟩ := bi_bd hh
  refine go_gfI (pc := 18) rfl ex3 ?_
  refine bi_ite hh (fun hc hh => ?_) (fun hc hh => ?_)
  · refine go_cmpgeT (pc := 21) rfl hc ?_
    refine go_pi (pc := 46) rfl ?_
    refine go_is (pc := 47) rfl ?_
    exact sX0_pass_48  _ _ _ _ _ (bi_k1 l0 rfl rfl) bi_e1 hh
  · refine go_cmpgeF (pc := 21) rfl hc ?_
    refine go_al (pc := 24) rfl l0 ?_
    obtain ⟨x4, ex4, hh⟩ := bi_bd hh
    refine go_gfR (pc := 25) rfl ex4 ?_
    refine go_il (pc := 28) rfl l1 ?_
    obtain ⟨q5, eq5, hh⟩ := bi_bd hh
    refine go_ivI (pc := 29) rfl rfl (gX5_isKept eq5) (Nat.le_of_ble_eq_true rfl) (bi_up (sX5_isKept eq5) (Nat.le_of_ble_eq_true rfl)) ?_
    refine bi_ite hh (fun hc hh => ?_) (fun hc hh => ?_)
    · refine go_ifeqT (pc := 32) rfl hc ?_
      exact sX0_pass_40 R10 l0 l1 hh
    · refine go_ifeqF (pc := 32) rfl hc ?_
      refine go_al (pc := 35) rfl l0 ?_
      refine go_il (pc := 36) rfl l1 ?_
      obtain ⟨q6, eq6, hh⟩ := bi_bd hh
      refine go_ivV (pc := 37) rfl rfl (gX0_growOlder eq6) (Nat.le_of_ble_eq_true rfl) (bi_up (sX0_growOlder eq6) (Nat.le_of_ble_eq_true rfl)) ?_
      exact sX0_pass_40 R10 l0 l1 hh
def fX0_pass_10 (n : Nat) : Nat → ai_H → Nat → Int32 → Option (Unit × ai_H)
  | 0 => fun _ _ _ => none
  | k + 1 => fun h v0 v1 => fX0_pass_10b n (fX0_pass_10 n k) h v0 v1
theorem sX0_pass_10 {n : Nat} {q : Unit × ai_H} : ∀ (k : Nat) (h : ai_H) (v0 : Nat) (v1 : Int32) (lv : ai_L), ai_ld 0 lv = some (.ref v0) → ai_ld 1 lv = some (.int v1) → fX0_pass_10 n k h v0 v1 = some q → bi_go 4 tX0_pass n (fV n q) 10 lv [] h
  | 0 => fun _ _ _ _ _ _ hh => by cases hh
  | k + 1 => fun h v0 v1 lv l0 l1 hh => sX0_pass_10b  (sX0_pass_10  k) l0 l1 hh
def fX0_pass (n : Nat) (h : ai_H) (a0 : Nat) : Option (Unit × ai_H) :=
  (kO n h a0 0).bind fun _ =>
  (fX0_isSnowing n h a0).bind fun q1 =>
  (fX0_goWalks n q1.2 a0 q1.1).bind fun q2 =>
  fX0_pass_10 n bi_K q2.2 a0 (0 : Int32)
theorem gX0_pass {n : Nat} {h : ai_H} {a0 : Nat} {q : Unit × ai_H} (hh : fX0_pass n h a0 = some q) : kO n h a0 0 = some () := by
  obtain ⟨_, e, -⟩ := bi_bd hh
  exact e
theorem sX0_pass {n : Nat} {h : ai_H} {a0 : Nat} {q : Unit × ai_H} (hh : fX0_pass n h a0 = some q) : bi_sp 5 3 [.ref a0] h n (fV n q) := by
  refine bi_en (D := 4) (T := tX0_pass) (funext fun pc => rfl) rfl (Nat.le_of_ble_eq_true rfl) ?_
  unfold fX0_pass at hh
  obtain ⟨_, eO, hh⟩ := bi_bd hh
  refine go_al (pc := 0) rfl (rfl : ai_ld 0 (lv_args 0 [.ref a0]) = some (.ref a0)) ?_
  refine go_al (pc := 1) rfl (rfl : ai_ld 0 (lv_args 0 [.ref a0]) = some (.ref a0)) ?_
  obtain ⟨q1, eq1, hh⟩ := bi_bd hh
  refine go_ivI (pc := 2) rfl rfl (gX0_isSnowing eq1) (Nat.le_of_ble_eq_true rfl) (bi_up (sX0_isSnowing eq1) (Nat.le_of_ble_eq_true rfl)) ?_
  obtain ⟨q2, eq2, hh⟩ := bi_bd hh
  refine go_ivV (pc := 5) rfl rfl (gX0_goWalks eq2) (Nat.le_of_ble_eq_true rfl) (bi_up (sX0_goWalks eq2) (Nat.le_of_ble_eq_true rfl)) ?_
  refine go_pi (pc := 8) rfl ?_
  refine go_is (pc := 9) rfl ?_
  exact sX0_pass_10  _ _ _ _ _ (bi_k1 (rfl : ai_ld 0 (lv_args 0 [.ref a0]) = some (.ref a0)) rfl rfl) bi_e1 hh
def fX9_spread_70 (n : Nat) (r10 : ai_H → Nat → Int32 → Int32 → Int32 → Int32 → Option (Int32 × ai_H)) (r29 : ai_H → Nat → Int32 → Int32 → Int32 → Int32 → Int32 → Option (Int32 × ai_H)) (h : ai_H) (v0 : Nat) (v2 : Int32) (v3 : Int32) (v4 : Int32) (v5 : Int32) (v6 : Int32) : Option (Int32 × ai_H) :=
  r29 h v0 v2 v3 v4 v5 (v6 + 1)
theorem sX9_spread_70 {n : Nat} {r10 : ai_H → Nat → Int32 → Int32 → Int32 → Int32 → Option (Int32 × ai_H)} {r29 : ai_H → Nat → Int32 → Int32 → Int32 → Int32 → Int32 → Option (Int32 × ai_H)} {q : Int32 × ai_H} {h : ai_H} {v0 : Nat} {v2 : Int32} {v3 : Int32} {v4 : Int32} {v5 : Int32} {v6 : Int32} {lv : ai_L} (R10 : ∀ (h : ai_H) (v0 : Nat) (v2 : Int32) (v3 : Int32) (v4 : Int32) (v5 : Int32) (lv : ai_L), ai_ld 0 lv = some (.ref v0) → ai_ld 2 lv = some (.int v2) → ai_ld 3 lv = some (.int v3) → ai_ld 4 lv = some (.int v4) → ai_ld 5 lv = some (.int v5) → r10 h v0 v2 v3 v4 v5 = some q → bi_go 2 tX9_spread n (fI n q) 10 lv [] h) (R29 : ∀ (h : ai_H) (v0 : Nat) (v2 : Int32) (v3 : Int32) (v4 : Int32) (v5 : Int32) (v6 : Int32) (lv : ai_L), ai_ld 0 lv = some (.ref v0) → ai_ld 2 lv = some (.int v2) → ai_ld 3 lv = some (.int v3) → ai_ld 4 lv = some (.int v4) → ai_ld 5 lv = some (.int v5) → ai_ld 6 lv = some (.int v6) → r29 h v0 v2 v3 v4 v5 v6 = some q → bi_go 2 tX9_spread n (fI n q) 29 lv [] h) (l0 : ai_ld 0 lv = some (.ref v0)) (l2 : ai_ld 2 lv = some (.int v2)) (l3 : ai_ld 3 lv = some (.int v3)) (l4 : ai_ld 4 lv = some (.int v4)) (l5 : ai_ld 5 lv = some (.int v5)) (l6 : ai_ld 6 lv = some (.int v6)) (hh : fX9_spread_70 n r10 r29 h v0 v2 v3 v4 v5 v6 = some q) : bi_go 2 tX9_spread n (fI n q) 70 lv [] h := by
  unfold fX9_spread_70 at hh
  refine go_inc (pc := 70) rfl l6 ?_
  refine go_goto (pc := 73) rfl ?_
  exact R29 _ _ _ _ _ _ _ _ (bi_k1 l0 rfl rfl) (bi_k1 l2 rfl rfl) (bi_k1 l3 rfl rfl) (bi_k1 l4 rfl rfl) (bi_k1 l5 rfl rfl) bi_e1 hh
def fX9_spread_29b (n : Nat) (r10 : ai_H → Nat → Int32 → Int32 → Int32 → Int32 → Option (Int32 × ai_H)) (r29 : ai_H → Nat → Int32 → Int32 → Int32 → Int32 → Int32 → Option (Int32 × ai_H)) (h : ai_H) (v0 : Nat) (v2 : Int32) (v3 : Int32) (v4 : Int32) (v5 : Int32) (v6 : Int32) : Option (Int32 × ai_H) :=
  (pR n h v0 8 1).bind fun x1 =>
  (pI n h x1 6 4).bind fun x2 =>
  if x2 ≤ v6 then (
    r10 h v0 v2 v3 v4 (v5 + 1))
  else (
    (fX8_ends n h v0 v6).bind fun q3 =>
    if ((v2 >>> (v6 &&& 31)) &&& (1 : Int32)) = 0 then (
      fX9_spread_70 n r10 r29 q3.2 v0 v2 v3 v4 v5 v6)
    else (
      if (v3 &&& q3.1) = 0 then (
        fX9_spread_70 n r10 r29 q3.2 v0 v2 v3 v4 v5 v6)
      else (
        fX9_spread_70 n r10 r29 q3.2 v0 v2 (v3 ||| q3.1) v4 v5 v6)))
theorem sX9_spread_29b {n : Nat} {r10 : ai_H → Nat → Int32 → Int32 → Int32 → Int32 → Option (Int32 × ai_H)} {r29 : ai_H → Nat → Int32 → Int32 → Int32 → Int32 → Int32 → Option (Int32 × ai_H)} {q : Int32 × ai_H} {h : ai_H} {v0 : Nat} {v2 : Int32} {v3 : Int32} {v4 : Int32} {v5 : Int32} {v6 : Int32} {lv : ai_L} (R10 : ∀ (h : ai_H) (v0 : Nat) (v2 : Int32) (v3 : Int32) (v4 : Int32) (v5 : Int32) (lv : ai_L), ai_ld 0 lv = some (.ref v0) → ai_ld 2 lv = some (.int v2) → ai_ld 3 lv = some (.int v3) → ai_ld 4 lv = some (.int v4) → ai_ld 5 lv = some (.int v5) → r10 h v0 v2 v3 v4 v5 = some q → bi_go 2 tX9_spread n (fI n q) 10 lv [] h) (R29 : ∀ (h : ai_H) (v0 : Nat) (v2 : Int32) (v3 : Int32) (v4 : Int32) (v5 : Int32) (v6 : Int32) (lv : ai_L), ai_ld 0 lv = some (.ref v0) → ai_ld 2 lv = some (.int v2) → ai_ld 3 lv = some (.int v3) → ai_ld 4 lv = some (.int v4) → ai_ld 5 lv = some (.int v5) → ai_ld 6 lv = some (.int v6) → r29 h v0 v2 v3 v4 v5 v6 = some q → bi_go 2 tX9_spread n (fI n q) 29 lv [] h) (l0 : ai_ld 0 lv = some (.ref v0)) (l2 : ai_ld 2 lv = some (.int v2)) (l3 : ai_ld 3 lv = some (.int v3)) (l4 : ai_ld 4 lv = some (.int v4)) (l5 : ai_ld 5 lv = some (.int v5)) (l6 : ai_ld 6 lv = some (.int v6)) (hh : fX9_spread_29b n r10 r29 h v0 v2 v3 v4 v5 v6 = some q) : bi_go 2 tX9_spread n (fI n q) 29 lv [] h := by
  unfold fX9_spread_29b at hh
  refine go_il (pc := 29) rfl l6 ?_
  refine go_al (pc := 31) rfl l0 ?_
  obtain ⟨x1, ex1, hh⟩ := bi_bd hh
  refine go_gfR (pc := 32) rfl ex1 ?_
  obtain ⟨x2, ex2, hh⟩ := bi_bd hh
  refine go_gfI (pc := 35) rfl ex2 ?_
  refine bi_ite hh (fun hc hh => ?_) (fun hc hh => ?_)
  · refine go_cmpgeT (pc := 38) rfl hc ?_
    refine go_inc (pc := 76) rfl l5 ?_
    refine go_goto (pc := 79) rfl ?_
    exact R10 _ _ _ _ _ _ _ (bi_k1 l0 rfl rfl) (bi_k1 l2 rfl rfl) (bi_k1 l3 rfl rfl) (bi_k1 l4 rfl rfl) bi_e1 hh
  · refine go_cmpgeF (pc := 38) rfl hc ?_
    refine go_al (pc := 41) rfl l0 ?_
    refine go_il (pc := 42) rfl l6 ?_
    obtain ⟨q3, eq3, hh⟩ := bi_bd hh
    refine go_ivI (pc := 44) rfl rfl (gX8_ends eq3) (Nat.le_of_ble_eq_true rfl) (bi_up (sX8_ends eq3) (Nat.le_of_ble_eq_true rfl)) ?_
    refine go_is (pc := 47) rfl ?_
    refine go_il (pc := 49) rfl (bi_k1 l2 rfl rfl) ?_
    refine go_il (pc := 50) rfl (bi_k1 l6 rfl rfl) ?_
    refine go_ishr (pc := 52) rfl ?_
    refine go_pi (pc := 53) rfl ?_
    refine go_iand (pc := 54) rfl ?_
    refine bi_ite hh (fun hc hh => ?_) (fun hc hh => ?_)
    · refine go_ifeqT (pc := 55) rfl hc ?_
      exact sX9_spread_70 R10 R29 (bi_k1 l0 rfl rfl) (bi_k1 l2 rfl rfl) (bi_k1 l3 rfl rfl) (bi_k1 l4 rfl rfl) (bi_k1 l5 rfl rfl) (bi_k1 l6 rfl rfl) hh
    · refine go_ifeqF (pc := 55) rfl hc ?_
      refine go_il (pc := 58) rfl (bi_k1 l3 rfl rfl) ?_
      refine go_il (pc := 59) rfl bi_e1 ?_
      refine go_iand (pc := 61) rfl ?_
      refine bi_ite hh (fun hc hh => ?_) (fun hc hh => ?_)
      · refine go_ifeqT (pc := 62) rfl hc ?_
        exact sX9_spread_70 R10 R29 (bi_k1 l0 rfl rfl) (bi_k1 l2 rfl rfl) (bi_k1 l3 rfl rfl) (bi_k1 l4 rfl rfl) (bi_k1 l5 rfl rfl) (bi_k1 l6 rfl rfl) hh
      · refine go_ifeqF (pc := 62) rfl hc ?_
        refine go_il (pc := 65) rfl (bi_k1 l3 rfl rfl) ?_
        refine go_il (pc := 66) rfl bi_e1 ?_
        refine go_ior (pc := 68) rfl ?_
        refine go_is (pc := 69) rfl ?_
        exact sX9_spread_70 R10 R29 (bi_k1 (bi_k1 l0 rfl rfl) rfl rfl) (bi_k1 (bi_k1 l2 rfl rfl) rfl rfl) bi_e1 (bi_k1 (bi_k1 l4 rfl rfl) rfl rfl) (bi_k1 (bi_k1 l5 rfl rfl) rfl rfl) (bi_k1 (bi_k1 l6 rfl rfl) rfl rfl) hh
def fX9_spread_29 (n : Nat) (r10 : ai_H → Nat → Int32 → Int32 → Int32 → Int32 → Option (Int32 × ai_H)) : Nat → ai_H → Nat → Int32 → Int32 → Int32 → Int32 → Int32 → Option (Int32 × ai_H)
  | 0 => fun _ _ _ _ _ _ _ => none
  | k + 1 => fun h v0 v2 v3 v4 v5 v6 => fX9_spread_29b n r10 (fX9_spread_29 n r10 k) h v0 v2 v3 v4 v5 v6
theorem sX9_spread_29 {n : Nat} {r10 : ai_H → Nat → Int32 → Int32 → Int32 → Int32 → Option (Int32 × ai_H)} {q : Int32 × ai_H} (R10 : ∀ (h : ai_H) (v0 : Nat) (v2 : Int32) (v3 : Int32) (v4 : Int32) (v5 : Int32) (lv : ai_L), ai_ld 0 lv = some (.ref v0) → ai_ld 2 lv = some (.int v2) → ai_ld 3 lv = some (.int v3) → ai_ld 4 lv = some (.int v4) → ai_ld 5 lv = some (.int v5) → r10 h v0 v2 v3 v4 v5 = some q → bi_go 2 tX9_spread n (fI n q) 10 lv [] h) : ∀ (k : Nat) (h : ai_H) (v0 : Nat) (v2 : Int32) (v3 : Int32) (v4 : Int32) (v5 : Int32) (v6 : Int32) (lv : ai_L), ai_ld 0 lv = some (.ref v0) → ai_ld 2 lv = some (.int v2) → ai_ld 3 lv = some (.int v3) → ai_ld 4 lv = some (.int v4) → ai_ld 5 lv = some (.int v5) → ai_ld 6 lv = some (.int v6) → fX9_spread_29 n r10 k h v0 v2 v3 v4 v5 v6 = some q → bi_go 2 tX9_spread n (fI n q) 29 lv [] h
  | 0 => fun _ _ _ _ _ _ _ _ _ _ _ _ _ _ hh => by cases hh
  | k + 1 => fun h v0 v2 v3 v4 v5 v6 lv l0 l2 l3 l4 l5 l6 hh => sX9_spread_29b R10 (sX9_spread_29 R10 k) l0 l2 l3 l4 l5 l6 hh
def fX9_spread_10b (n : Nat) (r10 : ai_H → Nat → Int32 → Int32 → Int32 → Int32 → Option (Int32 × ai_H)) (h : ai_H) (v0 : Nat) (v2 : Int32) (v3 : Int32) (v4 : Int32) (v5 : Int32) : Option (Int32 × ai_H) :=
  if (7 : Int32) ≤ v5 then (
    some (v3, h))
  else (
    if v4 = v3 then (
      some (v3, h))
    else (
      fX9_spread_29 n r10 bi_K h v0 v2 v3 v3 v5 (0 : Int32)))
theorem sX9_spread_10b {n : Nat} {r10 : ai_H → Nat → Int32 → Int32 → Int32 → Int32 → Option (Int32 × ai_H)} {q : Int32 × ai_H} {h : ai_H} {v0 : Nat} {v2 : Int32} {v3 : Int32} {v4 : Int32} {v5 : Int32} {lv : ai_L} (R10 : ∀ (h : ai_H) (v0 : Nat) (v2 : Int32) (v3 : Int32) (v4 : Int32) (v5 : Int32) (lv : ai_L), ai_ld 0 lv = some (.ref v0) → ai_ld 2 lv = some (.int v2) → ai_ld 3 lv = some (.int v3) → ai_ld 4 lv = some (.int v4) → ai_ld 5 lv = some (.int v5) → r10 h v0 v2 v3 v4 v5 = some q → bi_go 2 tX9_spread n (fI n q) 10 lv [] h) (l0 : ai_ld 0 lv = some (.ref v0)) (l2 : ai_ld 2 lv = some (.int v2)) (l3 : ai_ld 3 lv = some (.int v3)) (l4 : ai_ld 4 lv = some (.int v4)) (l5 : ai_ld 5 lv = some (.int v5)) (hh : fX9_spread_10b n r10 h v0 v2 v3 v4 v5 = some q) : bi_go 2 tX9_spread n (fI n q) 10 lv [] h := by
  unfold fX9_spread_10b at hh
  refine go_il (pc := 10) rfl l5 ?_
  refine go_pi (pc := 12) rfl ?_
  refine bi_ite hh (fun hc hh => ?_) (fun hc hh => ?_)
  · refine go_cmpgeT (pc := 14) rfl hc ?_
    refine go_il (pc := 82) rfl l3 ?_
    exact go_ri (pc := 83) rfl hh
  · refine go_cmpgeF (pc := 14) rfl hc ?_
    refine go_il (pc := 17) rfl l4 ?_
    refine go_il (pc := 19) rfl l3 ?_
    refine bi_ite hh (fun hc hh => ?_) (fun hc hh => ?_)
    · refine go_cmpeqT (pc := 20) rfl hc ?_
      refine go_il (pc := 82) rfl l3 ?_
      exact go_ri (pc := 83) rfl hh
    · refine go_cmpeqF (pc := 20) rfl hc ?_
      refine go_il (pc := 23) rfl l3 ?_
      refine go_is (pc := 24) rfl ?_
      refine go_pi (pc := 26) rfl ?_
      refine go_is (pc := 27) rfl ?_
      exact sX9_spread_29 R10 _ _ _ _ _ _ _ _ _ (bi_k1 (bi_k1 l0 rfl rfl) rfl rfl) (bi_k1 (bi_k1 l2 rfl rfl) rfl rfl) (bi_k1 (bi_k1 l3 rfl rfl) rfl rfl) (bi_k1 bi_e1 rfl rfl) (bi_k1 (bi_k1 l5 rfl rfl) rfl rfl) bi_e1 hh
def fX9_spread_10 (n : Nat) : Nat → ai_H → Nat → Int32 → Int32 → Int32 → Int32 → Option (Int32 × ai_H)
  | 0 => fun _ _ _ _ _ _ => none
  | k + 1 => fun h v0 v2 v3 v4 v5 => fX9_spread_10b n (fX9_spread_10 n k) h v0 v2 v3 v4 v5
theorem sX9_spread_10 {n : Nat} {q : Int32 × ai_H} : ∀ (k : Nat) (h : ai_H) (v0 : Nat) (v2 : Int32) (v3 : Int32) (v4 : Int32) (v5 : Int32) (lv : ai_L), ai_ld 0 lv = some (.ref v0) → ai_ld 2 lv = some (.int v2) → ai_ld 3 lv = some (.int v3) → ai_ld 4 lv = some (.int v4) → ai_ld 5 lv = some (.int v5) → fX9_spread_10 n k h v0 v2 v3 v4 v5 = some q → bi_go 2 tX9_spread n (fI n q) 10 lv [] h
  | 0 => fun _ _ _ _ _ _ _ _ _ _ _ _ hh => by cases hh
  | k + 1 => fun h v0 v2 v3 v4 v5 lv l0 l2 l3 l4 l5 hh => sX9_spread_10b  (sX9_spread_10  k) l0 l2 l3 l4 l5 hh
def fX9_spread (n : Nat) (h : ai_H) (a0 : Nat) (a1 : Int32) (a2 : Int32) : Option (Int32 × ai_H) :=
  fX9_spread_10 n bi_K h a0 a2 ((1 : Int32) <<< (a1 &&& 31)) (0 : Int32) (0 : Int32)
theorem sX9_spread {n : Nat} {h : ai_H} {a0 : Nat} {a1 : Int32} {a2 : Int32} {q : Int32 × ai_H} (hh : fX9_spread n h a0 a1 a2 = some q) : bi_sp 3 74 [.ref a0, .int a1, .int a2] h n (fI n q) := by
  refine bi_en (D := 2) (T := tX9_spread) (funext fun pc => rfl) rfl (Nat.le_of_ble_eq_true rfl) ?_
  unfold fX9_spread at hh
  refine go_pi (pc := 0) rfl ?_
  refine go_il (pc := 1) rfl (rfl : ai_ld 1 (lv_args 0 [.ref a0, .int a1, .int a2]) = some (.int a1)) ?_
  refine go_ishl (pc := 2) rfl ?_
  refine go_is (pc := 3) rfl ?_
  refine go_pi (pc := 4) rfl ?_
  refine go_is (pc := 5) rfl ?_
  refine go_pi (pc := 7) rfl ?_
  refine go_is (pc := 8) rfl ?_
  exact sX9_spread_10  _ _ _ _ _ _ _ _ (bi_k1 (bi_k1 (bi_k1 (rfl : ai_ld 0 (lv_args 0 [.ref a0, .int a1, .int a2]) = some (.ref a0)) rfl rfl) rfl rfl) rfl rfl) (bi_k1 (bi_k1 (bi_k1 (rfl : ai_ld 2 (lv_args 0 [.ref a0, .int a1, .int a2]) = some (.int a2)) rfl rfl) rfl rfl) rfl rfl) (bi_k1 (bi_k1 bi_e1 rfl rfl) rfl rfl) (bi_k1 bi_e1 rfl rfl) bi_e1 hh
def fX1_begin_79 (n : Nat) (r16 : ai_H → Nat → Nat → Int32 → Int32 → Int32 → Option (Unit × ai_H)) (h : ai_H) (v0 : Nat) (v1 : Nat) (v3 : Int32) (v4 : Int32) (v5 : Int32) : Option (Unit × ai_H) :=
  r16 h v0 v1 v3 v4 (v5 + 1)
theorem sX1_begin_79 {n : Nat} {r16 : ai_H → Nat → Nat → Int32 → Int32 → Int32 → Option (Unit × ai_H)} {q : Unit × ai_H} {h : ai_H} {v0 : Nat} {v1 : Nat} {v3 : Int32} {v4 : Int32} {v5 : Int32} {lv : ai_L} (R16 : ∀ (h : ai_H) (v0 : Nat) (v1 : Nat) (v3 : Int32) (v4 : Int32) (v5 : Int32) (lv : ai_L), ai_ld 0 lv = some (.ref v0) → ai_ld 1 lv = some (.ref v1) → ai_ld 3 lv = some (.int v3) → ai_ld 4 lv = some (.int v4) → ai_ld 5 lv = some (.int v5) → r16 h v0 v1 v3 v4 v5 = some q → bi_go 3 tX1_begin n (fV n q) 16 lv [] h) (l0 : ai_ld 0 lv = some (.ref v0)) (l1 : ai_ld 1 lv = some (.ref v1)) (l3 : ai_ld 3 lv = some (.int v3)) (l4 : ai_ld 4 lv = some (.int v4)) (l5 : ai_ld 5 lv = some (.int v5)) (hh : fX1_begin_79 n r16 h v0 v1 v3 v4 v5 = some q) : bi_go 3 tX1_begin n (fV n q) 79 lv [] h := by
  unfold fX1_begin_79 at hh
  refine go_inc (pc := 79) rfl l5 ?_
  refine go_goto (pc := 82) rfl ?_
  exact R16 _ _ _ _ _ _ _ (bi_k1 l0 rfl rfl) (bi_k1 l1 rfl rfl) (bi_k1 l3 rfl rfl) (bi_k1 l4 rfl rfl) bi_e1 hh
def fX1_begin_78 (n : Nat) (r16 : ai_H → Nat → Nat → Int32 → Int32 → Int32 → Option (Unit × ai_H)) (h : ai_H) (v0 : Nat) (v1 : Nat) (v3 : Int32) (v4 : Int32) (v5 : Int32) (s0 : Int32) (s1 : Int32) (s2 : Nat) : Option (Unit × ai_H) :=
  (wB n h s2 s1 s0).bind fun h1 =>
  fX1_begin_79 n r16 h1 v0 v1 v3 v4 v5
theorem sX1_begin_78 {n : Nat} {r16 : ai_H → Nat → Nat → Int32 → Int32 → Int32 → Option (Unit × ai_H)} {q : Unit × ai_H} {h : ai_H} {v0 : Nat} {v1 : Nat} {v3 : Int32} {v4 : Int32} {v5 : Int32} {s0 : Int32} {s1 : Int32} {s2 : Nat} {lv : ai_L} (R16 : ∀ (h : ai_H) (v0 : Nat) (v1 : Nat) (v3 : Int32) (v4 : Int32) (v5 : Int32) (lv : ai_L), ai_ld 0 lv = some (.ref v0) → ai_ld 1 lv = some (.ref v1) → ai_ld 3 lv = some (.int v3) → ai_ld 4 lv = some (.int v4) → ai_ld 5 lv = some (.int v5) → r16 h v0 v1 v3 v4 v5 = some q → bi_go 3 tX1_begin n (fV n q) 16 lv [] h) (l0 : ai_ld 0 lv = some (.ref v0)) (l1 : ai_ld 1 lv = some (.ref v1)) (l3 : ai_ld 3 lv = some (.int v3)) (l4 : ai_ld 4 lv = some (.int v4)) (l5 : ai_ld 5 lv = some (.int v5)) (hh : fX1_begin_78 n r16 h v0 v1 v3 v4 v5 s0 s1 s2 = some q) : bi_go 3 tX1_begin n (fV n q) 78 lv [.int s0, .int s1, .ref s2] h := by
  unfold fX1_begin_78 at hh
  obtain ⟨h1, eh1, hh⟩ := bi_bd hh
  refine go_bast (pc := 78) rfl eh1 ?_
  exact sX1_begin_79 R16 l0 l1 l3 l4 l5 hh
def fX1_begin_73 (n : Nat) (r16 : ai_H → Nat → Nat → Int32 → Int32 → Int32 → Option (Unit × ai_H)) (h : ai_H) (v0 : Nat) (v1 : Nat) (v3 : Int32) (v4 : Int32) (v5 : Int32) (s0 : Int32) (s1 : Nat) : Option (Unit × ai_H) :=
  fX1_begin_78 n r16 h v0 v1 v3 v4 v5 (1 : Int32) s0 s1
theorem sX1_begin_73 {n : Nat} {r16 : ai_H → Nat → Nat → Int32 → Int32 → Int32 → Option (Unit × ai_H)} {q : Unit × ai_H} {h : ai_H} {v0 : Nat} {v1 : Nat} {v3 : Int32} {v4 : Int32} {v5 : Int32} {s0 : Int32} {s1 : Nat} {lv : ai_L} (R16 : ∀ (h : ai_H) (v0 : Nat) (v1 : Nat) (v3 : Int32) (v4 : Int32) (v5 : Int32) (lv : ai_L), ai_ld 0 lv = some (.ref v0) → ai_ld 1 lv = some (.ref v1) → ai_ld 3 lv = some (.int v3) → ai_ld 4 lv = some (.int v4) → ai_ld 5 lv = some (.int v5) → r16 h v0 v1 v3 v4 v5 = some q → bi_go 3 tX1_begin n (fV n q) 16 lv [] h) (l0 : ai_ld 0 lv = some (.ref v0)) (l1 : ai_ld 1 lv = some (.ref v1)) (l3 : ai_ld 3 lv = some (.int v3)) (l4 : ai_ld 4 lv = some (.int v4)) (l5 : ai_ld 5 lv = some (.int v5)) (hh : fX1_begin_73 n r16 h v0 v1 v3 v4 v5 s0 s1 = some q) : bi_go 3 tX1_begin n (fV n q) 73 lv [.int s0, .ref s1] h := by
  unfold fX1_begin_73 at hh
  refine go_pi (pc := 73) rfl ?_
  refine go_goto (pc := 74) rfl ?_
  exact sX1_begin_78 R16 l0 l1 l3 l4 l5 hh
def fX1_begin_16b (n : Nat) (r16 : ai_H → Nat → Nat → Int32 → Int32 → Int32 → Option (Unit × ai_H)) (h : ai_H) (v0 : Nat) (v1 : Nat) (v3 : Int32) (v4 : Int32) (v5 : Int32) : Option (Unit × ai_H) :=
  (pI n h v0 1 2).bind fun x1 =>
  if x1 < v5 then (
    some ((), h))
  else (
    (pI n h v0 1 2).bind fun x2 =>
    if ¬ (v5 &&& (x2 ^^^ (-1 : Int32))) = 0 then (
      fX1_begin_79 n r16 h v0 v1 v3 v4 v5)
    else (
      (pR n h v0 1 0).bind fun x3 =>
      (pR n h v0 1 0).bind fun x4 =>
      (gB n h x4 (v5 &&& (v5 - (1 : Int32)))).bind fun x5 =>
      if ¬ x5 = 0 then (
        fX1_begin_73 n r16 h v0 v1 v3 v4 v5 v5 x3)
      else (
        (fX9_spread n h v1 v3 v5).bind fun q6 =>
        if ((q6.1 >>> (v4 &&& 31)) &&& (1 : Int32)) = 0 then (
          fX1_begin_78 n r16 q6.2 v0 v1 v3 v4 v5 (0 : Int32) v5 x3)
        else (
          fX1_begin_73 n r16 q6.2 v0 v1 v3 v4 v5 v5 x3))))
theorem sX1_begin_16b {n : Nat} {r16 : ai_H → Nat → Nat → Int32 → Int32 → Int32 → Option (Unit × ai_H)} {q : Unit × ai_H} {h : ai_H} {v0 : Nat} {v1 : Nat} {v3 : Int32} {v4 : Int32} {v5 : Int32} {lv : ai_L} (R16 : ∀ (h : ai_H) (v0 : Nat) (v1 : Nat) (v3 : Int32) (v4 : Int32) (v5 : Int32) (lv : ai_L), ai_ld 0 lv = some (.ref v0) → ai_ld 1 lv = some (.ref v1) → ai_ld 3 lv = some (.int v3) → ai_ld 4 lv = some (.int v4) → ai_ld 5 lv = some (.int v5) → r16 h v0 v1 v3 v4 v5 = some q → bi_go 3 tX1_begin n (fV n q) 16 lv [] h) (l0 : ai_ld 0 lv = some (.ref v0)) (l1 : ai_ld 1 lv = some (.ref v1)) (l3 : ai_ld 3 lv = some (.int v3)) (l4 : ai_ld 4 lv = some (.int v4)) (l5 : ai_ld 5 lv = some (.int v5)) (hh : fX1_begin_16b n r16 h v0 v1 v3 v4 v5 = some q) : bi_go 3 tX1_begin n (fV n q) 16 lv [] h := by
  unfold fX1_begin_16b at hh
  refine go_il (pc := 16) rfl l5 ?_
  refine go_al (pc := 18) rfl l0 ?_
  obtain ⟨x1, ex1, hh⟩ := bi_bd hh
  refine go_gfI (pc := 19) rfl ex1 ?_
  refine bi_ite hh (fun hc hh => ?_) (fun hc hh => ?_)
  · refine go_cmpgtT (pc := 22) rfl hc ?_
    exact go_rv (pc := 85) rfl hh
  · refine go_cmpgtF (pc := 22) rfl hc ?_
    refine go_il (pc := 25) rfl l5 ?_
    refine go_al (pc := 27) rfl l0 ?_
    obtain ⟨x2, ex2, hh⟩ := bi_bd hh
    refine go_gfI (pc := 28) rfl ex2 ?_
    refine go_pi (pc := 31) rfl ?_
    refine go_ixor (pc := 32) rfl ?_
    refine go_iand (pc := 33) rfl ?_
    refine bi_ite hh (fun hc hh => ?_) (fun hc hh => ?_)
    · refine go_ifneT (pc := 34) rfl hc ?_
      exact sX1_begin_79 R16 l0 l1 l3 l4 l5 hh
    · refine go_ifneF (pc := 34) rfl hc ?_
      refine go_al (pc := 37) rfl l0 ?_
      obtain ⟨x3, ex3, hh⟩ := bi_bd hh
      refine go_gfR (pc := 38) rfl ex3 ?_
      refine go_il (pc := 41) rfl l5 ?_
      refine go_al (pc := 43) rfl l0 ?_
      obtain ⟨x4, ex4, hh⟩ := bi_bd hh
      refine go_gfR (pc := 44) rfl ex4 ?_
      refine go_il (pc := 47) rfl l5 ?_
      refine go_il (pc := 49) rfl l5 ?_
      refine go_pi (pc := 51) rfl ?_
      refine go_isub (pc := 52) rfl ?_
      refine go_iand (pc := 53) rfl ?_
      obtain ⟨x5, ex5, hh⟩ := bi_bd hh
      refine go_bald (pc := 54) rfl ex5 ?_
      refine bi_ite hh (fun hc hh => ?_) (fun hc hh => ?_)
      · refine go_ifneT (pc := 55) rfl hc ?_
        exact sX1_begin_73 R16 l0 l1 l3 l4 l5 hh
      · refine go_ifneF (pc := 55) rfl hc ?_
        refine go_al (pc := 58) rfl l1 ?_
        refine go_il (pc := 59) rfl l3 ?_
        refine go_il (pc := 60) rfl l5 ?_
        obtain ⟨q6, eq6, hh⟩ := bi_bd hh
        refine go_iSI (pc := 62) rfl (Nat.le_of_ble_eq_true rfl) rfl (Nat.le_of_ble_eq_true rfl) (bi_up (sX9_spread eq6) (Nat.le_of_ble_eq_true rfl)) ?_
        refine go_il (pc := 65) rfl l4 ?_
        refine go_ishr (pc := 67) rfl ?_
        refine go_pi (pc := 68) rfl ?_
        refine go_iand (pc := 69) rfl ?_
        refine bi_ite hh (fun hc hh => ?_) (fun hc hh => ?_)
        · refine go_ifeqT (pc := 70) rfl hc ?_
          refine go_pi (pc := 77) rfl ?_
          exact sX1_begin_78 R16 l0 l1 l3 l4 l5 hh
        · refine go_ifeqF (pc := 70) rfl hc ?_
          exact sX1_begin_73 R16 l0 l1 l3 l4 l5 hh
def fX1_begin_16 (n : Nat) : Nat → ai_H → Nat → Nat → Int32 → Int32 → Int32 → Option (Unit × ai_H)
  | 0 => fun _ _ _ _ _ _ => none
  | k + 1 => fun h v0 v1 v3 v4 v5 => fX1_begin_16b n (fX1_begin_16 n k) h v0 v1 v3 v4 v5
theorem sX1_begin_16 {n : Nat} {q : Unit × ai_H} : ∀ (k : Nat) (h : ai_H) (v0 : Nat) (v1 : Nat) (v3 : Int32) (v4 : Int32) (v5 : Int32) (lv : ai_L), ai_ld 0 lv = some (.ref v0) → ai_ld 1 lv = some (.ref v1) → ai_ld 3 lv = some (.int v3) → ai_ld 4 lv = some (.int v4) → ai_ld 5 lv = some (.int v5) → fX1_begin_16 n k h v0 v1 v3 v4 v5 = some q → bi_go 3 tX1_begin n (fV n q) 16 lv [] h
  | 0 => fun _ _ _ _ _ _ _ _ _ _ _ _ hh => by cases hh
  | k + 1 => fun h v0 v1 v3 v4 v5 lv l0 l1 l3 l4 l5 hh => sX1_begin_16b  (sX1_begin_16  k) l0 l1 l3 l4 l5 hh
def fX1_begin (n : Nat) (h : ai_H) (a0 : Nat) (a1 : Nat) (a2 : Int32) (a3 : Int32) (a4 : Int32) : Option (Unit × ai_H) :=
  (kO n h a0 1).bind fun _ =>
  (pR n h a0 1 1).bind fun x1 =>
  (fJ7_fill_53178 n h x1 (0 : Int32)).bind fun q2 =>
  (sF n q2.2 a0 1 2 (.int) (.int a2)).bind fun h3 =>
  fX1_begin_16 n bi_K h3 a0 a1 a3 a4 (0 : Int32)
theorem gX1_begin {n : Nat} {h : ai_H} {a0 : Nat} {a1 : Nat} {a2 : Int32} {a3 : Int32} {a4 : Int32} {q : Unit × ai_H} (hh : fX1_begin n h a0 a1 a2 a3 a4 = some q) : kO n h a0 1 = some () := by
  obtain ⟨_, e, -⟩ := bi_bd hh
  exact e
theorem sX1_begin {n : Nat} {h : ai_H} {a0 : Nat} {a1 : Nat} {a2 : Int32} {a3 : Int32} {a4 : Int32} {q : Unit × ai_H} (hh : fX1_begin n h a0 a1 a2 a3 a4 = some q) : bi_sp 4 11 [.ref a0, .ref a1, .int a2, .int a3, .int a4] h n (fV n q) := by
  refine bi_en (D := 3) (T := tX1_begin) (funext fun pc => rfl) rfl (Nat.le_of_ble_eq_true rfl) ?_
  unfold fX1_begin at hh
  obtain ⟨_, eO, hh⟩ := bi_bd hh
  refine go_al (pc := 0) rfl (rfl : ai_ld 0 (lv_args 0 [.ref a0, .ref a1, .int a2, .int a3, .int a4]) = some (.ref a0)) ?_
  obtain ⟨x1, ex1, hh⟩ := bi_bd hh
  refine go_gfR (pc := 1) rfl ex1 ?_
  refine go_pi (pc := 4) rfl ?_
  obtain ⟨q2, eq2, hh⟩ := bi_bd hh
  refine go_iSV (pc := 5) rfl (Nat.le_of_ble_eq_true rfl) rfl (Nat.le_of_ble_eq_true rfl) (bi_up (sJ7_fill_53178 eq2) (Nat.le_of_ble_eq_true rfl)) ?_
  refine go_al (pc := 8) rfl (rfl : ai_ld 0 (lv_args 0 [.ref a0, .ref a1, .int a2, .int a3, .int a4]) = some (.ref a0)) ?_
  refine go_il (pc := 9) rfl (rfl : ai_ld 2 (lv_args 0 [.ref a0, .ref a1, .int a2, .int a3, .int a4]) = some (.int a2)) ?_
  obtain ⟨h3, eh3, hh⟩ := bi_bd hh
  refine go_pf (pc := 10) rfl eh3 ?_
  refine go_pi (pc := 13) rfl ?_
  refine go_is (pc := 14) rfl ?_
  exact sX1_begin_16  _ _ _ _ _ _ _ _ (bi_k1 (rfl : ai_ld 0 (lv_args 0 [.ref a0, .ref a1, .int a2, .int a3, .int a4]) = some (.ref a0)) rfl rfl) (bi_k1 (rfl : ai_ld 1 (lv_args 0 [.ref a0, .ref a1, .int a2, .int a3, .int a4]) = some (.ref a1)) rfl rfl) (bi_k1 (rfl : ai_ld 3 (lv_args 0 [.ref a0, .ref a1, .int a2, .int a3, .int a4]) = some (.int a3)) rfl rfl) (bi_k1 (rfl : ai_ld 4 (lv_args 0 [.ref a0, .ref a1, .int a2, .int a3, .int a4]) = some (.int a4)) rfl rfl) bi_e1 hh
def fX1_winnerBehind (n : Nat) (cX1_winnerBehind : ai_H → Nat → Int32 → Int32 → Int32 → Int32 → Int32 → Option (Int32 × ai_H)) (cX1_winnerFrom : ai_H → Nat → Int32 → Int32 → Int32 → Int32 → Option (Int32 × ai_H)) (h : ai_H) (a0 : Nat) (a1 : Int32) (a2 : Int32) (a3 : Int32) (a4 : Int32) (a5 : Int32) : Option (Int32 × ai_H) :=
  (kO n h a0 1).bind fun _ =>
  (pW a5).bind fun x1 =>
  if ¬ a4 = (1 : Int32) then (
    (cX1_winnerFrom h a0 a1 (a2 ||| ((1 : Int32) <<< (a5 &&& 31))) (a3 + ((2 : Int32) * x1)) (1 : Int32)).bind fun q2 =>
    some (q2.1, q2.2))
  else (
    (cX1_winnerFrom h a0 (a1 ||| ((1 : Int32) <<< (a5 &&& 31))) a2 (a3 + x1) (0 : Int32)).bind fun q3 =>
    some (q3.1, q3.2))
theorem gX1_winnerBehind {n : Nat} {cX1_winnerBehind : ai_H → Nat → Int32 → Int32 → Int32 → Int32 → Int32 → Option (Int32 × ai_H)} {cX1_winnerFrom : ai_H → Nat → Int32 → Int32 → Int32 → Int32 → Option (Int32 × ai_H)} {h : ai_H} {a0 : Nat} {a1 : Int32} {a2 : Int32} {a3 : Int32} {a4 : Int32} {a5 : Int32} {q : Int32 × ai_H} (hh : fX1_winnerBehind n cX1_winnerBehind cX1_winnerFrom h a0 a1 a2 a3 a4 a5 = some q) : kO n h a0 1 = some () := by
  obtain ⟨_, e, -⟩ := bi_bd hh
  exact e
theorem sX1_winnerBehind {n : Nat} {D : Nat} {cX1_winnerBehind : ai_H → Nat → Int32 → Int32 → Int32 → Int32 → Int32 → Option (Int32 × ai_H)} {cX1_winnerFrom : ai_H → Nat → Int32 → Int32 → Int32 → Int32 → Option (Int32 × ai_H)} {h : ai_H} {a0 : Nat} {a1 : Int32} {a2 : Int32} {a3 : Int32} {a4 : Int32} {a5 : Int32} {q : Int32 × ai_H} (hD : 0 ≤ D) (CX1_winnerBehind : ∀ (h : ai_H) (a0 : Nat) (a1 : Int32) (a2 : Int32) (a3 : Int32) (a4 : Int32) (a5 : Int32) (q : Int32 × ai_H), cX1_winnerBehind h a0 a1 a2 a3 a4 a5 = some q → kO n h a0 1 = some () ∧ bi_sp D 14 [.ref a0, .int a1, .int a2, .int a3, .int a4, .int a5] h n (fI n q)) (CX1_winnerFrom : ∀ (h : ai_H) (a0 : Nat) (a1 : Int32) (a2 : Int32) (a3 : Int32) (a4 : Int32) (q : Int32 × ai_H), cX1_winnerFrom h a0 a1 a2 a3 a4 = some q → kO n h a0 1 = some () ∧ bi_sp D 15 [.ref a0, .int a1, .int a2, .int a3, .int a4] h n (fI n q)) (hh : fX1_winnerBehind n cX1_winnerBehind cX1_winnerFrom h a0 a1 a2 a3 a4 a5 = some q) : bi_sp (D + 1) 14 [.ref a0, .int a1, .int a2, .int a3, .int a4, .int a5] h n (fI n q) := by
  refine bi_en (D := D) (T := tX1_winnerBehind) (funext fun pc => rfl) rfl (Nat.le_of_ble_eq_true rfl) ?_
  unfold fX1_winnerBehind at hh
  obtain ⟨_, eO, hh⟩ := bi_bd hh
  refine go_pi (pc := 0) rfl ?_
  refine go_il (pc := 1) rfl (rfl : ai_ld 5 (lv_args 0 [.ref a0, .int a1, .int a2, .int a3, .int a4, .int a5]) = some (.int a5)) ?_
  refine go_ishl (pc := 3) rfl ?_
  refine go_is (pc := 4) rfl ?_
  obtain ⟨x1, ex1, hh⟩ := bi_bd hh
  refine go_pw (pc := 6) rfl (bi_k1 (rfl : ai_ld 5 (lv_args 0 [.ref a0, .int a1, .int a2, .int a3, .int a4, .int a5]) = some (.int a5)) rfl rfl) ex1 ?_
  refine go_is (pc := 12) rfl ?_
  refine go_il (pc := 14) rfl (bi_k1 (bi_k1 (rfl : ai_ld 4 (lv_args 0 [.ref a0, .int a1, .int a2, .int a3, .int a4, .int a5]) = some (.int a4)) rfl rfl) rfl rfl) ?_
  refine go_pi (pc := 16) rfl ?_
  refine bi_ite hh (fun hc hh => ?_) (fun hc hh => ?_)
  · refine go_cmpneT (pc := 17) rfl hc ?_
    refine go_al (pc := 35) rfl (bi_k1 (bi_k1 (rfl : ai_ld 0 (lv_args 0 [.ref a0, .int a1, .int a2, .int a3, .int a4, .int a5]) = some (.ref a0)) rfl rfl) rfl rfl) ?_
    refine go_il (pc := 36) rfl (bi_k1 (bi_k1 (rfl : ai_ld 1 (lv_args 0 [.ref a0, .int a1, .int a2, .int a3, .int a4, .int a5]) = some (.int a1)) rfl rfl) rfl rfl) ?_
    refine go_il (pc := 37) rfl (bi_k1 (bi_k1 (rfl : ai_ld 2 (lv_args 0 [.ref a0, .int a1, .int a2, .int a3, .int a4, .int a5]) = some (.int a2)) rfl rfl) rfl rfl) ?_
    refine go_il (pc := 38) rfl (bi_k1 bi_e1 rfl rfl) ?_
    refine go_ior (pc := 40) rfl ?_
    refine go_il (pc := 41) rfl (bi_k1 (bi_k1 (rfl : ai_ld 3 (lv_args 0 [.ref a0, .int a1, .int a2, .int a3, .int a4, .int a5]) = some (.int a3)) rfl rfl) rfl rfl) ?_
    refine go_pi (pc := 42) rfl ?_
    refine go_il (pc := 43) rfl bi_e1 ?_
    refine go_imul (pc := 45) rfl ?_
    refine go_iadd (pc := 46) rfl ?_
    refine go_pi (pc := 47) rfl ?_
    obtain ⟨q2, eq2, hh⟩ := bi_bd hh
    refine go_ivI (pc := 48) rfl rfl (CX1_winnerFrom _ _ _ _ _ _ _ eq2).1 (Nat.le_of_ble_eq_true rfl) (CX1_winnerFrom _ _ _ _ _ _ _ eq2).2 ?_
    exact go_ri (pc := 51) rfl hh
  · refine go_cmpneF (pc := 17) rfl hc ?_
    refine go_al (pc := 20) rfl (bi_k1 (bi_k1 (rfl : ai_ld 0 (lv_args 0 [.ref a0, .int a1, .int a2, .int a3, .int a4, .int a5]) = some (.ref a0)) rfl rfl) rfl rfl) ?_
    refine go_il (pc := 21) rfl (bi_k1 (bi_k1 (rfl : ai_ld 1 (lv_args 0 [.ref a0, .int a1, .int a2, .int a3, .int a4, .int a5]) = some (.int a1)) rfl rfl) rfl rfl) ?_
    refine go_il (pc := 22) rfl (bi_k1 bi_e1 rfl rfl) ?_
    refine go_ior (pc := 24) rfl ?_
    refine go_il (pc := 25) rfl (bi_k1 (bi_k1 (rfl : ai_ld 2 (lv_args 0 [.ref a0, .int a1, .int a2, .int a3, .int a4, .int a5]) = some (.int a2)) rfl rfl) rfl rfl) ?_
    refine go_il (pc := 26) rfl (bi_k1 (bi_k1 (rfl : ai_ld 3 (lv_args 0 [.ref a0, .int a1, .int a2, .int a3, .int a4, .int a5]) = some (.int a3)) rfl rfl) rfl rfl) ?_
    refine go_il (pc := 27) rfl bi_e1 ?_
    refine go_iadd (pc := 29) rfl ?_
    refine go_pi (pc := 30) rfl ?_
    obtain ⟨q3, eq3, hh⟩ := bi_bd hh
    refine go_ivI (pc := 31) rfl rfl (CX1_winnerFrom _ _ _ _ _ _ _ eq3).1 (Nat.le_of_ble_eq_true rfl) (CX1_winnerFrom _ _ _ _ _ _ _ eq3).2 ?_
    exact go_ri (pc := 34) rfl hh
def fX1_winnerFrom_126 (n : Nat) (cX1_winnerBehind : ai_H → Nat → Int32 → Int32 → Int32 → Int32 → Int32 → Option (Int32 × ai_H)) (cX1_winnerFrom : ai_H → Nat → Int32 → Int32 → Int32 → Int32 → Option (Int32 × ai_H)) (r89 : ai_H → Nat → Int32 → Int32 → Int32 → Int32 → Int32 → Int32 → Int32 → Int32 → Int32 → Option (Int32 × ai_H)) (h : ai_H) (v0 : Nat) (v1 : Int32) (v2 : Int32) (v3 : Int32) (v4 : Int32) (v5 : Int32) (v6 : Int32) (v8 : Int32) (v9 : Int32) (v10 : Int32) : Option (Int32 × ai_H) :=
  r89 h v0 v1 v2 v3 v4 v5 v6 v8 v9 (v10 + 1)
theorem sX1_winnerFrom_126 {n : Nat} {D : Nat} {cX1_winnerBehind : ai_H → Nat → Int32 → Int32 → Int32 → Int32 → Int32 → Option (Int32 × ai_H)} {cX1_winnerFrom : ai_H → Nat → Int32 → Int32 → Int32 → Int32 → Option (Int32 × ai_H)} {r89 : ai_H → Nat → Int32 → Int32 → Int32 → Int32 → Int32 → Int32 → Int32 → Int32 → Int32 → Option (Int32 × ai_H)} {q : Int32 × ai_H} {h : ai_H} {v0 : Nat} {v1 : Int32} {v2 : Int32} {v3 : Int32} {v4 : Int32} {v5 : Int32} {v6 : Int32} {v8 : Int32} {v9 : Int32} {v10 : Int32} {lv : ai_L} (hD : 0 ≤ D) (CX1_winnerBehind : ∀ (h : ai_H) (a0 : Nat) (a1 : Int32) (a2 : Int32) (a3 : Int32) (a4 : Int32) (a5 : Int32) (q : Int32 × ai_H), cX1_winnerBehind h a0 a1 a2 a3 a4 a5 = some q → kO n h a0 1 = some () ∧ bi_sp D 14 [.ref a0, .int a1, .int a2, .int a3, .int a4, .int a5] h n (fI n q)) (CX1_winnerFrom : ∀ (h : ai_H) (a0 : Nat) (a1 : Int32) (a2 : Int32) (a3 : Int32) (a4 : Int32) (q : Int32 × ai_H), cX1_winnerFrom h a0 a1 a2 a3 a4 = some q → kO n h a0 1 = some () ∧ bi_sp D 15 [.ref a0, .int a1, .int a2, .int a3, .int a4] h n (fI n q)) (R89 : ∀ (h : ai_H) (v0 : Nat) (v1 : Int32) (v2 : Int32) (v3 : Int32) (v4 : Int32) (v5 : Int32) (v6 : Int32) (v8 : Int32) (v9 : Int32) (v10 : Int32) (lv : ai_L), ai_ld 0 lv = some (.ref v0) → ai_ld 1 lv = some (.int v1) → ai_ld 2 lv = some (.int v2) → ai_ld 3 lv = some (.int v3) → ai_ld 4 lv = some (.int v4) → ai_ld 5 lv = some (.int v5) → ai_ld 6 lv = some (.int v6) → ai_ld 8 lv = some (.int v8) → ai_ld 9 lv = some (.int v9) → ai_ld 10 lv = some (.int v10) → r89 h v0 v1 v2 v3 v4 v5 v6 v8 v9 v10 = some q → bi_go D tX1_winnerFrom n (fI n q) 89 lv [] h) (l0 : ai_ld 0 lv = some (.ref v0)) (l1 : ai_ld 1 lv = some (.int v1)) (l2 : ai_ld 2 lv = some (.int v2)) (l3 : ai_ld 3 lv = some (.int v3)) (l4 : ai_ld 4 lv = some (.int v4)) (l5 : ai_ld 5 lv = some (.int v5)) (l6 : ai_ld 6 lv = some (.int v6)) (l8 : ai_ld 8 lv = some (.int v8)) (l9 : ai_ld 9 lv = some (.int v9)) (l10 : ai_ld 10 lv = some (.int v10)) (hh : fX1_winnerFrom_126 n cX1_winnerBehind cX1_winnerFrom r89 h v0 v1 v2 v3 v4 v5 v6 v8 v9 v10 = some q) : bi_go D tX1_winnerFrom n (fI n q) 126 lv [] h := by
  unfold fX1_winnerFrom_126 at hh
  refine go_inc (pc := 126) rfl l10 ?_
  refine go_goto (pc := 129) rfl ?_
  exact R89 _ _ _ _ _ _ _ _ _ _ _ _ (bi_k1 l0 rfl rfl) (bi_k1 l1 rfl rfl) (bi_k1 l2 rfl rfl) (bi_k1 l3 rfl rfl) (bi_k1 l4 rfl rfl) (bi_k1 l5 rfl rfl) (bi_k1 l6 rfl rfl) (bi_k1 l8 rfl rfl) (bi_k1 l9 rfl rfl) bi_e1 hh
def fX1_winnerFrom_132 (n : Nat) (cX1_winnerBehind : ai_H → Nat → Int32 → Int32 → Int32 → Int32 → Int32 → Option (Int32 × ai_H)) (cX1_winnerFrom : ai_H → Nat → Int32 → Int32 → Int32 → Int32 → Option (Int32 × ai_H)) (h : ai_H) (v0 : Nat) (v5 : Int32) (v6 : Int32) (v8 : Int32) : Option (Int32 × ai_H) :=
  (pR n h v0 1 1).bind fun x1 =>
  (gX 1 n h x1 v5).bind fun x2 =>
  (wX 1 (fun x => x) n h x1 v5 (x2 ||| ((v8 + (1 : Int32)) <<< (v6 &&& 31)))).bind fun h3 =>
  some (v8, h3)
theorem sX1_winnerFrom_132 {n : Nat} {D : Nat} {cX1_winnerBehind : ai_H → Nat → Int32 → Int32 → Int32 → Int32 → Int32 → Option (Int32 × ai_H)} {cX1_winnerFrom : ai_H → Nat → Int32 → Int32 → Int32 → Int32 → Option (Int32 × ai_H)} {q : Int32 × ai_H} {h : ai_H} {v0 : Nat} {v5 : Int32} {v6 : Int32} {v8 : Int32} {lv : ai_L} (hD : 0 ≤ D) (CX1_winnerBehind : ∀ (h : ai_H) (a0 : Nat) (a1 : Int32) (a2 : Int32) (a3 : Int32) (a4 : Int32) (a5 : Int32) (q : Int32 × ai_H), cX1_winnerBehind h a0 a1 a2 a3 a4 a5 = some q → kO n h a0 1 = some () ∧ bi_sp D 14 [.ref a0, .int a1, .int a2, .int a3, .int a4, .int a5] h n (fI n q)) (CX1_winnerFrom : ∀ (h : ai_H) (a0 : Nat) (a1 : Int32) (a2 : Int32) (a3 : Int32) (a4 : Int32) (q : Int32 × ai_H), cX1_winnerFrom h a0 a1 a2 a3 a4 = some q → kO n h a0 1 = some () ∧ bi_sp D 15 [.ref a0, .int a1, .int a2, .int a3, .int a4] h n (fI n q)) (l0 : ai_ld 0 lv = some (.ref v0)) (l5 : ai_ld 5 lv = some (.int v5)) (l6 : ai_ld 6 lv = some (.int v6)) (l8 : ai_ld 8 lv = some (.int v8)) (hh : fX1_winnerFrom_132 n cX1_winnerBehind cX1_winnerFrom h v0 v5 v6 v8 = some q) : bi_go D tX1_winnerFrom n (fI n q) 132 lv [] h := by
  unfold fX1_winnerFrom_132 at hh
  refine go_al (pc := 132) rfl l0 ?_
  obtain ⟨x1, ex1, hh⟩ := bi_bd hh
  refine go_gfR (pc := 133) rfl ex1 ?_
  refine go_il (pc := 136) rfl l5 ?_
  refine go_dup2 (pc := 138) rfl rfl rfl ?_
  obtain ⟨x2, ex2, hh⟩ := bi_bd hh
  refine go_iald (pc := 139) rfl ex2 ?_
  refine go_il (pc := 140) rfl l8 ?_
  refine go_pi (pc := 142) rfl ?_
  refine go_iadd (pc := 143) rfl ?_
  refine go_il (pc := 144) rfl l6 ?_
  refine go_ishl (pc := 146) rfl ?_
  refine go_ior (pc := 147) rfl ?_
  obtain ⟨h3, eh3, hh⟩ := bi_bd hh
  refine go_iast (pc := 148) rfl eh3 ?_
  refine go_il (pc := 149) rfl l8 ?_
  exact go_ri (pc := 151) rfl hh
def fX1_winnerFrom_89b (n : Nat) (cX1_winnerBehind : ai_H → Nat → Int32 → Int32 → Int32 → Int32 → Int32 → Option (Int32 × ai_H)) (cX1_winnerFrom : ai_H → Nat → Int32 → Int32 → Int32 → Int32 → Option (Int32 × ai_H)) (r89 : ai_H → Nat → Int32 → Int32 → Int32 → Int32 → Int32 → Int32 → Int32 → Int32 → Int32 → Option (Int32 × ai_H)) (h : ai_H) (v0 : Nat) (v1 : Int32) (v2 : Int32) (v3 : Int32) (v4 : Int32) (v5 : Int32) (v6 : Int32) (v8 : Int32) (v9 : Int32) (v10 : Int32) : Option (Int32 × ai_H) :=
  if (9 : Int32) ≤ v10 then (
    fX1_winnerFrom_132 n cX1_winnerBehind cX1_winnerFrom h v0 v5 v6 v8)
  else (
    if v8 = v4 then (
      fX1_winnerFrom_132 n cX1_winnerBehind cX1_winnerFrom h v0 v5 v6 v8)
    else (
      if ((v9 >>> (v10 &&& 31)) &&& (1 : Int32)) = 0 then (
        fX1_winnerFrom_126 n cX1_winnerBehind cX1_winnerFrom r89 h v0 v1 v2 v3 v4 v5 v6 v8 v9 v10)
      else (
        (cX1_winnerBehind h v0 v1 v2 v3 v4 v10).bind fun q1 =>
        fX1_winnerFrom_126 n cX1_winnerBehind cX1_winnerFrom r89 q1.2 v0 v1 v2 v3 v4 v5 v6 q1.1 v9 v10)))
theorem sX1_winnerFrom_89b {n : Nat} {D : Nat} {cX1_winnerBehind : ai_H → Nat → Int32 → Int32 → Int32 → Int32 → Int32 → Option (Int32 × ai_H)} {cX1_winnerFrom : ai_H → Nat → Int32 → Int32 → Int32 → Int32 → Option (Int32 × ai_H)} {r89 : ai_H → Nat → Int32 → Int32 → Int32 → Int32 → Int32 → Int32 → Int32 → Int32 → Int32 → Option (Int32 × ai_H)} {q : Int32 × ai_H} {h : ai_H} {v0 : Nat} {v1 : Int32} {v2 : Int32} {v3 : Int32} {v4 : Int32} {v5 : Int32} {v6 : Int32} {v8 : Int32} {v9 : Int32} {v10 : Int32} {lv : ai_L} (hD : 0 ≤ D) (CX1_winnerBehind : ∀ (h : ai_H) (a0 : Nat) (a1 : Int32) (a2 : Int32) (a3 : Int32) (a4 : Int32) (a5 : Int32) (q : Int32 × ai_H), cX1_winnerBehind h a0 a1 a2 a3 a4 a5 = some q → kO n h a0 1 = some () ∧ bi_sp D 14 [.ref a0, .int a1, .int a2, .int a3, .int a4, .int a5] h n (fI n q)) (CX1_winnerFrom : ∀ (h : ai_H) (a0 : Nat) (a1 : Int32) (a2 : Int32) (a3 : Int32) (a4 : Int32) (q : Int32 × ai_H), cX1_winnerFrom h a0 a1 a2 a3 a4 = some q → kO n h a0 1 = some () ∧ bi_sp D 15 [.ref a0, .int a1, .int a2, .int a3, .int a4] h n (fI n q)) (R89 : ∀ (h : ai_H) (v0 : Nat) (v1 : Int32) (v2 : Int32) (v3 : Int32) (v4 : Int32) (v5 : Int32) (v6 : Int32) (v8 : Int32) (v9 : Int32) (v10 : Int32) (lv : ai_L), ai_ld 0 lv = some (.ref v0) → ai_ld 1 lv = some (.int v1) → ai_ld 2 lv = some (.int v2) → ai_ld 3 lv = some (.int v3) → ai_ld 4 lv = some (.int v4) → ai_ld 5 lv = some (.int v5) → ai_ld 6 lv = some (.int v6) → ai_ld 8 lv = some (.int v8) → ai_ld 9 lv = some (.int v9) → ai_ld 10 lv = some (.int v10) → r89 h v0 v1 v2 v3 v4 v5 v6 v8 v9 v10 = some q → bi_go D tX1_winnerFrom n (fI n q) 89 lv [] h) (l0 : ai_ld 0 lv = some (.ref v0)) (l1 : ai_ld 1 lv = some (.int v1)) (l2 : ai_ld 2 lv = some (.int v2)) (l3 : ai_ld 3 lv = some (.int v3)) (l4 : ai_ld 4 lv = some (.int v4)) (l5 : ai_ld 5 lv = some (.int v5)) (l6 : ai_ld 6 lv = some (.int v6)) (l8 : ai_ld 8 lv = some (.int v8)) (l9 : ai_ld 9 lv = some (.int v9)) (l10 : ai_ld 10 lv = some (.int v10)) (hh : fX1_winnerFrom_89b n cX1_winnerBehind cX1_winnerFrom r89 h v0 v1 v2 v3 v4 v5 v6 v8 v9 v10 = some q) : bi_go D tX1_winnerFrom n (fI n q) 89 lv [] h := by
  unfold fX1_winnerFrom_89b at hh
  refine go_il (pc := 89) rfl l10 ?_
  refine go_pi (pc := 91) rfl ?_
  refine bi_ite hh (fun hc hh => ?_) (fun hc hh => ?_)
  · refine go_cmpgeT (pc := 93) rfl hc ?_
    exact sX1_winnerFrom_132 hD CX1_winnerBehind CX1_winnerFrom l0 l5 l6 l8 hh
  · refine go_cmpgeF (pc := 93) rfl hc ?_
    refine go_il (pc := 96) rfl l8 ?_
    refine go_il (pc := 98) rfl l4 ?_
    refine bi_ite hh (fun hc hh => ?_) (fun hc hh => ?_)
    · refine go_cmpeqT (pc := 100) rfl hc ?_
      exact sX1_winnerFrom_132 hD CX1_winnerBehind CX1_winnerFrom l0 l5 l6 l8 hh
    · refine go_cmpeqF (pc := 100) rfl hc ?_
      refine go_il (pc := 103) rfl l9 ?_
      refine go_il (pc := 105) rfl l10 ?_
      refine go_ishr (pc := 107) rfl ?_
      refine go_pi (pc := 108) rfl ?_
      refine go_iand (pc := 109) rfl ?_
      refine bi_ite hh (fun hc hh => ?_) (fun hc hh => ?_)
      · refine go_ifeqT (pc := 110) rfl hc ?_
        exact sX1_winnerFrom_126 hD CX1_winnerBehind CX1_winnerFrom R89 l0 l1 l2 l3 l4 l5 l6 l8 l9 l10 hh
      · refine go_ifeqF (pc := 110) rfl hc ?_
        refine go_al (pc := 113) rfl l0 ?_
        refine go_il (pc := 114) rfl l1 ?_
        refine go_il (pc := 115) rfl l2 ?_
        refine go_il (pc := 116) rfl l3 ?_
        refine go_il (pc := 117) rfl l4 ?_
        refine go_il (pc := 119) rfl l10 ?_
        obtain ⟨q1, eq1, hh⟩ := bi_bd hh
        refine go_ivI (pc := 121) rfl rfl (CX1_winnerBehind _ _ _ _ _ _ _ _ eq1).1 (Nat.le_of_ble_eq_true rfl) (CX1_winnerBehind _ _ _ _ _ _ _ _ eq1).2 ?_
        refine go_is (pc := 124) rfl ?_
        exact sX1_winnerFrom_126 hD CX1_winnerBehind CX1_winnerFrom R89 (bi_k1 l0 rfl rfl) (bi_k1 l1 rfl rfl) (bi_k1 l2 rfl rfl) (bi_k1 l3 rfl rfl) (bi_k1 l4 rfl rfl) (bi_k1 l5 rfl rfl) (bi_k1 l6 rfl rfl) bi_e1 (bi_k1 l9 rfl rfl) (bi_k1 l10 rfl rfl) hh
def fX1_winnerFrom_89 (n : Nat) (cX1_winnerBehind : ai_H → Nat → Int32 → Int32 → Int32 → Int32 → Int32 → Option (Int32 × ai_H)) (cX1_winnerFrom : ai_H → Nat → Int32 → Int32 → Int32 → Int32 → Option (Int32 × ai_H)) : Nat → ai_H → Nat → Int32 → Int32 → Int32 → Int32 → Int32 → Int32 → Int32 → Int32 → Int32 → Option (Int32 × ai_H)
  | 0 => fun _ _ _ _ _ _ _ _ _ _ _ => none
  | k + 1 => fun h v0 v1 v2 v3 v4 v5 v6 v8 v9 v10 => fX1_winnerFrom_89b n cX1_winnerBehind cX1_winnerFrom (fX1_winnerFrom_89 n cX1_winnerBehind cX1_winnerFrom k) h v0 v1 v2 v3 v4 v5 v6 v8 v9 v10
theorem sX1_winnerFrom_89 {n : Nat} {D : Nat} {cX1_winnerBehind : ai_H → Nat → Int32 → Int32 → Int32 → Int32 → Int32 → Option (Int32 × ai_H)} {cX1_winnerFrom : ai_H → Nat → Int32 → Int32 → Int32 → Int32 → Option (Int32 × ai_H)} {q : Int32 × ai_H} (hD : 0 ≤ D) (CX1_winnerBehind : ∀ (h : ai_H) (a0 : Nat) (a1 : Int32) (a2 : Int32) (a3 : Int32) (a4 : Int32) (a5 : Int32) (q : Int32 × ai_H), cX1_winnerBehind h a0 a1 a2 a3 a4 a5 = some q → kO n h a0 1 = some () ∧ bi_sp D 14 [.ref a0, .int a1, .int a2, .int a3, .int a4, .int a5] h n (fI n q)) (CX1_winnerFrom : ∀ (h : ai_H) (a0 : Nat) (a1 : Int32) (a2 : Int32) (a3 : Int32) (a4 : Int32) (q : Int32 × ai_H), cX1_winnerFrom h a0 a1 a2 a3 a4 = some q → kO n h a0 1 = some () ∧ bi_sp D 15 [.ref a0, .int a1, .int a2, .int a3, .int a4] h n (fI n q)) : ∀ (k : Nat) (h : ai_H) (v0 : Nat) (v1 : Int32) (v2 : Int32) (v3 : Int32) (v4 : Int32) (v5 : Int32) (v6 : Int32) (v8 : Int32) (v9 : Int32) (v10 : Int32) (lv : ai_L), ai_ld 0 lv = some (.ref v0) → ai_ld 1 lv = some (.int v1) → ai_ld 2 lv = some (.int v2) → ai_ld 3 lv = some (.int v3) → ai_ld 4 lv = some (.int v4) → ai_ld 5 lv = some (.int v5) → ai_ld 6 lv = some (.int v6) → ai_ld 8 lv = some (.int v8) → ai_ld 9 lv = some (.int v9) → ai_ld 10 lv = some (.int v10) → fX1_winnerFrom_89 n cX1_winnerBehind cX1_winnerFrom k h v0 v1 v2 v3 v4 v5 v6 v8 v9 v10 = some q → bi_go D tX1_winnerFrom n (fI n q) 89 lv [] h
  | 0 => fun _ _ _ _ _ _ _ _ _ _ _ _ _ _ _ _ _ _ _ _ _ _ hh => by cases hh
  | k + 1 => fun h v0 v1 v2 v3 v4 v5 v6 v8 v9 v10 lv l0 l1 l2 l3 l4 l5 l6 l8 l9 l10 hh => sX1_winnerFrom_89b hD CX1_winnerBehind CX1_winnerFrom (sX1_winnerFrom_89 hD CX1_winnerBehind CX1_winnerFrom k) l0 l1 l2 l3 l4 l5 l6 l8 l9 l10 hh
def fX1_winnerFrom (n : Nat) (cX1_winnerBehind : ai_H → Nat → Int32 → Int32 → Int32 → Int32 → Int32 → Option (Int32 × ai_H)) (cX1_winnerFrom : ai_H → Nat → Int32 → Int32 → Int32 → Int32 → Option (Int32 × ai_H)) (h : ai_H) (a0 : Nat) (a1 : Int32) (a2 : Int32) (a3 : Int32) (a4 : Int32) : Option (Int32 × ai_H) :=
  (kO n h a0 1).bind fun _ =>
  (pR n h a0 1 0).bind fun x1 =>
  (gB n h x1 a1).bind fun x2 =>
  if x2 = 0 then (
    (pR n h a0 1 0).bind fun x3 =>
    (pI n h a0 1 2).bind fun x4 =>
    (gB n h x3 (x4 &&& (a2 ^^^ (-1 : Int32)))).bind fun x5 =>
    if ¬ x5 = 0 then (
      (pR n h a0 1 1).bind fun x6 =>
      (gX 1 n h x6 (a3 >>> ((4 : Int32) &&& 31))).bind fun x7 =>
      if ((x7 >>> (((a3 &&& (15 : Int32)) <<< ((1 : Int32) &&& 31)) &&& 31)) &&& (3 : Int32)) = 0 then (
        (pI n h a0 1 2).bind fun x8 =>
        fX1_winnerFrom_89 n cX1_winnerBehind cX1_winnerFrom bi_K h a0 a1 a2 a3 a4 (a3 >>> ((4 : Int32) &&& 31)) ((a3 &&& (15 : Int32)) <<< ((1 : Int32) &&& 31)) ((1 : Int32) - a4) ((x8 &&& (a1 ^^^ (-1 : Int32))) &&& (a2 ^^^ (-1 : Int32))) (0 : Int32))
      else (
        some (((x7 >>> (((a3 &&& (15 : Int32)) <<< ((1 : Int32) &&& 31)) &&& 31)) &&& (3 : Int32)) - (1 : Int32), h)))
    else (
      some ((0 : Int32), h)))
  else (
    some ((1 : Int32), h))
theorem gX1_winnerFrom {n : Nat} {cX1_winnerBehind : ai_H → Nat → Int32 → Int32 → Int32 → Int32 → Int32 → Option (Int32 × ai_H)} {cX1_winnerFrom : ai_H → Nat → Int32 → Int32 → Int32 → Int32 → Option (Int32 × ai_H)} {h : ai_H} {a0 : Nat} {a1 : Int32} {a2 : Int32} {a3 : Int32} {a4 : Int32} {q : Int32 × ai_H} (hh : fX1_winnerFrom n cX1_winnerBehind cX1_winnerFrom h a0 a1 a2 a3 a4 = some q) : kO n h a0 1 = some () := by
  obtain ⟨_, e, -⟩ := bi_bd hh
  exact e
theorem sX1_winnerFrom {n : Nat} {D : Nat} {cX1_winnerBehind : ai_H → Nat → Int32 → Int32 → Int32 → Int32 → Int32 → Option (Int32 × ai_H)} {cX1_winnerFrom : ai_H → Nat → Int32 → Int32 → Int32 → Int32 → Option (Int32 × ai_H)} {h : ai_H} {a0 : Nat} {a1 : Int32} {a2 : Int32} {a3 : Int32} {a4 : Int32} {q : Int32 × ai_H} (hD : 0 ≤ D) (CX1_winnerBehind : ∀ (h : ai_H) (a0 : Nat) (a1 : Int32) (a2 : Int32) (a3 : Int32) (a4 : Int32) (a5 : Int32) (q : Int32 × ai_H), cX1_winnerBehind h a0 a1 a2 a3 a4 a5 = some q → kO n h a0 1 = some () ∧ bi_sp D 14 [.ref a0, .int a1, .int a2, .int a3, .int a4, .int a5] h n (fI n q)) (CX1_winnerFrom : ∀ (h : ai_H) (a0 : Nat) (a1 : Int32) (a2 : Int32) (a3 : Int32) (a4 : Int32) (q : Int32 × ai_H), cX1_winnerFrom h a0 a1 a2 a3 a4 = some q → kO n h a0 1 = some () ∧ bi_sp D 15 [.ref a0, .int a1, .int a2, .int a3, .int a4] h n (fI n q)) (hh : fX1_winnerFrom n cX1_winnerBehind cX1_winnerFrom h a0 a1 a2 a3 a4 = some q) : bi_sp (D + 1) 15 [.ref a0, .int a1, .int a2, .int a3, .int a4] h n (fI n q) := by
  refine bi_en (D := D) (T := tX1_winnerFrom) (funext fun pc => rfl) rfl (Nat.le_of_ble_eq_true rfl) ?_
  unfold fX1_winnerFrom at hh
  obtain ⟨_, eO, hh⟩ := bi_bd hh
  refine go_al (pc := 0) rfl (rfl : ai_ld 0 (lv_args 0 [.ref a0, .int a1, .int a2, .int a3, .int a4]) = some (.ref a0)) ?_
  obtain ⟨x1, ex1, hh⟩ := bi_bd hh
  refine go_gfR (pc := 1) rfl ex1 ?_
  refine go_il (pc := 4) rfl (rfl : ai_ld 1 (lv_args 0 [.ref a0, .int a1, .int a2, .int a3, .int a4]) = some (.int a1)) ?_
  obtain ⟨x2, ex2, hh⟩ := bi_bd hh
  refine go_bald (pc := 5) rfl ex2 ?_
  refine bi_ite hh (fun hc hh => ?_) (fun hc hh => ?_)
  · refine go_ifeqT (pc := 6) rfl hc ?_
    refine go_al (pc := 11) rfl (rfl : ai_ld 0 (lv_args 0 [.ref a0, .int a1, .int a2, .int a3, .int a4]) = some (.ref a0)) ?_
    obtain ⟨x3, ex3, hh⟩ := bi_bd hh
    refine go_gfR (pc := 12) rfl ex3 ?_
    refine go_al (pc := 15) rfl (rfl : ai_ld 0 (lv_args 0 [.ref a0, .int a1, .int a2, .int a3, .int a4]) = some (.ref a0)) ?_
    obtain ⟨x4, ex4, hh⟩ := bi_bd hh
    refine go_gfI (pc := 16) rfl ex4 ?_
    refine go_il (pc := 19) rfl (rfl : ai_ld 2 (lv_args 0 [.ref a0, .int a1, .int a2, .int a3, .int a4]) = some (.int a2)) ?_
    refine go_pi (pc := 20) rfl ?_
    refine go_ixor (pc := 21) rfl ?_
    refine go_iand (pc := 22) rfl ?_
    obtain ⟨x5, ex5, hh⟩ := bi_bd hh
    refine go_bald (pc := 23) rfl ex5 ?_
    refine bi_ite hh (fun hc hh => ?_) (fun hc hh => ?_)
    · refine go_ifneT (pc := 24) rfl hc ?_
      refine go_il (pc := 29) rfl (rfl : ai_ld 3 (lv_args 0 [.ref a0, .int a1, .int a2, .int a3, .int a4]) = some (.int a3)) ?_
      refine go_pi (pc := 30) rfl ?_
      refine go_ishr (pc := 31) rfl ?_
      refine go_is (pc := 32) rfl ?_
      refine go_il (pc := 34) rfl (bi_k1 (rfl : ai_ld 3 (lv_args 0 [.ref a0, .int a1, .int a2, .int a3, .int a4]) = some (.int a3)) rfl rfl) ?_
      refine go_pi (pc := 35) rfl ?_
      refine go_iand (pc := 37) rfl ?_
      refine go_pi (pc := 38) rfl ?_
      refine go_ishl (pc := 39) rfl ?_
      refine go_is (pc := 40) rfl ?_
      refine go_al (pc := 42) rfl (bi_k1 (bi_k1 (rfl : ai_ld 0 (lv_args 0 [.ref a0, .int a1, .int a2, .int a3, .int a4]) = some (.ref a0)) rfl rfl) rfl rfl) ?_
      obtain ⟨x6, ex6, hh⟩ := bi_bd hh
      refine go_gfR (pc := 43) rfl ex6 ?_
      refine go_il (pc := 46) rfl (bi_k1 bi_e1 rfl rfl) ?_
      obtain ⟨x7, ex7, hh⟩ := bi_bd hh
      refine go_iald (pc := 48) rfl ex7 ?_
      refine go_il (pc := 49) rfl bi_e1 ?_
      refine go_ishr (pc := 51) rfl ?_
      refine go_pi (pc := 52) rfl ?_
      refine go_iand (pc := 53) rfl ?_
      refine go_is (pc := 54) rfl ?_
      refine go_il (pc := 56) rfl bi_e1 ?_
      refine bi_ite hh (fun hc hh => ?_) (fun hc hh => ?_)
      · refine go_ifeqT (pc := 58) rfl hc ?_
        refine go_pi (pc := 66) rfl ?_
        refine go_il (pc := 67) rfl (bi_k1 (bi_k1 (bi_k1 (rfl : ai_ld 4 (lv_args 0 [.ref a0, .int a1, .int a2, .int a3, .int a4]) = some (.int a4)) rfl rfl) rfl rfl) rfl rfl) ?_
        refine go_isub (pc := 69) rfl ?_
        refine go_is (pc := 70) rfl ?_
        refine go_al (pc := 72) rfl (bi_k1 (bi_k1 (bi_k1 (bi_k1 (rfl : ai_ld 0 (lv_args 0 [.ref a0, .int a1, .int a2, .int a3, .int a4]) = some (.ref a0)) rfl rfl) rfl rfl) rfl rfl) rfl rfl) ?_
        obtain ⟨x8, ex8, hh⟩ := bi_bd hh
        refine go_gfI (pc := 73) rfl ex8 ?_
        refine go_il (pc := 76) rfl (bi_k1 (bi_k1 (bi_k1 (bi_k1 (rfl : ai_ld 1 (lv_args 0 [.ref a0, .int a1, .int a2, .int a3, .int a4]) = some (.int a1)) rfl rfl) rfl rfl) rfl rfl) rfl rfl) ?_
        refine go_pi (pc := 77) rfl ?_
        refine go_ixor (pc := 78) rfl ?_
        refine go_iand (pc := 79) rfl ?_
        refine go_il (pc := 80) rfl (bi_k1 (bi_k1 (bi_k1 (bi_k1 (rfl : ai_ld 2 (lv_args 0 [.ref a0, .int a1, .int a2, .int a3, .int a4]) = some (.int a2)) rfl rfl) rfl rfl) rfl rfl) rfl rfl) ?_
        refine go_pi (pc := 81) rfl ?_
        refine go_ixor (pc := 82) rfl ?_
        refine go_iand (pc := 83) rfl ?_
        refine go_is (pc := 84) rfl ?_
        refine go_pi (pc := 86) rfl ?_
        refine go_is (pc := 87) rfl ?_
        exact sX1_winnerFrom_89 hD CX1_winnerBehind CX1_winnerFrom _ _ _ _ _ _ _ _ _ _ _ _ _ (bi_k1 (bi_k1 (bi_k1 (bi_k1 (bi_k1 (bi_k1 (rfl : ai_ld 0 (lv_args 0 [.ref a0, .int a1, .int a2, .int a3, .int a4]) = some (.ref a0)) rfl rfl) rfl rfl) rfl rfl) rfl rfl) rfl rfl) rfl rfl) (bi_k1 (bi_k1 (bi_k1 (bi_k1 (bi_k1 (bi_k1 (rfl : ai_ld 1 (lv_args 0 [.ref a0, .int a1, .int a2, .int a3, .int a4]) = some (.int a1)) rfl rfl) rfl rfl) rfl rfl) rfl rfl) rfl rfl) rfl rfl) (bi_k1 (bi_k1 (bi_k1 (bi_k1 (bi_k1 (bi_k1 (rfl : ai_ld 2 (lv_args 0 [.ref a0, .int a1, .int a2, .int a3, .int a4]) = some (.int a2)) rfl rfl) rfl rfl) rfl rfl) rfl rfl) rfl rfl) rfl rfl) (bi_k1 (bi_k1 (bi_k1 (bi_k1 (bi_k1 (bi_k1 (rfl : ai_ld 3 (lv_args 0 [.ref a0, .int a1, .int a2, .int a3, .int a4]) = some (.int a3)) rfl rfl) rfl rfl) rfl rfl) rfl rfl) rfl rfl) rfl rfl) (bi_k1 (bi_k1 (bi_k1 (bi_k1 (bi_k1 (bi_k1 (rfl : ai_ld 4 (lv_args 0 [.ref a0, .int a1, .int a2, .int a3, .int a4]) = some (.int a4)) rfl rfl) rfl rfl) rfl rfl) rfl rfl) rfl rfl) rfl rfl) (bi_k1 (bi_k1 (bi_k1 (bi_k1 (bi_k1 bi_e1 rfl rfl) rfl rfl) rfl rfl) rfl rfl) rfl rfl) (bi_k1 (bi_k1 (bi_k1 (bi_k1 bi_e1 rfl rfl) rfl rfl) rfl rfl) rfl rfl) (bi_k1 (bi_k1 bi_e1 rfl rfl) rfl rfl) (bi_k1 bi_e1 rfl rfl) bi_e1 hh
      · refine go_ifeqF (pc := 58) rfl hc ?_
        refine go_il (pc := 61) rfl bi_e1 ?_
        refine go_pi (pc := 63) rfl ?_
        refine go_isub (pc := 64) rfl ?_
        exact go_ri (pc := 65) rfl hh
    · refine go_ifneF (pc := 24) rfl hc ?_
      refine go_pi (pc := 27) rfl ?_
      exact go_ri (pc := 28) rfl hh
  · refine go_ifeqF (pc := 6) rfl hc ?_
    refine go_pi (pc := 9) rfl ?_
    exact go_ri (pc := 10) rfl hh
def fs0 (n : Nat) : Nat → (ai_H → Nat → Int32 → Int32 → Int32 → Int32 → Int32 → Option (Int32 × ai_H)) × (ai_H → Nat → Int32 → Int32 → Int32 → Int32 → Option (Int32 × ai_H))
  | 0 => (fun _ _ _ _ _ _ _ => none, fun _ _ _ _ _ _ => none)
  | k + 1 => (fun h a0 a1 a2 a3 a4 a5 => fX1_winnerBehind n (fs0 n k).1 (fs0 n k).2 h a0 a1 a2 a3 a4 a5, fun h a0 a1 a2 a3 a4 => fX1_winnerFrom n (fs0 n k).1 (fs0 n k).2 h a0 a1 a2 a3 a4)
theorem ss0 {n : Nat} : ∀ k : Nat, (∀ (h : ai_H) (a0 : Nat) (a1 : Int32) (a2 : Int32) (a3 : Int32) (a4 : Int32) (a5 : Int32) (q : Int32 × ai_H), (fs0 n k).1 h a0 a1 a2 a3 a4 a5 = some q → kO n h a0 1 = some () ∧ bi_sp (0 + k) 14 [.ref a0, .int a1, .int a2, .int a3, .int a4, .int a5] h n (fI n q)) ∧ (∀ (h : ai_H) (a0 : Nat) (a1 : Int32) (a2 : Int32) (a3 : Int32) (a4 : Int32) (q : Int32 × ai_H), (fs0 n k).2 h a0 a1 a2 a3 a4 = some q → kO n h a0 1 = some () ∧ bi_sp (0 + k) 15 [.ref a0, .int a1, .int a2, .int a3, .int a4] h n (fI n q))
  | 0 => ⟨fun _ _ _ _ _ _ _ _ hh => (by cases hh), fun _ _ _ _ _ _ _ hh => (by cases hh)⟩
  | k + 1 => ⟨fun _ _ _ _ _ _ _ _ hh => ⟨gX1_winnerBehind (cX1_winnerBehind := (fs0 n k).1) (cX1_winnerFrom := (fs0 n k).2) hh, sX1_winnerBehind (cX1_winnerBehind := (fs0 n k).1) (cX1_winnerFrom := (fs0 n k).2) (D := 0 + k) (Nat.le_add_right _ _) (ss0 k).1 (ss0 k).2 hh⟩, fun _ _ _ _ _ _ _ hh => ⟨gX1_winnerFrom (cX1_winnerBehind := (fs0 n k).1) (cX1_winnerFrom := (fs0 n k).2) hh, sX1_winnerFrom (cX1_winnerBehind := (fs0 n k).1) (cX1_winnerFrom := (fs0 n k).2) (D := 0 + k) (Nat.le_add_right _ _) (ss0 k).1 (ss0 k).2 hh⟩⟩
def FX1_winnerBehind (n : Nat) (h : ai_H) (a0 : Nat) (a1 : Int32) (a2 : Int32) (a3 : Int32) (a4 : Int32) (a5 : Int32) : Option (Int32 × ai_H) := (fs0 n bi_N).1 h a0 a1 a2 a3 a4 a5
theorem GX1_winnerBehind {n : Nat} {h : ai_H} {a0 : Nat} {a1 : Int32} {a2 : Int32} {a3 : Int32} {a4 : Int32} {a5 : Int32} {q : Int32 × ai_H} (hh : FX1_winnerBehind n h a0 a1 a2 a3 a4 a5 = some q) : kO n h a0 1 = some () := ((ss0 bi_N).1 _ _ _ _ _ _ _ _ hh).1
theorem SX1_winnerBehind {n : Nat} {h : ai_H} {a0 : Nat} {a1 : Int32} {a2 : Int32} {a3 : Int32} {a4 : Int32} {a5 : Int32} {q : Int32 × ai_H} (hh : FX1_winnerBehind n h a0 a1 a2 a3 a4 a5 = some q) : bi_sp (0 + bi_N) 14 [.ref a0, .int a1, .int a2, .int a3, .int a4, .int a5] h n (fI n q) := ((ss0 bi_N).1 _ _ _ _ _ _ _ _ hh).2
def FX1_winnerFrom (n : Nat) (h : ai_H) (a0 : Nat) (a1 : Int32) (a2 : Int32) (a3 : Int32) (a4 : Int32) : Option (Int32 × ai_H) := (fs0 n bi_N).2 h a0 a1 a2 a3 a4
theorem GX1_winnerFrom {n : Nat} {h : ai_H} {a0 : Nat} {a1 : Int32} {a2 : Int32} {a3 : Int32} {a4 : Int32} {q : Int32 × ai_H} (hh : FX1_winnerFrom n h a0 a1 a2 a3 a4 = some q) : kO n h a0 1 = some () := ((ss0 bi_N).2 _ _ _ _ _ _ _ hh).1
theorem SX1_winnerFrom {n : Nat} {h : ai_H} {a0 : Nat} {a1 : Int32} {a2 : Int32} {a3 : Int32} {a4 : Int32} {q : Int32 × ai_H} (hh : FX1_winnerFrom n h a0 a1 a2 a3 a4 = some q) : bi_sp (0 + bi_N) 15 [.ref a0, .int a1, .int a2, .int a3, .int a4] h n (fI n q) := ((ss0 bi_N).2 _ _ _ _ _ _ _ hh).2
def fX1_winner (n : Nat) (h : ai_H) (a0 : Nat) (a1 : Int32) : Option (Int32 × ai_H) :=
  (kO n h a0 1).bind fun _ =>
  (FX1_winnerFrom n h a0 (0 : Int32) (0 : Int32) (0 : Int32) a1).bind fun q1 =>
  some (q1.1, q1.2)
theorem gX1_winner {n : Nat} {h : ai_H} {a0 : Nat} {a1 : Int32} {q : Int32 × ai_H} (hh : fX1_winner n h a0 a1 = some q) : kO n h a0 1 = some () := by
  obtain ⟨_, e, -⟩ := bi_bd hh
  exact e
theorem sX1_winner {n : Nat} {h : ai_H} {a0 : Nat} {a1 : Int32} {q : Int32 × ai_H} (hh : fX1_winner n h a0 a1 = some q) : bi_sp 301 12 [.ref a0, .int a1] h n (fI n q) := by
  refine bi_en (D := 300) (T := tX1_winner) (funext fun pc => rfl) rfl (Nat.le_of_ble_eq_true rfl) ?_
  unfold fX1_winner at hh
  obtain ⟨_, eO, hh⟩ := bi_bd hh
  refine go_al (pc := 0) rfl (rfl : ai_ld 0 (lv_args 0 [.ref a0, .int a1]) = some (.ref a0)) ?_
  refine go_pi (pc := 1) rfl ?_
  refine go_pi (pc := 2) rfl ?_
  refine go_pi (pc := 3) rfl ?_
  refine go_il (pc := 4) rfl (rfl : ai_ld 1 (lv_args 0 [.ref a0, .int a1]) = some (.int a1)) ?_
  obtain ⟨q1, eq1, hh⟩ := bi_bd hh
  refine go_ivI (pc := 5) rfl rfl (GX1_winnerFrom eq1) (Nat.le_of_ble_eq_true rfl) (bi_up (SX1_winnerFrom eq1) (Nat.le_of_ble_eq_true rfl)) ?_
  exact go_ri (pc := 8) rfl hh
def fX1_firstMove_34 (n : Nat) (r2 : ai_H → Nat → Int32 → Int32 → Option (Int32 × ai_H)) (h : ai_H) (v0 : Nat) (v1 : Int32) (v2 : Int32) : Option (Int32 × ai_H) :=
  r2 h v0 v1 (v2 + 1)
theorem sX1_firstMove_34 {n : Nat} {r2 : ai_H → Nat → Int32 → Int32 → Option (Int32 × ai_H)} {q : Int32 × ai_H} {h : ai_H} {v0 : Nat} {v1 : Int32} {v2 : Int32} {lv : ai_L} (R2 : ∀ (h : ai_H) (v0 : Nat) (v1 : Int32) (v2 : Int32) (lv : ai_L), ai_ld 0 lv = some (.ref v0) → ai_ld 1 lv = some (.int v1) → ai_ld 2 lv = some (.int v2) → r2 h v0 v1 v2 = some q → bi_go 300 tX1_firstMove n (fI n q) 2 lv [] h) (l0 : ai_ld 0 lv = some (.ref v0)) (l1 : ai_ld 1 lv = some (.int v1)) (l2 : ai_ld 2 lv = some (.int v2)) (hh : fX1_firstMove_34 n r2 h v0 v1 v2 = some q) : bi_go 300 tX1_firstMove n (fI n q) 34 lv [] h := by
  unfold fX1_firstMove_34 at hh
  refine go_inc (pc := 34) rfl l2 ?_
  refine go_goto (pc := 37) rfl ?_
  exact R2 _ _ _ _ _ (bi_k1 l0 rfl rfl) (bi_k1 l1 rfl rfl) bi_e1 hh
def fX1_firstMove_2b (n : Nat) (r2 : ai_H → Nat → Int32 → Int32 → Option (Int32 × ai_H)) (h : ai_H) (v0 : Nat) (v1 : Int32) (v2 : Int32) : Option (Int32 × ai_H) :=
  if (9 : Int32) ≤ v2 then (
    some ((-2 : Int32), h))
  else (
    (pI n h v0 1 2).bind fun x1 =>
    if ((x1 >>> (v2 &&& 31)) &&& (1 : Int32)) = 0 then (
      fX1_firstMove_34 n r2 h v0 v1 v2)
    else (
      (FX1_winnerBehind n h v0 (0 : Int32) (0 : Int32) (0 : Int32) v1 v2).bind fun q2 =>
      if ¬ q2.1 = v1 then (
        fX1_firstMove_34 n r2 q2.2 v0 v1 v2)
      else (
        some (v2, q2.2))))
theorem sX1_firstMove_2b {n : Nat} {r2 : ai_H → Nat → Int32 → Int32 → Option (Int32 × ai_H)} {q : Int32 × ai_H} {h : ai_H} {v0 : Nat} {v1 : Int32} {v2 : Int32} {lv : ai_L} (R2 : ∀ (h : ai_H) (v0 : Nat) (v1 : Int32) (v2 : Int32) (lv : ai_L), ai_ld 0 lv = some (.ref v0) → ai_ld 1 lv = some (.int v1) → ai_ld 2 lv = some (.int v2) → r2 h v0 v1 v2 = some q → bi_go 300 tX1_firstMove n (fI n q) 2 lv [] h) (l0 : ai_ld 0 lv = some (.ref v0)) (l1 : ai_ld 1 lv = some (.int v1)) (l2 : ai_ld 2 lv = some (.int v2)) (hh : fX1_firstMove_2b n r2 h v0 v1 v2 = some q) : bi_go 300 tX1_firstMove n (fI n q) 2 lv [] h := by
  unfold fX1_firstMove_2b at hh
  refine go_il (pc := 2) rfl l2 ?_
  refine go_pi (pc := 3) rfl ?_
  refine bi_ite hh (fun hc hh => ?_) (fun hc hh => ?_)
  · refine go_cmpgeT (pc := 5) rfl hc ?_
    refine go_pi (pc := 40) rfl ?_
    exact go_ri (pc := 42) rfl hh
  · refine go_cmpgeF (pc := 5) rfl hc ?_
    refine go_al (pc := 8) rfl l0 ?_
    obtain ⟨x1, ex1, hh⟩ := bi_bd hh
    refine go_gfI (pc := 9) rfl ex1 ?_
    refine go_il (pc := 12) rfl l2 ?_
    refine go_ishr (pc := 13) rfl ?_
    refine go_pi (pc := 14) rfl ?_
    refine go_iand (pc := 15) rfl ?_
    refine bi_ite hh (fun hc hh => ?_) (fun hc hh => ?_)
    · refine go_ifeqT (pc := 16) rfl hc ?_
      exact sX1_firstMove_34 R2 l0 l1 l2 hh
    · refine go_ifeqF (pc := 16) rfl hc ?_
      refine go_al (pc := 19) rfl l0 ?_
      refine go_pi (pc := 20) rfl ?_
      refine go_pi (pc := 21) rfl ?_
      refine go_pi (pc := 22) rfl ?_
      refine go_il (pc := 23) rfl l1 ?_
      refine go_il (pc := 24) rfl l2 ?_
      obtain ⟨q2, eq2, hh⟩ := bi_bd hh
      refine go_ivI (pc := 25) rfl rfl (GX1_winnerBehind eq2) (Nat.le_of_ble_eq_true rfl) (bi_up (SX1_winnerBehind eq2) (Nat.le_of_ble_eq_true rfl)) ?_
      refine go_il (pc := 28) rfl l1 ?_
      refine bi_ite hh (fun hc hh => ?_) (fun hc hh => ?_)
      · refine go_cmpneT (pc := 29) rfl hc ?_
        exact sX1_firstMove_34 R2 l0 l1 l2 hh
      · refine go_cmpneF (pc := 29) rfl hc ?_
        refine go_il (pc := 32) rfl l2 ?_
        exact go_ri (pc := 33) rfl hh
def fX1_firstMove_2 (n : Nat) : Nat → ai_H → Nat → Int32 → Int32 → Option (Int32 × ai_H)
  | 0 => fun _ _ _ _ => none
  | k + 1 => fun h v0 v1 v2 => fX1_firstMove_2b n (fX1_firstMove_2 n k) h v0 v1 v2
theorem sX1_firstMove_2 {n : Nat} {q : Int32 × ai_H} : ∀ (k : Nat) (h : ai_H) (v0 : Nat) (v1 : Int32) (v2 : Int32) (lv : ai_L), ai_ld 0 lv = some (.ref v0) → ai_ld 1 lv = some (.int v1) → ai_ld 2 lv = some (.int v2) → fX1_firstMove_2 n k h v0 v1 v2 = some q → bi_go 300 tX1_firstMove n (fI n q) 2 lv [] h
  | 0 => fun _ _ _ _ _ _ _ _ hh => by cases hh
  | k + 1 => fun h v0 v1 v2 lv l0 l1 l2 hh => sX1_firstMove_2b  (sX1_firstMove_2  k) l0 l1 l2 hh
def fX1_firstMove (n : Nat) (h : ai_H) (a0 : Nat) (a1 : Int32) : Option (Int32 × ai_H) :=
  (kO n h a0 1).bind fun _ =>
  fX1_firstMove_2 n bi_K h a0 a1 (0 : Int32)
theorem gX1_firstMove {n : Nat} {h : ai_H} {a0 : Nat} {a1 : Int32} {q : Int32 × ai_H} (hh : fX1_firstMove n h a0 a1 = some q) : kO n h a0 1 = some () := by
  obtain ⟨_, e, -⟩ := bi_bd hh
  exact e
theorem sX1_firstMove {n : Nat} {h : ai_H} {a0 : Nat} {a1 : Int32} {q : Int32 × ai_H} (hh : fX1_firstMove n h a0 a1 = some q) : bi_sp 301 13 [.ref a0, .int a1] h n (fI n q) := by
  refine bi_en (D := 300) (T := tX1_firstMove) (funext fun pc => rfl) rfl (Nat.le_of_ble_eq_true rfl) ?_
  unfold fX1_firstMove at hh
  obtain ⟨_, eO, hh⟩ := bi_bd hh
  refine go_pi (pc := 0) rfl ?_
  refine go_is (pc := 1) rfl ?_
  exact sX1_firstMove_2  _ _ _ _ _ _ (bi_k1 (rfl : ai_ld 0 (lv_args 0 [.ref a0, .int a1]) = some (.ref a0)) rfl rfl) (bi_k1 (rfl : ai_ld 1 (lv_args 0 [.ref a0, .int a1]) = some (.int a1)) rfl rfl) bi_e1 hh
def fX2_empty (n : Nat) (h : ai_H) (a0 : Nat) : Option (Unit × ai_H) :=
  (kO n h a0 2).bind fun _ =>
  (pR n h a0 2 0).bind fun x1 =>
  (fJ7_fill_53178 n h x1 (0 : Int32)).bind fun q2 =>
  (pR n q2.2 a0 2 1).bind fun x3 =>
  (fJ7_fill_53178 n q2.2 x3 (0 : Int32)).bind fun q4 =>
  (sF n q4.2 a0 2 4 (.int) (.int (0 : Int32))).bind fun h5 =>
  (sF n h5 a0 2 5 (.int) (.int (0 : Int32))).bind fun h6 =>
  some ((), h6)
theorem gX2_empty {n : Nat} {h : ai_H} {a0 : Nat} {q : Unit × ai_H} (hh : fX2_empty n h a0 = some q) : kO n h a0 2 = some () := by
  obtain ⟨_, e, -⟩ := bi_bd hh
  exact e
theorem sX2_empty {n : Nat} {h : ai_H} {a0 : Nat} {q : Unit × ai_H} (hh : fX2_empty n h a0 = some q) : bi_sp 2 17 [.ref a0] h n (fV n q) := by
  refine bi_en (D := 1) (T := tX2_empty) (funext fun pc => rfl) rfl (Nat.le_of_ble_eq_true rfl) ?_
  unfold fX2_empty at hh
  obtain ⟨_, eO, hh⟩ := bi_bd hh
  refine go_al (pc := 0) rfl (rfl : ai_ld 0 (lv_args 0 [.ref a0]) = some (.ref a0)) ?_
  obtain ⟨x1, ex1, hh⟩ := bi_bd hh
  refine go_gfR (pc := 1) rfl ex1 ?_
  refine go_pi (pc := 4) rfl ?_
  obtain ⟨q2, eq2, hh⟩ := bi_bd hh
  refine go_iSV (pc := 5) rfl (Nat.le_of_ble_eq_true rfl) rfl (Nat.le_of_ble_eq_true rfl) (bi_up (sJ7_fill_53178 eq2) (Nat.le_of_ble_eq_true rfl)) ?_
  refine go_al (pc := 8) rfl (rfl : ai_ld 0 (lv_args 0 [.ref a0]) = some (.ref a0)) ?_
  obtain ⟨x3, ex3, hh⟩ := bi_bd hh
  refine go_gfR (pc := 9) rfl ex3 ?_
  refine go_pi (pc := 12) rfl ?_
  obtain ⟨q4, eq4, hh⟩ := bi_bd hh
  refine go_iSV (pc := 13) rfl (Nat.le_of_ble_eq_true rfl) rfl (Nat.le_of_ble_eq_true rfl) (bi_up (sJ7_fill_53178 eq4) (Nat.le_of_ble_eq_true rfl)) ?_
  refine go_al (pc := 16) rfl (rfl : ai_ld 0 (lv_args 0 [.ref a0]) = some (.ref a0)) ?_
  refine go_pi (pc := 17) rfl ?_
  obtain ⟨h5, eh5, hh⟩ := bi_bd hh
  refine go_pf (pc := 18) rfl eh5 ?_
  refine go_al (pc := 21) rfl (rfl : ai_ld 0 (lv_args 0 [.ref a0]) = some (.ref a0)) ?_
  refine go_pi (pc := 22) rfl ?_
  obtain ⟨h6, eh6, hh⟩ := bi_bd hh
  refine go_pf (pc := 23) rfl eh6 ?_
  exact go_rv (pc := 26) rfl hh
def fX2_put (n : Nat) (h : ai_H) (a0 : Nat) (a1 : Int32) (a2 : Int32) : Option (Unit × ai_H) :=
  (kO n h a0 2).bind fun _ =>
  (pI n h a0 2 4).bind fun x1 =>
  if (64 : Int32) ≤ x1 then (
    some ((), h))
  else (
    (pR n h a0 2 2).bind fun x2 =>
    (pI n h a0 2 4).bind fun x3 =>
    (wX 1 (fun x => x) n h x2 x3 a1).bind fun h4 =>
    (pR n h4 a0 2 3).bind fun x5 =>
    (pI n h4 a0 2 4).bind fun x6 =>
    (wX 1 (fun x => x) n h4 x5 x6 a2).bind fun h7 =>
    (pI n h7 a0 2 4).bind fun x8 =>
    (sF n h7 a0 2 4 (.int) (.int (x8 + (1 : Int32)))).bind fun h9 =>
    some ((), h9))
theorem gX2_put {n : Nat} {h : ai_H} {a0 : Nat} {a1 : Int32} {a2 : Int32} {q : Unit × ai_H} (hh : fX2_put n h a0 a1 a2 = some q) : kO n h a0 2 = some () := by
  obtain ⟨_, e, -⟩ := bi_bd hh
  exact e
theorem sX2_put {n : Nat} {h : ai_H} {a0 : Nat} {a1 : Int32} {a2 : Int32} {q : Unit × ai_H} (hh : fX2_put n h a0 a1 a2 = some q) : bi_sp 1 18 [.ref a0, .int a1, .int a2] h n (fV n q) := by
  refine bi_en (D := 0) (T := tX2_put) (funext fun pc => rfl) rfl (Nat.le_of_ble_eq_true rfl) ?_
  unfold fX2_put at hh
  obtain ⟨_, eO, hh⟩ := bi_bd hh
  refine go_al (pc := 0) rfl (rfl : ai_ld 0 (lv_args 0 [.ref a0, .int a1, .int a2]) = some (.ref a0)) ?_
  obtain ⟨x1, ex1, hh⟩ := bi_bd hh
  refine go_gfI (pc := 1) rfl ex1 ?_
  refine go_pi (pc := 4) rfl ?_
  refine bi_ite hh (fun hc hh => ?_) (fun hc hh => ?_)
  · refine go_cmpgeT (pc := 6) rfl hc ?_
    exact go_rv (pc := 39) rfl hh
  · refine go_cmpgeF (pc := 6) rfl hc ?_
    refine go_al (pc := 9) rfl (rfl : ai_ld 0 (lv_args 0 [.ref a0, .int a1, .int a2]) = some (.ref a0)) ?_
    obtain ⟨x2, ex2, hh⟩ := bi_bd hh
    refine go_gfR (pc := 10) rfl ex2 ?_
    refine go_al (pc := 13) rfl (rfl : ai_ld 0 (lv_args 0 [.ref a0, .int a1, .int a2]) = some (.ref a0)) ?_
    obtain ⟨x3, ex3, hh⟩ := bi_bd hh
    refine go_gfI (pc := 14) rfl ex3 ?_
    refine go_il (pc := 17) rfl (rfl : ai_ld 1 (lv_args 0 [.ref a0, .int a1, .int a2]) = some (.int a1)) ?_
    obtain ⟨h4, eh4, hh⟩ := bi_bd hh
    refine go_iast (pc := 18) rfl eh4 ?_
    refine go_al (pc := 19) rfl (rfl : ai_ld 0 (lv_args 0 [.ref a0, .int a1, .int a2]) = some (.ref a0)) ?_
    obtain ⟨x5, ex5, hh⟩ := bi_bd hh
    refine go_gfR (pc := 20) rfl ex5 ?_
    refine go_al (pc := 23) rfl (rfl : ai_ld 0 (lv_args 0 [.ref a0, .int a1, .int a2]) = some (.ref a0)) ?_
    obtain ⟨x6, ex6, hh⟩ := bi_bd hh
    refine go_gfI (pc := 24) rfl ex6 ?_
    refine go_il (pc := 27) rfl (rfl : ai_ld 2 (lv_args 0 [.ref a0, .int a1, .int a2]) = some (.int a2)) ?_
    obtain ⟨h7, eh7, hh⟩ := bi_bd hh
    refine go_iast (pc := 28) rfl eh7 ?_
    refine go_al (pc := 29) rfl (rfl : ai_ld 0 (lv_args 0 [.ref a0, .int a1, .int a2]) = some (.ref a0)) ?_
    refine go_dup (pc := 30) rfl rfl ?_
    obtain ⟨x8, ex8, hh⟩ := bi_bd hh
    refine go_gfI (pc := 31) rfl ex8 ?_
    refine go_pi (pc := 34) rfl ?_
    refine go_iadd (pc := 35) rfl ?_
    obtain ⟨h9, eh9, hh⟩ := bi_bd hh
    refine go_pf (pc := 36) rfl eh9 ?_
    exact go_rv (pc := 39) rfl hh
def fX8_empty (n : Nat) (h : ai_H) (a0 : Nat) : Option (Unit × ai_H) :=
  (kO n h a0 8).bind fun _ =>
  (pR n h a0 8 0).bind fun x1 =>
  (sF n h x1 6 4 (.int) (.int (0 : Int32))).bind fun h2 =>
  (pR n h2 a0 8 1).bind fun x3 =>
  (sF n h2 x3 6 4 (.int) (.int (0 : Int32))).bind fun h4 =>
  (pR n h4 a0 8 2).bind fun x5 =>
  (sF n h4 x5 6 4 (.int) (.int (0 : Int32))).bind fun h6 =>
  (pR n h6 a0 8 3).bind fun x7 =>
  (sF n h6 x7 6 4 (.int) (.int (0 : Int32))).bind fun h8 =>
  (pR n h8 a0 8 4).bind fun x9 =>
  (sF n h8 x9 6 4 (.int) (.int (0 : Int32))).bind fun h10 =>
  (pR n h10 a0 8 5).bind fun x11 =>
  (fX2_empty n h10 x11).bind fun q12 =>
  (sF n q12.2 a0 8 6 (.int) (.int (366 : Int32))).bind fun h13 =>
  (sF n h13 a0 8 7 (.int) (.int (0 : Int32))).bind fun h14 =>
  (sF n h14 a0 8 8 (.int) (.int (0 : Int32))).bind fun h15 =>
  (sF n h15 a0 8 9 (.int) (.int (0 : Int32))).bind fun h16 =>
  some ((), h16)
theorem gX8_empty {n : Nat} {h : ai_H} {a0 : Nat} {q : Unit × ai_H} (hh : fX8_empty n h a0 = some q) : kO n h a0 8 = some () := by
  obtain ⟨_, e, -⟩ := bi_bd hh
  exact e
theorem sX8_empty {n : Nat} {h : ai_H} {a0 : Nat} {q : Unit × ai_H} (hh : fX8_empty n h a0 = some q) : bi_sp 3 69 [.ref a0] h n (fV n q) := by
  refine bi_en (D := 2) (T := tX8_empty) (funext fun pc => rfl) rfl (Nat.le_of_ble_eq_true rfl) ?_
  unfold fX8_empty at hh
  obtain ⟨_, eO, hh⟩ := bi_bd hh
  refine go_al (pc := 0) rfl (rfl : ai_ld 0 (lv_args 0 [.ref a0]) = some (.ref a0)) ?_
  obtain ⟨x1, ex1, hh⟩ := bi_bd hh
  refine go_gfR (pc := 1) rfl ex1 ?_
  refine go_pi (pc := 4) rfl ?_
  obtain ⟨h2, eh2, hh⟩ := bi_bd hh
  refine go_pf (pc := 5) rfl eh2 ?_
  refine go_al (pc := 8) rfl (rfl : ai_ld 0 (lv_args 0 [.ref a0]) = some (.ref a0)) ?_
  obtain ⟨x3, ex3, hh⟩ := bi_bd hh
  refine go_gfR (pc := 9) rfl ex3 ?_
  refine go_pi (pc := 12) rfl ?_
  obtain ⟨h4, eh4, hh⟩ := bi_bd hh
  refine go_pf (pc := 13) rfl eh4 ?_
  refine go_al (pc := 16) rfl (rfl : ai_ld 0 (lv_args 0 [.ref a0]) = some (.ref a0)) ?_
  obtain ⟨x5, ex5, hh⟩ := bi_bd hh
  refine go_gfR (pc := 17) rfl ex5 ?_
  refine go_pi (pc := 20) rfl ?_
  obtain ⟨h6, eh6, hh⟩ := bi_bd hh
  refine go_pf (pc := 21) rfl eh6 ?_
  refine go_al (pc := 24) rfl (rfl : ai_ld 0 (lv_args 0 [.ref a0]) = some (.ref a0)) ?_
  obtain ⟨x7, ex7, hh⟩ := bi_bd hh
  refine go_gfR (pc := 25) rfl ex7 ?_
  refine go_pi (pc := 28) rfl ?_
  obtain ⟨h8, eh8, hh⟩ := bi_bd hh
  refine go_pf (pc := 29) rfl eh8 ?_
  refine go_al (pc := 32) rfl (rfl : ai_ld 0 (lv_args 0 [.ref a0]) = some (.ref a0)) ?_
  obtain ⟨x9, ex9, hh⟩ := bi_bd hh
  refine go_gfR (pc := 33) rfl ex9 ?_
  refine go_pi (pc := 36) rfl ?_
  obtain ⟨h10, eh10, hh⟩ := bi_bd hh
  refine go_pf (pc := 37) rfl eh10 ?_
  refine go_al (pc := 40) rfl (rfl : ai_ld 0 (lv_args 0 [.ref a0]) = some (.ref a0)) ?_
  obtain ⟨x11, ex11, hh⟩ := bi_bd hh
  refine go_gfR (pc := 41) rfl ex11 ?_
  obtain ⟨q12, eq12, hh⟩ := bi_bd hh
  refine go_ivV (pc := 44) rfl rfl (gX2_empty eq12) (Nat.le_of_ble_eq_true rfl) (bi_up (sX2_empty eq12) (Nat.le_of_ble_eq_true rfl)) ?_
  refine go_al (pc := 47) rfl (rfl : ai_ld 0 (lv_args 0 [.ref a0]) = some (.ref a0)) ?_
  refine go_pi (pc := 48) rfl ?_
  obtain ⟨h13, eh13, hh⟩ := bi_bd hh
  refine go_pf (pc := 51) rfl eh13 ?_
  refine go_al (pc := 54) rfl (rfl : ai_ld 0 (lv_args 0 [.ref a0]) = some (.ref a0)) ?_
  refine go_pi (pc := 55) rfl ?_
  obtain ⟨h14, eh14, hh⟩ := bi_bd hh
  refine go_pf (pc := 56) rfl eh14 ?_
  refine go_al (pc := 59) rfl (rfl : ai_ld 0 (lv_args 0 [.ref a0]) = some (.ref a0)) ?_
  refine go_pi (pc := 60) rfl ?_
  obtain ⟨h15, eh15, hh⟩ := bi_bd hh
  refine go_pf (pc := 61) rfl eh15 ?_
  refine go_al (pc := 64) rfl (rfl : ai_ld 0 (lv_args 0 [.ref a0]) = some (.ref a0)) ?_
  refine go_pi (pc := 65) rfl ?_
  obtain ⟨h16, eh16, hh⟩ := bi_bd hh
  refine go_pf (pc := 66) rfl eh16 ?_
  exact go_rv (pc := 69) rfl hh
