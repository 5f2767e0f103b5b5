/-! ===== methods as functions, part 18 ===== -/
def fX11_layBoth (n : Nat) (h : ai_H) (a0 : Nat) (a1 : Int32) (a2 : Int32) (a3 : Int32) : Option (Unit × ai_H) :=
  (kO n h a0 11).bind fun _ =>
  (fX11_layPath n h a0 a1 a2).bind fun q1 =>
  (pR n q1.2 a0 11 57).bind fun x2 =>
  (fX11_legsIn n q1.2 a0 a3).bind fun q3 =>
  (wJ n q3.2 x2 (3 : Int32) q3.1.toInt64).bind fun h4 =>
  (pR n h4 a0 11 57).bind fun x5 =>
  (pR n h4 a0 11 61).bind fun x6 =>
  (gX 1 n h4 x6 (((4 : Int32) * a1) + a3)).bind fun x7 =>
  (wJ n h4 x5 (4 : Int32) x7.toInt64).bind fun h8 =>
  some ((), h8)
theorem gX11_layBoth {n : Nat} {h : ai_H} {a0 : Nat} {a1 : Int32} {a2 : Int32} {a3 : Int32} {q : Unit × ai_H} (hh : fX11_layBoth n h a0 a1 a2 a3 = some q) : kO n h a0 11 = some () := by
  obtain ⟨_, e, -⟩ := bi_bd hh
  exact e
theorem sX11_layBoth {n : Nat} {h : ai_H} {a0 : Nat} {a1 : Int32} {a2 : Int32} {a3 : Int32} {q : Unit × ai_H} (hh : fX11_layBoth n h a0 a1 a2 a3 = some q) : bi_sp 2 194 [.ref a0, .int a1, .int a2, .int a3] h n (fV n q) := by
  refine bi_en (D := 1) (T := tX11_layBoth) (funext fun pc => rfl) rfl (Nat.le_of_ble_eq_true rfl) ?_
  unfold fX11_layBoth at hh
  obtain ⟨_, eO, hh⟩ := bi_bd hh
  refine go_al (pc := 0) rfl (rfl : ai_ld 0 (lv_args 0 [.ref a0, .int a1, .int a2, .int a3]) = some (.ref a0)) ?_
  refine go_il (pc := 1) rfl (rfl : ai_ld 1 (lv_args 0 [.ref a0, .int a1, .int a2, .int a3]) = some (.int a1)) ?_
  refine go_il (pc := 2) rfl (rfl : ai_ld 2 (lv_args 0 [.ref a0, .int a1, .int a2, .int a3]) = some (.int a2)) ?_
  obtain ⟨q1, eq1, hh⟩ := bi_bd hh
  refine go_ivV (pc := 3) rfl rfl (gX11_layPath eq1) (Nat.le_of_ble_eq_true rfl) (bi_up (sX11_layPath eq1) (Nat.le_of_ble_eq_true rfl)) ?_
  refine go_al (pc := 6) rfl (rfl : ai_ld 0 (lv_args 0 [.ref a0, .int a1, .int a2, .int a3]) = some (.ref a0)) ?_
  obtain ⟨x2, ex2, hh⟩ := bi_bd hh
  refine go_gfR (pc := 7) rfl ex2 ?_
  refine go_pi (pc := 10) rfl ?_
  refine go_al (pc := 11) rfl (rfl : ai_ld 0 (lv_args 0 [.ref a0, .int a1, .int a2, .int a3]) = some (.ref a0)) ?_
  refine go_il (pc := 12) rfl (rfl : ai_ld 3 (lv_args 0 [.ref a0, .int a1, .int a2, .int a3]) = some (.int a3)) ?_
  obtain ⟨q3, eq3, hh⟩ := bi_bd hh
  refine go_ivI (pc := 13) rfl rfl (gX11_legsIn eq3) (Nat.le_of_ble_eq_true rfl) (bi_up (sX11_legsIn eq3) (Nat.le_of_ble_eq_true rfl)) ?_
  refine go_i2l (pc := 16) rfl ?_
  obtain ⟨h4, eh4, hh⟩ := bi_bd hh
  refine go_last (pc := 17) rfl eh4 ?_
  refine go_al (pc := 18) rfl (rfl : ai_ld 0 (lv_args 0 [.ref a0, .int a1, .int a2, .int a3]) = some (.ref a0)) ?_
  obtain ⟨x5, ex5, hh⟩ := bi_bd hh
  refine go_gfR (pc := 19) rfl ex5 ?_
  refine go_pi (pc := 22) rfl ?_
  refine go_al (pc := 23) rfl (rfl : ai_ld 0 (lv_args 0 [.ref a0, .int a1, .int a2, .int a3]) = some (.ref a0)) ?_
  obtain ⟨x6, ex6, hh⟩ := bi_bd hh
  refine go_gfR (pc := 24) rfl ex6 ?_
  refine go_pi (pc := 27) rfl ?_
  refine go_il (pc := 28) rfl (rfl : ai_ld 1 (lv_args 0 [.ref a0, .int a1, .int a2, .int a3]) = some (.int a1)) ?_
  refine go_imul (pc := 29) rfl ?_
  refine go_il (pc := 30) rfl (rfl : ai_ld 3 (lv_args 0 [.ref a0, .int a1, .int a2, .int a3]) = some (.int a3)) ?_
  refine go_iadd (pc := 31) rfl ?_
  obtain ⟨x7, ex7, hh⟩ := bi_bd hh
  refine go_iald (pc := 32) rfl ex7 ?_
  refine go_i2l (pc := 33) rfl ?_
  obtain ⟨h8, eh8, hh⟩ := bi_bd hh
  refine go_last (pc := 34) rfl eh8 ?_
  exact go_rv (pc := 35) rfl hh
def fX11_lawOf_12b (n : Nat) (r12 : ai_H → Nat → Int32 → Int32 → Option (Int64 × ai_H)) (h : ai_H) (v0 : Nat) (v1 : Int32) (v2 : Int32) : Option (Int64 × ai_H) :=
  (pR n h v0 11 45).bind fun x1 =>
  (gX 1 n h x1 v1).bind fun x2 =>
  if x2 ≤ v2 then (
    (pI n h v0 11 59).bind fun x3 =>
    if x3 = 0 then (
      (pR n h v0 11 58).bind fun x4 =>
      (pR n h v0 11 45).bind fun x5 =>
      (gX 1 n h x5 v1).bind fun x6 =>
      (gJ n h x4 (x6 - (1 : Int32))).bind fun x7 =>
      some (x7, h))
    else (
      some ((0 : Int64), h)))
  else (
    (pR n h v0 11 58).bind fun x8 =>
    (fX11_valueOf n h v0 v2).bind fun q9 =>
    (wJ n q9.2 x8 v2 q9.1).bind fun h10 =>
    r12 h10 v0 v1 (v2 + 1))
theorem sX11_lawOf_12b {n : Nat} {r12 : ai_H → Nat → Int32 → Int32 → Option (Int64 × ai_H)} {q : Int64 × ai_H} {h : ai_H} {v0 : Nat} {v1 : Int32} {v2 : Int32} {lv : ai_L} (R12 : ∀ (h : ai_H) (v0 : Nat) (v1 : Int32) (v2 : Int32) (lv : ai_L), ai_ld 0 lv = some (.ref v0) → ai_ld 1 lv = some (.int v1) → ai_ld 2 lv = some (.int v2) → r12 h v0 v1 v2 = some q → bi_go 2 tX11_lawOf n (fJ n q) 12 lv [] h) (l0 : ai_ld 0 lv = some (.ref v0)) (l1 : ai_ld 1 lv = some (.int v1)) (l2 : ai_ld 2 lv = some (.int v2)) (hh : fX11_lawOf_12b n r12 h v0 v1 v2 = some q) : bi_go 2 tX11_lawOf n (fJ n q) 12 lv [] h := by
  unfold fX11_lawOf_12b at hh
  refine go_il (pc := 12) rfl l2 ?_
  refine go_al (pc := 13) rfl l0 ?_
  obtain ⟨x1, ex1, hh⟩ := bi_bd hh
  refine go_gfR (pc := 14) rfl ex1 ?_
  refine go_il (pc := 17) rfl l1 ?_
  obtain ⟨x2, ex2, hh⟩ := bi_bd hh
  refine go_iald (pc := 18) rfl ex2 ?_
  refine bi_ite hh (fun hc hh => ?_) (fun hc hh => ?_)
  · refine go_cmpgeT (pc := 19) rfl hc ?_
    refine go_al (pc := 39) rfl l0 ?_
    obtain ⟨x3, ex3, hh⟩ := bi_bd hh
    refine go_gfI (pc := 40) rfl ex3 ?_
    refine bi_ite hh (fun hc hh => ?_) (fun hc hh => ?_)
    · refine go_ifeqT (pc := 43) rfl hc ?_
      refine go_al (pc := 50) rfl l0 ?_
      obtain ⟨x4, ex4, hh⟩ := bi_bd hh
      refine go_gfR (pc := 51) rfl ex4 ?_
      refine go_al (pc := 54) rfl l0 ?_
      obtain ⟨x5, ex5, hh⟩ := bi_bd hh
      refine go_gfR (pc := 55) rfl ex5 ?_
      refine go_il (pc := 58) rfl l1 ?_
      obtain ⟨x6, ex6, hh⟩ := bi_bd hh
      refine go_iald (pc := 59) rfl ex6 ?_
      refine go_pi (pc := 60) rfl ?_
      refine go_isub (pc := 61) rfl ?_
      obtain ⟨x7, ex7, hh⟩ := bi_bd hh
      refine go_lald (pc := 62) rfl ex7 ?_
      exact go_rl (pc := 63) rfl hh
    · refine go_ifeqF (pc := 43) rfl hc ?_
      refine go_pl (pc := 46) rfl ?_
      refine go_goto (pc := 47) rfl ?_
      exact go_rl (pc := 63) rfl hh
  · refine go_cmpgeF (pc := 19) rfl hc ?_
    refine go_al (pc := 22) rfl l0 ?_
    obtain ⟨x8, ex8, hh⟩ := bi_bd hh
    refine go_gfR (pc := 23) rfl ex8 ?_
    refine go_il (pc := 26) rfl l2 ?_
    refine go_al (pc := 27) rfl l0 ?_
    refine go_il (pc := 28) rfl l2 ?_
    obtain ⟨q9, eq9, hh⟩ := bi_bd hh
    refine go_ivJ (pc := 29) rfl rfl (gX11_valueOf eq9) (Nat.le_of_ble_eq_true rfl) (bi_up (sX11_valueOf eq9) (Nat.le_of_ble_eq_true rfl)) ?_
    obtain ⟨h10, eh10, hh⟩ := bi_bd hh
    refine go_last (pc := 32) rfl eh10 ?_
    refine go_inc (pc := 33) rfl l2 ?_
    refine go_goto (pc := 36) rfl ?_
    exact R12 _ _ _ _ _ (bi_k1 l0 rfl rfl) (bi_k1 l1 rfl rfl) bi_e1 hh
def fX11_lawOf_12 (n : Nat) : Nat → ai_H → Nat → Int32 → Int32 → Option (Int64 × ai_H)
  | 0 => fun _ _ _ _ => none
  | k + 1 => fun h v0 v1 v2 => fX11_lawOf_12b n (fX11_lawOf_12 n k) h v0 v1 v2
theorem sX11_lawOf_12 {n : Nat} {q : Int64 × ai_H} : ∀ (k : Nat) (h : ai_H) (v0 : Nat) (v1 : Int32) (v2 : Int32) (lv : ai_L), ai_ld 0 lv = some (.ref v0) → ai_ld 1 lv = some (.int v1) → ai_ld 2 lv = some (.int v2) → fX11_lawOf_12 n k h v0 v1 v2 = some q → bi_go 2 tX11_lawOf n (fJ n q) 12 lv [] h
  | 0 => fun _ _ _ _ _ _ _ _ hh => by cases hh
  | k + 1 => fun h v0 v1 v2 lv l0 l1 l2 hh => sX11_lawOf_12b  (sX11_lawOf_12  k) l0 l1 l2 hh
def fX11_lawOf (n : Nat) (h : ai_H) (a0 : Nat) (a1 : Int32) : Option (Int64 × ai_H) :=
  (kO n h a0 11).bind fun _ =>
  (sF n h a0 11 59 (.boolean) (.int (0 : Int32))).bind fun h1 =>
  (pR n h1 a0 11 44).bind fun x2 =>
  (gX 1 n h1 x2 a1).bind fun x3 =>
  fX11_lawOf_12 n bi_K h1 a0 a1 x3
theorem gX11_lawOf {n : Nat} {h : ai_H} {a0 : Nat} {a1 : Int32} {q : Int64 × ai_H} (hh : fX11_lawOf n h a0 a1 = some q) : kO n h a0 11 = some () := by
  obtain ⟨_, e, -⟩ := bi_bd hh
  exact e
theorem sX11_lawOf {n : Nat} {h : ai_H} {a0 : Nat} {a1 : Int32} {q : Int64 × ai_H} (hh : fX11_lawOf n h a0 a1 = some q) : bi_sp 3 195 [.ref a0, .int a1] h n (fJ n q) := by
  refine bi_en (D := 2) (T := tX11_lawOf) (funext fun pc => rfl) rfl (Nat.le_of_ble_eq_true rfl) ?_
  unfold fX11_lawOf at hh
  obtain ⟨_, eO, hh⟩ := bi_bd hh
  refine go_al (pc := 0) rfl (rfl : ai_ld 0 (lv_args 0 [.ref a0, .int a1]) = some (.ref a0)) ?_
  refine go_pi (pc := 1) rfl ?_
  obtain ⟨h1, eh1, hh⟩ := bi_bd hh
  refine go_pf (pc := 2) rfl eh1 ?_
  refine go_al (pc := 5) rfl (rfl : ai_ld 0 (lv_args 0 [.ref a0, .int a1]) = some (.ref a0)) ?_
  obtain ⟨x2, ex2, hh⟩ := bi_bd hh
  refine go_gfR (pc := 6) rfl ex2 ?_
  refine go_il (pc := 9) rfl (rfl : ai_ld 1 (lv_args 0 [.ref a0, .int a1]) = some (.int a1)) ?_
  obtain ⟨x3, ex3, hh⟩ := bi_bd hh
  refine go_iald (pc := 10) rfl ex3 ?_
  refine go_is (pc := 11) rfl ?_
  exact sX11_lawOf_12  _ _ _ _ _ _ (bi_k1 (rfl : ai_ld 0 (lv_args 0 [.ref a0, .int a1]) = some (.ref a0)) rfl rfl) (bi_k1 (rfl : ai_ld 1 (lv_args 0 [.ref a0, .int a1]) = some (.int a1)) rfl rfl) bi_e1 hh
def fX11_hasBull_53 (n : Nat) (r2 : ai_H → Nat → Int32 → Int32 → Int32 → Option (Int32 × ai_H)) (h : ai_H) (v0 : Nat) (v1 : Int32) (v2 : Int32) (v3 : Int32) : Option (Int32 × ai_H) :=
  r2 h v0 v1 v2 (v3 + 1)
theorem sX11_hasBull_53 {n : Nat} {r2 : ai_H → Nat → Int32 → Int32 → Int32 → Option (Int32 × ai_H)} {q : Int32 × ai_H} {h : ai_H} {v0 : Nat} {v1 : Int32} {v2 : Int32} {v3 : Int32} {lv : ai_L} (R2 : ∀ (h : ai_H) (v0 : Nat) (v1 : Int32) (v2 : Int32) (v3 : Int32) (lv : ai_L), ai_ld 0 lv = some (.ref v0) → ai_ld 1 lv = some (.int v1) → ai_ld 2 lv = some (.int v2) → ai_ld 3 lv = some (.int v3) → r2 h v0 v1 v2 v3 = some q → bi_go 1 tX11_hasBull n (fI n q) 2 lv [] h) (l0 : ai_ld 0 lv = some (.ref v0)) (l1 : ai_ld 1 lv = some (.int v1)) (l2 : ai_ld 2 lv = some (.int v2)) (l3 : ai_ld 3 lv = some (.int v3)) (hh : fX11_hasBull_53 n r2 h v0 v1 v2 v3 = some q) : bi_go 1 tX11_hasBull n (fI n q) 53 lv [] h := by
  unfold fX11_hasBull_53 at hh
  refine go_inc (pc := 53) rfl l3 ?_
  refine go_goto (pc := 56) rfl ?_
  exact R2 _ _ _ _ _ _ (bi_k1 l0 rfl rfl) (bi_k1 l1 rfl rfl) (bi_k1 l2 rfl rfl) bi_e1 hh
def fX11_hasBull_2b (n : Nat) (r2 : ai_H → Nat → Int32 → Int32 → Int32 → Option (Int32 × ai_H)) (h : ai_H) (v0 : Nat) (v1 : Int32) (v2 : Int32) (v3 : Int32) : Option (Int32 × ai_H) :=
  (pI n h v0 11 16).bind fun x1 =>
  if x1 ≤ v3 then (
    some ((0 : Int32), h))
  else (
    (pI n h v0 11 71).bind fun x2 =>
    if ¬ x2 = 0 then (
      some ((0 : Int32), h))
    else (
      (pR n h v0 11 40).bind fun x3 =>
      (gX 1 n h x3 v3).bind fun x4 =>
      if ¬ x4 = v2 then (
        fX11_hasBull_53 n r2 h v0 v1 v2 v3)
      else (
        (pR n h v0 11 67).bind fun x5 =>
        (gX 1 n h x5 v1).bind fun x6 =>
        (pR n h v0 11 41).bind fun x7 =>
        (gX 1 n h x7 v3).bind fun x8 =>
        (pR n h v0 11 42).bind fun x9 =>
        (gX 1 n h x9 v3).bind fun x10 =>
        (fX11_isIn n h x6 x8 x10).bind fun q11 =>
        if q11.1 = 0 then (
          fX11_hasBull_53 n r2 q11.2 v0 v1 v2 v3)
        else (
          some ((1 : Int32), q11.2)))))
theorem sX11_hasBull_2b {n : Nat} {r2 : ai_H → Nat → Int32 → Int32 → Int32 → Option (Int32 × ai_H)} {q : Int32 × ai_H} {h : ai_H} {v0 : Nat} {v1 : Int32} {v2 : Int32} {v3 : Int32} {lv : ai_L} (R2 : ∀ (h : ai_H) (v0 : Nat) (v1 : Int32) (v2 : Int32) (v3 : Int32) (lv : ai_L), ai_ld 0 lv = some (.ref v0) → ai_ld 1 lv = some (.int v1) → ai_ld 2 lv = some (.int v2) → ai_ld 3 lv = some (.int v3) → r2 h v0 v1 v2 v3 = some q → bi_go 1 tX11_hasBull n (fI n q) 2 lv [] h) (l0 : ai_ld 0 lv = some (.ref v0)) (l1 : ai_ld 1 lv = some (.int v1)) (l2 : ai_ld 2 lv = some (.int v2)) (l3 : ai_ld 3 lv = some (.int v3)) (hh : fX11_hasBull_2b n r2 h v0 v1 v2 v3 = some q) : bi_go 1 tX11_hasBull n (fI n q) 2 lv [] h := by
  unfold fX11_hasBull_2b at hh
  refine go_il (pc := 2) rfl l3 ?_
  refine go_al (pc := 3) rfl l0 ?_
  obtain ⟨x1, ex1, hh⟩ := bi_bd hh
  refine go_gfI (pc := 4) rfl ex1 ?_
  refine bi_ite hh (fun hc hh => ?_) (fun hc hh => ?_)
  · refine go_cmpgeT (pc := 7) rfl hc ?_
    refine go_pi (pc := 59) rfl ?_
    exact go_rz (pc := 60) rfl bi_z0 hh
  · refine go_cmpgeF (pc := 7) rfl hc ?_
    refine go_al (pc := 10) rfl l0 ?_
    obtain ⟨x2, ex2, hh⟩ := bi_bd hh
    refine go_gfI (pc := 11) rfl ex2 ?_
    refine bi_ite hh (fun hc hh => ?_) (fun hc hh => ?_)
    · refine go_ifneT (pc := 14) rfl hc ?_
      refine go_pi (pc := 59) rfl ?_
      exact go_rz (pc := 60) rfl bi_z0 hh
    · refine go_ifneF (pc := 14) rfl hc ?_
      refine go_al (pc := 17) rfl l0 ?_
      obtain ⟨x3, ex3, hh⟩ := bi_bd hh
      refine go_gfR (pc := 18) rfl ex3 ?_
      refine go_il (pc := 21) rfl l3 ?_
      obtain ⟨x4, ex4, hh⟩ := bi_bd hh
      refine go_iald (pc := 22) rfl ex4 ?_
      refine go_il (pc := 23) rfl l2 ?_
      refine bi_ite hh (fun hc hh => ?_) (fun hc hh => ?_)
      · refine go_cmpneT (pc := 24) rfl hc ?_
        exact sX11_hasBull_53 R2 l0 l1 l2 l3 hh
      · refine go_cmpneF (pc := 24) rfl hc ?_
        refine go_al (pc := 27) rfl l0 ?_
        obtain ⟨x5, ex5, hh⟩ := bi_bd hh
        refine go_gfR (pc := 28) rfl ex5 ?_
        refine go_il (pc := 31) rfl l1 ?_
        obtain ⟨x6, ex6, hh⟩ := bi_bd hh
        refine go_iald (pc := 32) rfl ex6 ?_
        refine go_al (pc := 33) rfl l0 ?_
        obtain ⟨x7, ex7, hh⟩ := bi_bd hh
        refine go_gfR (pc := 34) rfl ex7 ?_
        refine go_il (pc := 37) rfl l3 ?_
        obtain ⟨x8, ex8, hh⟩ := bi_bd hh
        refine go_iald (pc := 38) rfl ex8 ?_
        refine go_al (pc := 39) rfl l0 ?_
        obtain ⟨x9, ex9, hh⟩ := bi_bd hh
        refine go_gfR (pc := 40) rfl ex9 ?_
        refine go_il (pc := 43) rfl l3 ?_
        obtain ⟨x10, ex10, hh⟩ := bi_bd hh
        refine go_iald (pc := 44) rfl ex10 ?_
        obtain ⟨q11, eq11, hh⟩ := bi_bd hh
        refine go_iSI (pc := 45) rfl (Nat.le_of_ble_eq_true rfl) rfl (Nat.le_of_ble_eq_true rfl) (bi_up (sX11_isIn eq11) (Nat.le_of_ble_eq_true rfl)) ?_
        refine bi_ite hh (fun hc hh => ?_) (fun hc hh => ?_)
        · refine go_ifeqT (pc := 48) rfl hc ?_
          exact sX11_hasBull_53 R2 l0 l1 l2 l3 hh
        · refine go_ifeqF (pc := 48) rfl hc ?_
          refine go_pi (pc := 51) rfl ?_
          exact go_rz (pc := 52) rfl bi_z1 hh
def fX11_hasBull_2 (n : Nat) : Nat → ai_H → Nat → Int32 → Int32 → Int32 → Option (Int32 × ai_H)
  | 0 => fun _ _ _ _ _ => none
  | k + 1 => fun h v0 v1 v2 v3 => fX11_hasBull_2b n (fX11_hasBull_2 n k) h v0 v1 v2 v3
theorem sX11_hasBull_2 {n : Nat} {q : Int32 × ai_H} : ∀ (k : Nat) (h : ai_H) (v0 : Nat) (v1 : Int32) (v2 : Int32) (v3 : Int32) (lv : ai_L), ai_ld 0 lv = some (.ref v0) → ai_ld 1 lv = some (.int v1) → ai_ld 2 lv = some (.int v2) → ai_ld 3 lv = some (.int v3) → fX11_hasBull_2 n k h v0 v1 v2 v3 = some q → bi_go 1 tX11_hasBull n (fI n q) 2 lv [] h
  | 0 => fun _ _ _ _ _ _ _ _ _ _ hh => by cases hh
  | k + 1 => fun h v0 v1 v2 v3 lv l0 l1 l2 l3 hh => sX11_hasBull_2b  (sX11_hasBull_2  k) l0 l1 l2 l3 hh
def fX11_hasBull (n : Nat) (h : ai_H) (a0 : Nat) (a1 : Int32) (a2 : Int32) : Option (Int32 × ai_H) :=
  (kO n h a0 11).bind fun _ =>
  fX11_hasBull_2 n bi_K h a0 a1 a2 (0 : Int32)
theorem gX11_hasBull {n : Nat} {h : ai_H} {a0 : Nat} {a1 : Int32} {a2 : Int32} {q : Int32 × ai_H} (hh : fX11_hasBull n h a0 a1 a2 = some q) : kO n h a0 11 = some () := by
  obtain ⟨_, e, -⟩ := bi_bd hh
  exact e
theorem sX11_hasBull {n : Nat} {h : ai_H} {a0 : Nat} {a1 : Int32} {a2 : Int32} {q : Int32 × ai_H} (hh : fX11_hasBull n h a0 a1 a2 = some q) : bi_sp 2 196 [.ref a0, .int a1, .int a2] h n (fI n q) := by
  refine bi_en (D := 1) (T := tX11_hasBull) (funext fun pc => rfl) rfl (Nat.le_of_ble_eq_true rfl) ?_
  unfold fX11_hasBull at hh
  obtain ⟨_, eO, hh⟩ := bi_bd hh
  refine go_pi (pc := 0) rfl ?_
  refine go_is (pc := 1) rfl ?_
  exact sX11_hasBull_2  _ _ _ _ _ _ _ (bi_k1 (rfl : ai_ld 0 (lv_args 0 [.ref a0, .int a1, .int a2]) = some (.ref a0)) rfl rfl) (bi_k1 (rfl : ai_ld 1 (lv_args 0 [.ref a0, .int a1, .int a2]) = some (.int a1)) rfl rfl) (bi_k1 (rfl : ai_ld 2 (lv_args 0 [.ref a0, .int a1, .int a2]) = some (.int a2)) rfl rfl) bi_e1 hh
def fX11_isAtEnd_20 (n : Nat) (h : ai_H) : Option (Int32 × ai_H) :=
  some ((1 : Int32), h)
theorem sX11_isAtEnd_20 {n : Nat} {q : Int32 × ai_H} {h : ai_H} {lv : ai_L} (hh : fX11_isAtEnd_20 n h = some q) : bi_go 0 tX11_isAtEnd n (fI n q) 20 lv [] h := by
  unfold fX11_isAtEnd_20 at hh
  refine go_pi (pc := 20) rfl ?_
  refine go_goto (pc := 21) rfl ?_
  exact go_rz (pc := 25) rfl bi_z1 hh
def fX11_isAtEnd (n : Nat) (h : ai_H) (a0 : Nat) (a1 : Int32) (a2 : Int32) : Option (Int32 × ai_H) :=
  (kO n h a0 11).bind fun _ =>
  (pR n h a0 11 28).bind fun x1 =>
  (gX 1 n h x1 a1).bind fun x2 =>
  if x2 = a2 then (
    fX11_isAtEnd_20 n h)
  else (
    (pR n h a0 11 29).bind fun x3 =>
    (gX 1 n h x3 a1).bind fun x4 =>
    if ¬ x4 = a2 then (
      some ((0 : Int32), h))
    else (
      fX11_isAtEnd_20 n h))
theorem gX11_isAtEnd {n : Nat} {h : ai_H} {a0 : Nat} {a1 : Int32} {a2 : Int32} {q : Int32 × ai_H} (hh : fX11_isAtEnd n h a0 a1 a2 = some q) : kO n h a0 11 = some () := by
  obtain ⟨_, e, -⟩ := bi_bd hh
  exact e
theorem sX11_isAtEnd {n : Nat} {h : ai_H} {a0 : Nat} {a1 : Int32} {a2 : Int32} {q : Int32 × ai_H} (hh : fX11_isAtEnd n h a0 a1 a2 = some q) : bi_sp 1 197 [.ref a0, .int a1, .int a2] h n (fI n q) := by
  refine bi_en (D := 0) (T := tX11_isAtEnd) (funext fun pc => rfl) rfl (Nat.le_of_ble_eq_true rfl) ?_
  unfold fX11_isAtEnd at hh
  obtain ⟨_, eO, hh⟩ := bi_bd hh
  refine go_al (pc := 0) rfl (rfl : ai_ld 0 (lv_args 0 [.ref a0, .int a1, .int a2]) = some (.ref a0)) ?_
  obtain ⟨x1, ex1, hh⟩ := bi_bd hh
  refine go_gfR (pc := 1) rfl ex1 ?_
  refine go_il (pc := 4) rfl (rfl : ai_ld 1 (lv_args 0 [.ref a0, .int a1, .int a2]) = some (.int a1)) ?_
  obtain ⟨x2, ex2, hh⟩ := bi_bd hh
  refine go_iald (pc := 5) rfl ex2 ?_
  refine go_il (pc := 6) rfl (rfl : ai_ld 2 (lv_args 0 [.ref a0, .int a1, .int a2]) = some (.int a2)) ?_
  refine bi_ite hh (fun hc hh => ?_) (fun hc hh => ?_)
  · refine go_cmpeqT (pc := 7) rfl hc ?_
    exact sX11_isAtEnd_20   hh
  · refine go_cmpeqF (pc := 7) rfl hc ?_
    refine go_al (pc := 10) rfl (rfl : ai_ld 0 (lv_args 0 [.ref a0, .int a1, .int a2]) = some (.ref a0)) ?_
    obtain ⟨x3, ex3, hh⟩ := bi_bd hh
    refine go_gfR (pc := 11) rfl ex3 ?_
    refine go_il (pc := 14) rfl (rfl : ai_ld 1 (lv_args 0 [.ref a0, .int a1, .int a2]) = some (.int a1)) ?_
    obtain ⟨x4, ex4, hh⟩ := bi_bd hh
    refine go_iald (pc := 15) rfl ex4 ?_
    refine go_il (pc := 16) rfl (rfl : ai_ld 2 (lv_args 0 [.ref a0, .int a1, .int a2]) = some (.int a2)) ?_
    refine bi_ite hh (fun hc hh => ?_) (fun hc hh => ?_)
    · refine go_cmpneT (pc := 17) rfl hc ?_
      refine go_pi (pc := 24) rfl ?_
      exact go_rz (pc := 25) rfl bi_z0 hh
    · refine go_cmpneF (pc := 17) rfl hc ?_
      exact sX11_isAtEnd_20   hh
def fX11_costOf (n : Nat) (h : ai_H) (a0 : Nat) (a1 : Int32) (a2 : Int32) (a3 : Int32) : Option (Int32 × ai_H) :=
  (kO n h a0 11).bind fun _ =>
  (pR n h a0 11 43).bind fun x1 =>
  (gB n h x1 (2 : Int32)).bind fun x2 =>
  if ¬ x2 = 0 then (
    (fX11_layBoth n h a0 a1 a2 a3).bind fun q3 =>
    (fX11_lawOf n q3.2 a0 (2 : Int32)).bind fun q4 =>
    (pI n q4.2 a0 11 59).bind fun x5 =>
    if x5 = 0 then (
      if 0 ≤ (lg_cmp q4.1 (0 : Int64)) then (
        if (lg_cmp q4.1 (99 : Int64)) ≤ 0 then (
          some (q4.1.toInt32, q4.2))
        else (
          some ((99 : Int32), q4.2)))
      else (
        some ((0 : Int32), q4.2)))
    else (
      (pR n q4.2 a0 11 30).bind fun x6 =>
      (gX 1 n q4.2 x6 a2).bind fun x7 =>
      some (x7, q4.2)))
  else (
    (pR n h a0 11 30).bind fun x8 =>
    (gX 1 n h x8 a2).bind fun x9 =>
    some (x9, h))
theorem gX11_costOf {n : Nat} {h : ai_H} {a0 : Nat} {a1 : Int32} {a2 : Int32} {a3 : Int32} {q : Int32 × ai_H} (hh : fX11_costOf n h a0 a1 a2 a3 = some q) : kO n h a0 11 = some () := by
  obtain ⟨_, e, -⟩ := bi_bd hh
  exact e
theorem sX11_costOf {n : Nat} {h : ai_H} {a0 : Nat} {a1 : Int32} {a2 : Int32} {a3 : Int32} {q : Int32 × ai_H} (hh : fX11_costOf n h a0 a1 a2 a3 = some q) : bi_sp 4 198 [.ref a0, .int a1, .int a2, .int a3] h n (fI n q) := by
  refine bi_en (D := 3) (T := tX11_costOf) (funext fun pc => rfl) rfl (Nat.le_of_ble_eq_true rfl) ?_
  unfold fX11_costOf at hh
  obtain ⟨_, eO, hh⟩ := bi_bd hh
  refine go_al (pc := 0) rfl (rfl : ai_ld 0 (lv_args 0 [.ref a0, .int a1, .int a2, .int a3]) = some (.ref a0)) ?_
  obtain ⟨x1, ex1, hh⟩ := bi_bd hh
  refine go_gfR (pc := 1) rfl ex1 ?_
  refine go_pi (pc := 4) rfl ?_
  obtain ⟨x2, ex2, hh⟩ := bi_bd hh
  refine go_bald (pc := 5) rfl ex2 ?_
  refine bi_ite hh (fun hc hh => ?_) (fun hc hh => ?_)
  · refine go_ifneT (pc := 6) rfl hc ?_
    refine go_al (pc := 16) rfl (rfl : ai_ld 0 (lv_args 0 [.ref a0, .int a1, .int a2, .int a3]) = some (.ref a0)) ?_
    refine go_il (pc := 17) rfl (rfl : ai_ld 1 (lv_args 0 [.ref a0, .int a1, .int a2, .int a3]) = some (.int a1)) ?_
    refine go_il (pc := 18) rfl (rfl : ai_ld 2 (lv_args 0 [.ref a0, .int a1, .int a2, .int a3]) = some (.int a2)) ?_
    refine go_il (pc := 19) rfl (rfl : ai_ld 3 (lv_args 0 [.ref a0, .int a1, .int a2, .int a3]) = some (.int a3)) ?_
    obtain ⟨q3, eq3, hh⟩ := bi_bd hh
    refine go_ivV (pc := 20) rfl rfl (gX11_layBoth eq3) (Nat.le_of_ble_eq_true rfl) (bi_up (sX11_layBoth eq3) (Nat.le_of_ble_eq_true rfl)) ?_
    refine go_al (pc := 23) rfl (rfl : ai_ld 0 (lv_args 0 [.ref a0, .int a1, .int a2, .int a3]) = some (.ref a0)) ?_
    refine go_pi (pc := 24) rfl ?_
    obtain ⟨q4, eq4, hh⟩ := bi_bd hh
    refine go_ivJ (pc := 25) rfl rfl (gX11_lawOf eq4) (Nat.le_of_ble_eq_true rfl) (bi_up (sX11_lawOf eq4) (Nat.le_of_ble_eq_true rfl)) ?_
    refine go_lst (pc := 28) rfl ?_
    refine go_al (pc := 30) rfl (bi_k2 (rfl : ai_ld 0 (lv_args 0 [.ref a0, .int a1, .int a2, .int a3]) = some (.ref a0)) rfl rfl rfl) ?_
    obtain ⟨x5, ex5, hh⟩ := bi_bd hh
    refine go_gfI (pc := 31) rfl ex5 ?_
    refine bi_ite hh (fun hc hh => ?_) (fun hc hh => ?_)
    · refine go_ifeqT (pc := 34) rfl hc ?_
      refine go_ll (pc := 46) rfl bi_e2 ?_
      refine go_pl (pc := 48) rfl ?_
      refine go_lcmp (pc := 49) rfl ?_
      refine bi_ite hh (fun hc hh => ?_) (fun hc hh => ?_)
      · refine go_ifgeT (pc := 50) rfl hc ?_
        refine go_ll (pc := 57) rfl bi_e2 ?_
        refine go_pl (pc := 59) rfl ?_
        refine go_lcmp (pc := 62) rfl ?_
        refine bi_ite hh (fun hc hh => ?_) (fun hc hh => ?_)
        · refine go_ifleT (pc := 63) rfl hc ?_
          refine go_ll (pc := 71) rfl bi_e2 ?_
          refine go_l2i (pc := 73) rfl ?_
          exact go_ri (pc := 74) rfl hh
        · refine go_ifleF (pc := 63) rfl hc ?_
          refine go_pi (pc := 66) rfl ?_
          refine go_goto (pc := 68) rfl ?_
          exact go_ri (pc := 74) rfl hh
      · refine go_ifgeF (pc := 50) rfl hc ?_
        refine go_pi (pc := 53) rfl ?_
        refine go_goto (pc := 54) rfl ?_
        exact go_ri (pc := 74) rfl hh
    · refine go_ifeqF (pc := 34) rfl hc ?_
      refine go_al (pc := 37) rfl (bi_k2 (rfl : ai_ld 0 (lv_args 0 [.ref a0, .int a1, .int a2, .int a3]) = some (.ref a0)) rfl rfl rfl) ?_
      obtain ⟨x6, ex6, hh⟩ := bi_bd hh
      refine go_gfR (pc := 38) rfl ex6 ?_
      refine go_il (pc := 41) rfl (bi_k2 (rfl : ai_ld 2 (lv_args 0 [.ref a0, .int a1, .int a2, .int a3]) = some (.int a2)) rfl rfl rfl) ?_
      obtain ⟨x7, ex7, hh⟩ := bi_bd hh
      refine go_iald (pc := 42) rfl ex7 ?_
      refine go_goto (pc := 43) rfl ?_
      exact go_ri (pc := 74) rfl hh
  · refine go_ifneF (pc := 6) rfl hc ?_
    refine go_al (pc := 9) rfl (rfl : ai_ld 0 (lv_args 0 [.ref a0, .int a1, .int a2, .int a3]) = some (.ref a0)) ?_
    obtain ⟨x8, ex8, hh⟩ := bi_bd hh
    refine go_gfR (pc := 10) rfl ex8 ?_
    refine go_il (pc := 13) rfl (rfl : ai_ld 2 (lv_args 0 [.ref a0, .int a1, .int a2, .int a3]) = some (.int a2)) ?_
    obtain ⟨x9, ex9, hh⟩ := bi_bd hh
    refine go_iald (pc := 14) rfl ex9 ?_
    exact go_ri (pc := 15) rfl hh
def fX11_can_113 (n : Nat) (h : ai_H) (v0 : Nat) (v1 : Int32) (v2 : Int32) (v3 : Int32) (v4 : Int32) : Option (Int32 × ai_H) :=
  if v4 = 0 then (
    some ((0 : Int32), h))
  else (
    (pR n h v0 11 61).bind fun x1 =>
    (gX 1 n h x1 (((4 : Int32) * v1) + v3)).bind fun x2 =>
    (fX11_costOf n h v0 v1 v2 v3).bind fun q3 =>
    if x2 < q3.1 then (
      some ((0 : Int32), q3.2))
    else (
      some ((1 : Int32), q3.2)))
theorem sX11_can_113 {n : Nat} {q : Int32 × ai_H} {h : ai_H} {v0 : Nat} {v1 : Int32} {v2 : Int32} {v3 : Int32} {v4 : Int32} {lv : ai_L} (l0 : ai_ld 0 lv = some (.ref v0)) (l1 : ai_ld 1 lv = some (.int v1)) (l2 : ai_ld 2 lv = some (.int v2)) (l3 : ai_ld 3 lv = some (.int v3)) (l4 : ai_ld 4 lv = some (.int v4)) (hh : fX11_can_113 n h v0 v1 v2 v3 v4 = some q) : bi_go 4 tX11_can n (fI n q) 113 lv [] h := by
  unfold fX11_can_113 at hh
  refine go_il (pc := 113) rfl l4 ?_
  refine bi_ite hh (fun hc hh => ?_) (fun hc hh => ?_)
  · refine go_ifeqT (pc := 115) rfl hc ?_
    refine go_pi (pc := 142) rfl ?_
    exact go_rz (pc := 143) rfl bi_z0 hh
  · refine go_ifeqF (pc := 115) rfl hc ?_
    refine go_al (pc := 118) rfl l0 ?_
    obtain ⟨x1, ex1, hh⟩ := bi_bd hh
    refine go_gfR (pc := 119) rfl ex1 ?_
    refine go_pi (pc := 122) rfl ?_
    refine go_il (pc := 123) rfl l1 ?_
    refine go_imul (pc := 124) rfl ?_
    refine go_il (pc := 125) rfl l3 ?_
    refine go_iadd (pc := 126) rfl ?_
    obtain ⟨x2, ex2, hh⟩ := bi_bd hh
    refine go_iald (pc := 127) rfl ex2 ?_
    refine go_al (pc := 128) rfl l0 ?_
    refine go_il (pc := 129) rfl l1 ?_
    refine go_il (pc := 130) rfl l2 ?_
    refine go_il (pc := 131) rfl l3 ?_
    obtain ⟨q3, eq3, hh⟩ := bi_bd hh
    refine go_ivI (pc := 132) rfl rfl (gX11_costOf eq3) (Nat.le_of_ble_eq_true rfl) (bi_up (sX11_costOf eq3) (Nat.le_of_ble_eq_true rfl)) ?_
    refine bi_ite hh (fun hc hh => ?_) (fun hc hh => ?_)
    · refine go_cmpltT (pc := 135) rfl hc ?_
      refine go_pi (pc := 142) rfl ?_
      exact go_rz (pc := 143) rfl bi_z0 hh
    · refine go_cmpltF (pc := 135) rfl hc ?_
      refine go_pi (pc := 138) rfl ?_
      refine go_goto (pc := 139) rfl ?_
      exact go_rz (pc := 143) rfl bi_z1 hh
def fX11_can_111 (n : Nat) (h : ai_H) (v0 : Nat) (v1 : Int32) (v2 : Int32) (v3 : Int32) (s0 : Int32) : Option (Int32 × ai_H) :=
  fX11_can_113 n h v0 v1 v2 v3 s0
theorem sX11_can_111 {n : Nat} {q : Int32 × ai_H} {h : ai_H} {v0 : Nat} {v1 : Int32} {v2 : Int32} {v3 : Int32} {s0 : Int32} {lv : ai_L} (l0 : ai_ld 0 lv = some (.ref v0)) (l1 : ai_ld 1 lv = some (.int v1)) (l2 : ai_ld 2 lv = some (.int v2)) (l3 : ai_ld 3 lv = some (.int v3)) (hh : fX11_can_111 n h v0 v1 v2 v3 s0 = some q) : bi_go 4 tX11_can n (fI n q) 111 lv [.int s0] h := by
  unfold fX11_can_111 at hh
  refine go_is (pc := 111) rfl ?_
  exact sX11_can_113  (bi_k1 l0 rfl rfl) (bi_k1 l1 rfl rfl) (bi_k1 l2 rfl rfl) (bi_k1 l3 rfl rfl) bi_e1 hh
def fX11_can_62 (n : Nat) (h : ai_H) (v0 : Nat) (v1 : Int32) (v2 : Int32) (v3 : Int32) (s0 : Int32) : Option (Int32 × ai_H) :=
  (pR n h v0 11 43).bind fun x1 =>
  (gB n h x1 (1 : Int32)).bind fun x2 =>
  if x2 = 0 then (
    fX11_can_113 n h v0 v1 v2 v3 s0)
  else (
    (fX11_layBoth n h v0 v1 v2 v3).bind fun q3 =>
    (fX11_lawOf n q3.2 v0 (1 : Int32)).bind fun q4 =>
    (pI n q4.2 v0 11 59).bind fun x5 =>
    if x5 = 0 then (
      if (lg_cmp q4.1 (0 : Int64)) = 0 then (
        fX11_can_111 n q4.2 v0 v1 v2 v3 (0 : Int32))
      else (
        fX11_can_111 n q4.2 v0 v1 v2 v3 (1 : Int32)))
    else (
      fX11_can_111 n q4.2 v0 v1 v2 v3 s0))
theorem sX11_can_62 {n : Nat} {q : Int32 × ai_H} {h : ai_H} {v0 : Nat} {v1 : Int32} {v2 : Int32} {v3 : Int32} {s0 : Int32} {lv : ai_L} (l0 : ai_ld 0 lv = some (.ref v0)) (l1 : ai_ld 1 lv = some (.int v1)) (l2 : ai_ld 2 lv = some (.int v2)) (l3 : ai_ld 3 lv = some (.int v3)) (hh : fX11_can_62 n h v0 v1 v2 v3 s0 = some q) : bi_go 4 tX11_can n (fI n q) 62 lv [.int s0] h := by
  unfold fX11_can_62 at hh
  refine go_is (pc := 62) rfl ?_
  refine go_al (pc := 64) rfl (bi_k1 l0 rfl rfl) ?_
  obtain ⟨x1, ex1, hh⟩ := bi_bd hh
  refine go_gfR (pc := 65) rfl ex1 ?_
  refine go_pi (pc := 68) rfl ?_
  obtain ⟨x2, ex2, hh⟩ := bi_bd hh
  refine go_bald (pc := 69) rfl ex2 ?_
  refine bi_ite hh (fun hc hh => ?_) (fun hc hh => ?_)
  · refine go_ifeqT (pc := 70) rfl hc ?_
    exact sX11_can_113  (bi_k1 l0 rfl rfl) (bi_k1 l1 rfl rfl) (bi_k1 l2 rfl rfl) (bi_k1 l3 rfl rfl) bi_e1 hh
  · refine go_ifeqF (pc := 70) rfl hc ?_
    refine go_al (pc := 73) rfl (bi_k1 l0 rfl rfl) ?_
    refine go_il (pc := 74) rfl (bi_k1 l1 rfl rfl) ?_
    refine go_il (pc := 75) rfl (bi_k1 l2 rfl rfl) ?_
    refine go_il (pc := 76) rfl (bi_k1 l3 rfl rfl) ?_
    obtain ⟨q3, eq3, hh⟩ := bi_bd hh
    refine go_ivV (pc := 77) rfl rfl (gX11_layBoth eq3) (Nat.le_of_ble_eq_true rfl) (bi_up (sX11_layBoth eq3) (Nat.le_of_ble_eq_true rfl)) ?_
    refine go_al (pc := 80) rfl (bi_k1 l0 rfl rfl) ?_
    refine go_pi (pc := 81) rfl ?_
    obtain ⟨q4, eq4, hh⟩ := bi_bd hh
    refine go_ivJ (pc := 82) rfl rfl (gX11_lawOf eq4) (Nat.le_of_ble_eq_true rfl) (bi_up (sX11_lawOf eq4) (Nat.le_of_ble_eq_true rfl)) ?_
    refine go_lst (pc := 85) rfl ?_
    refine go_al (pc := 87) rfl (bi_k2 (bi_k1 l0 rfl rfl) rfl rfl rfl) ?_
    obtain ⟨x5, ex5, hh⟩ := bi_bd hh
    refine go_gfI (pc := 88) rfl ex5 ?_
    refine bi_ite hh (fun hc hh => ?_) (fun hc hh => ?_)
    · refine go_ifeqT (pc := 91) rfl hc ?_
      refine go_ll (pc := 99) rfl bi_e2 ?_
      refine go_pl (pc := 101) rfl ?_
      refine go_lcmp (pc := 102) rfl ?_
      refine bi_ite hh (fun hc hh => ?_) (fun hc hh => ?_)
      · refine go_ifeqT (pc := 103) rfl hc ?_
        refine go_pi (pc := 110) rfl ?_
        exact sX11_can_111  (bi_k2 (bi_k1 l0 rfl rfl) rfl rfl rfl) (bi_k2 (bi_k1 l1 rfl rfl) rfl rfl rfl) (bi_k2 (bi_k1 l2 rfl rfl) rfl rfl rfl) (bi_k2 (bi_k1 l3 rfl rfl) rfl rfl rfl) hh
      · refine go_ifeqF (pc := 103) rfl hc ?_
        refine go_pi (pc := 106) rfl ?_
        refine go_goto (pc := 107) rfl ?_
        exact sX11_can_111  (bi_k2 (bi_k1 l0 rfl rfl) rfl rfl rfl) (bi_k2 (bi_k1 l1 rfl rfl) rfl rfl rfl) (bi_k2 (bi_k1 l2 rfl rfl) rfl rfl rfl) (bi_k2 (bi_k1 l3 rfl rfl) rfl rfl rfl) hh
    · refine go_ifeqF (pc := 91) rfl hc ?_
      refine go_il (pc := 94) rfl (bi_k2 bi_e1 rfl rfl rfl) ?_
      refine go_goto (pc := 96) rfl ?_
      exact sX11_can_111  (bi_k2 (bi_k1 l0 rfl rfl) rfl rfl rfl) (bi_k2 (bi_k1 l1 rfl rfl) rfl rfl rfl) (bi_k2 (bi_k1 l2 rfl rfl) rfl rfl rfl) (bi_k2 (bi_k1 l3 rfl rfl) rfl rfl rfl) hh
def fX11_can (n : Nat) (h : ai_H) (a0 : Nat) (a1 : Int32) (a2 : Int32) (a3 : Int32) : Option (Int32 × ai_H) :=
  (kO n h a0 11).bind fun _ =>
  (pR n h a0 11 63).bind fun x1 =>
  (gB n h x1 (((9 : Int32) * a1) + a2)).bind fun x2 =>
  if x2 = 0 then (
    some ((0 : Int32), h))
  else (
    (pR n h a0 11 60).bind fun x3 =>
    (gX 1 n h x3 (((4 : Int32) * a1) + a3)).bind fun x4 =>
    (fX11_isAtEnd n h a0 a2 x4).bind fun q5 =>
    if q5.1 = 0 then (
      some ((0 : Int32), q5.2))
    else (
      (fX11_hasBull n q5.2 a0 a1 a2).bind fun q6 =>
      if q6.1 = 0 then (
        (pR n q6.2 a0 11 31).bind fun x7 =>
        (gX 1 n q6.2 x7 a2).bind fun x8 =>
        (fX11_legsIn n q6.2 a0 a3).bind fun q9 =>
        if q9.1 < x8 then (
          fX11_can_62 n q9.2 a0 a1 a2 a3 (0 : Int32))
        else (
          fX11_can_62 n q9.2 a0 a1 a2 a3 (1 : Int32)))
      else (
        some ((0 : Int32), q6.2))))
theorem gX11_can {n : Nat} {h : ai_H} {a0 : Nat} {a1 : Int32} {a2 : Int32} {a3 : Int32} {q : Int32 × ai_H} (hh : fX11_can n h a0 a1 a2 a3 = some q) : kO n h a0 11 = some () := by
  obtain ⟨_, e, -⟩ := bi_bd hh
  exact e
theorem sX11_can {n : Nat} {h : ai_H} {a0 : Nat} {a1 : Int32} {a2 : Int32} {a3 : Int32} {q : Int32 × ai_H} (hh : fX11_can n h a0 a1 a2 a3 = some q) : bi_sp 5 199 [.ref a0, .int a1, .int a2, .int a3] h n (fI n q) := by
  refine bi_en (D := 4) (T := tX11_can) (funext fun pc => rfl) rfl (Nat.le_of_ble_eq_true rfl) ?_
  unfold fX11_can at hh
  obtain ⟨_, eO, hh⟩ := bi_bd hh
  refine go_al (pc := 0) rfl (rfl : ai_ld 0 (lv_args 0 [.ref a0, .int a1, .int a2, .int a3]) = some (.ref a0)) ?_
  obtain ⟨x1, ex1, hh⟩ := bi_bd hh
  refine go_gfR (pc := 1) rfl ex1 ?_
  refine go_pi (pc := 4) rfl ?_
  refine go_il (pc := 6) rfl (rfl : ai_ld 1 (lv_args 0 [.ref a0, .int a1, .int a2, .int a3]) = some (.int a1)) ?_
  refine go_imul (pc := 7) rfl ?_
  refine go_il (pc := 8) rfl (rfl : ai_ld 2 (lv_args 0 [.ref a0, .int a1, .int a2, .int a3]) = some (.int a2)) ?_
  refine go_iadd (pc := 9) rfl ?_
  obtain ⟨x2, ex2, hh⟩ := bi_bd hh
  refine go_bald (pc := 10) rfl ex2 ?_
  refine bi_ite hh (fun hc hh => ?_) (fun hc hh => ?_)
  · refine go_ifeqT (pc := 11) rfl hc ?_
    refine go_pi (pc := 41) rfl ?_
    exact go_rz (pc := 42) rfl bi_z0 hh
  · refine go_ifeqF (pc := 11) rfl hc ?_
    refine go_al (pc := 14) rfl (rfl : ai_ld 0 (lv_args 0 [.ref a0, .int a1, .int a2, .int a3]) = some (.ref a0)) ?_
    refine go_il (pc := 15) rfl (rfl : ai_ld 2 (lv_args 0 [.ref a0, .int a1, .int a2, .int a3]) = some (.int a2)) ?_
    refine go_al (pc := 16) rfl (rfl : ai_ld 0 (lv_args 0 [.ref a0, .int a1, .int a2, .int a3]) = some (.ref a0)) ?_
    obtain ⟨x3, ex3, hh⟩ := bi_bd hh
    refine go_gfR (pc := 17) rfl ex3 ?_
    refine go_pi (pc := 20) rfl ?_
    refine go_il (pc := 21) rfl (rfl : ai_ld 1 (lv_args 0 [.ref a0, .int a1, .int a2, .int a3]) = some (.int a1)) ?_
    refine go_imul (pc := 22) rfl ?_
    refine go_il (pc := 23) rfl (rfl : ai_ld 3 (lv_args 0 [.ref a0, .int a1, .int a2, .int a3]) = some (.int a3)) ?_
    refine go_iadd (pc := 24) rfl ?_
    obtain ⟨x4, ex4, hh⟩ := bi_bd hh
    refine go_iald (pc := 25) rfl ex4 ?_
    obtain ⟨q5, eq5, hh⟩ := bi_bd hh
    refine go_ivI (pc := 26) rfl rfl (gX11_isAtEnd eq5) (Nat.le_of_ble_eq_true rfl) (bi_up (sX11_isAtEnd eq5) (Nat.le_of_ble_eq_true rfl)) ?_
    refine bi_ite hh (fun hc hh => ?_) (fun hc hh => ?_)
    · refine go_ifeqT (pc := 29) rfl hc ?_
      refine go_pi (pc := 41) rfl ?_
      exact go_rz (pc := 42) rfl bi_z0 hh
    · refine go_ifeqF (pc := 29) rfl hc ?_
      refine go_al (pc := 32) rfl (rfl : ai_ld 0 (lv_args 0 [.ref a0, .int a1, .int a2, .int a3]) = some (.ref a0)) ?_
      refine go_il (pc := 33) rfl (rfl : ai_ld 1 (lv_args 0 [.ref a0, .int a1, .int a2, .int a3]) = some (.int a1)) ?_
      refine go_il (pc := 34) rfl (rfl : ai_ld 2 (lv_args 0 [.ref a0, .int a1, .int a2, .int a3]) = some (.int a2)) ?_
      obtain ⟨q6, eq6, hh⟩ := bi_bd hh
      refine go_ivI (pc := 35) rfl rfl (gX11_hasBull eq6) (Nat.le_of_ble_eq_true rfl) (bi_up (sX11_hasBull eq6) (Nat.le_of_ble_eq_true rfl)) ?_
      refine bi_ite hh (fun hc hh => ?_) (fun hc hh => ?_)
      · refine go_ifeqT (pc := 38) rfl hc ?_
        refine go_al (pc := 43) rfl (rfl : ai_ld 0 (lv_args 0 [.ref a0, .int a1, .int a2, .int a3]) = some (.ref a0)) ?_
        obtain ⟨x7, ex7, hh⟩ := bi_bd hh
        refine go_gfR (pc := 44) rfl ex7 ?_
        refine go_il (pc := 47) rfl (rfl : ai_ld 2 (lv_args 0 [.ref a0, .int a1, .int a2, .int a3]) = some (.int a2)) ?_
        obtain ⟨x8, ex8, hh⟩ := bi_bd hh
        refine go_iald (pc := 48) rfl ex8 ?_
        refine go_al (pc := 49) rfl (rfl : ai_ld 0 (lv_args 0 [.ref a0, .int a1, .int a2, .int a3]) = some (.ref a0)) ?_
        refine go_il (pc := 50) rfl (rfl : ai_ld 3 (lv_args 0 [.ref a0, .int a1, .int a2, .int a3]) = some (.int a3)) ?_
        obtain ⟨q9, eq9, hh⟩ := bi_bd hh
        refine go_ivI (pc := 51) rfl rfl (gX11_legsIn eq9) (Nat.le_of_ble_eq_true rfl) (bi_up (sX11_legsIn eq9) (Nat.le_of_ble_eq_true rfl)) ?_
        refine bi_ite hh (fun hc hh => ?_) (fun hc hh => ?_)
        · refine go_cmpgtT (pc := 54) rfl hc ?_
          refine go_pi (pc := 61) rfl ?_
          exact sX11_can_62  (rfl : ai_ld 0 (lv_args 0 [.ref a0, .int a1, .int a2, .int a3]) = some (.ref a0)) (rfl : ai_ld 1 (lv_args 0 [.ref a0, .int a1, .int a2, .int a3]) = some (.int a1)) (rfl : ai_ld 2 (lv_args 0 [.ref a0, .int a1, .int a2, .int a3]) = some (.int a2)) (rfl : ai_ld 3 (lv_args 0 [.ref a0, .int a1, .int a2, .int a3]) = some (.int a3)) hh
        · refine go_cmpgtF (pc := 54) rfl hc ?_
          refine go_pi (pc := 57) rfl ?_
          refine go_goto (pc := 58) rfl ?_
          exact sX11_can_62  (rfl : ai_ld 0 (lv_args 0 [.ref a0, .int a1, .int a2, .int a3]) = some (.ref a0)) (rfl : ai_ld 1 (lv_args 0 [.ref a0, .int a1, .int a2, .int a3]) = some (.int a1)) (rfl : ai_ld 2 (lv_args 0 [.ref a0, .int a1, .int a2, .int a3]) = some (.int a2)) (rfl : ai_ld 3 (lv_args 0 [.ref a0, .int a1, .int a2, .int a3]) = some (.int a3)) hh
      · refine go_ifeqF (pc := 38) rfl hc ?_
        refine go_pi (pc := 41) rfl ?_
        exact go_rz (pc := 42) rfl bi_z0 hh
def fX11_goes_122 (n : Nat) (h : ai_H) (v0 : Nat) (v1 : Int32) (s0 : Int32) (s1 : Int32) (s2 : Nat) : Option (Unit × ai_H) :=
  (wX 1 (fun x => x) n h s2 s1 s0).bind fun h1 =>
  (pR n h1 v0 11 65).bind fun x2 =>
  (gX 1 n h1 x2 v1).bind fun x3 =>
  (wX 1 (fun x => x) n h1 x2 v1 (x3 + (1 : Int32))).bind fun h4 =>
  some ((), h4)
theorem sX11_goes_122 {n : Nat} {q : Unit × ai_H} {h : ai_H} {v0 : Nat} {v1 : Int32} {s0 : Int32} {s1 : Int32} {s2 : Nat} {lv : ai_L} (l0 : ai_ld 0 lv = some (.ref v0)) (l1 : ai_ld 1 lv = some (.int v1)) (hh : fX11_goes_122 n h v0 v1 s0 s1 s2 = some q) : bi_go 4 tX11_goes n (fV n q) 122 lv [.int s0, .int s1, .ref s2] h := by
  unfold fX11_goes_122 at hh
  obtain ⟨h1, eh1, hh⟩ := bi_bd hh
  refine go_iast (pc := 122) rfl eh1 ?_
  refine go_al (pc := 123) rfl l0 ?_
  obtain ⟨x2, ex2, hh⟩ := bi_bd hh
  refine go_gfR (pc := 124) rfl ex2 ?_
  refine go_il (pc := 127) rfl l1 ?_
  refine go_dup2 (pc := 128) rfl rfl rfl ?_
  obtain ⟨x3, ex3, hh⟩ := bi_bd hh
  refine go_iald (pc := 129) rfl ex3 ?_
  refine go_pi (pc := 130) rfl ?_
  refine go_iadd (pc := 131) rfl ?_
  obtain ⟨h4, eh4, hh⟩ := bi_bd hh
  refine go_iast (pc := 132) rfl eh4 ?_
  exact go_rv (pc := 133) rfl hh
def fX11_goes_63 (n : Nat) (h : ai_H) (v0 : Nat) (v1 : Int32) (v2 : Int32) (s0 : Int32) (s1 : Int32) (s2 : Nat) : Option (Unit × ai_H) :=
  (wX 1 (fun x => x) n h s2 s1 s0).bind fun h1 =>
  (pR n h1 v0 11 62).bind fun x2 =>
  (wX 1 (fun x => x) n h1 x2 (((9 : Int32) * v1) + v2) (0 : Int32)).bind fun h3 =>
  (pR n h3 v0 11 64).bind fun x4 =>
  (pR n h3 v0 11 64).bind fun x5 =>
  (gX 1 n h3 x5 (((9 : Int32) * v1) + v2)).bind fun x6 =>
  if (999 : Int32) ≤ x6 then (
    fX11_goes_122 n h3 v0 v1 (999 : Int32) (((9 : Int32) * v1) + v2) x4)
  else (
    (pR n h3 v0 11 64).bind fun x7 =>
    (gX 1 n h3 x7 (((9 : Int32) * v1) + v2)).bind fun x8 =>
    fX11_goes_122 n h3 v0 v1 (x8 + (1 : Int32)) (((9 : Int32) * v1) + v2) x4)
theorem sX11_goes_63 {n : Nat} {q : Unit × ai_H} {h : ai_H} {v0 : Nat} {v1 : Int32} {v2 : Int32} {s0 : Int32} {s1 : Int32} {s2 : Nat} {lv : ai_L} (l0 : ai_ld 0 lv = some (.ref v0)) (l1 : ai_ld 1 lv = some (.int v1)) (l2 : ai_ld 2 lv = some (.int v2)) (hh : fX11_goes_63 n h v0 v1 v2 s0 s1 s2 = some q) : bi_go 4 tX11_goes n (fV n q) 63 lv [.int s0, .int s1, .ref s2] h := by
  unfold fX11_goes_63 at hh
  obtain ⟨h1, eh1, hh⟩ := bi_bd hh
  refine go_iast (pc := 63) rfl eh1 ?_
  refine go_al (pc := 64) rfl l0 ?_
  obtain ⟨x2, ex2, hh⟩ := bi_bd hh
  refine go_gfR (pc := 65) rfl ex2 ?_
  refine go_pi (pc := 68) rfl ?_
  refine go_il (pc := 70) rfl l1 ?_
  refine go_imul (pc := 71) rfl ?_
  refine go_il (pc := 72) rfl l2 ?_
  refine go_iadd (pc := 73) rfl ?_
  refine go_pi (pc := 74) rfl ?_
  obtain ⟨h3, eh3, hh⟩ := bi_bd hh
  refine go_iast (pc := 75) rfl eh3 ?_
  refine go_al (pc := 76) rfl l0 ?_
  obtain ⟨x4, ex4, hh⟩ := bi_bd hh
  refine go_gfR (pc := 77) rfl ex4 ?_
  refine go_pi (pc := 80) rfl ?_
  refine go_il (pc := 82) rfl l1 ?_
  refine go_imul (pc := 83) rfl ?_
  refine go_il (pc := 84) rfl l2 ?_
  refine go_iadd (pc := 85) rfl ?_
  refine go_al (pc := 86) rfl l0 ?_
  obtain ⟨x5, ex5, hh⟩ := bi_bd hh
  refine go_gfR (pc := 87) rfl ex5 ?_
  refine go_pi (pc := 90) rfl ?_
  refine go_il (pc := 92) rfl l1 ?_
  refine go_imul (pc := 93) rfl ?_
  refine go_il (pc := 94) rfl l2 ?_
  refine go_iadd (pc := 95) rfl ?_
  obtain ⟨x6, ex6, hh⟩ := bi_bd hh
  refine go_iald (pc := 96) rfl ex6 ?_
  refine go_pi (pc := 97) rfl ?_
  refine bi_ite hh (fun hc hh => ?_) (fun hc hh => ?_)
  · refine go_cmpgeT (pc := 100) rfl hc ?_
    refine go_pi (pc := 119) rfl ?_
    exact sX11_goes_122  l0 l1 hh
  · refine go_cmpgeF (pc := 100) rfl hc ?_
    refine go_al (pc := 103) rfl l0 ?_
    obtain ⟨x7, ex7, hh⟩ := bi_bd hh
    refine go_gfR (pc := 104) rfl ex7 ?_
    refine go_pi (pc := 107) rfl ?_
    refine go_il (pc := 109) rfl l1 ?_
    refine go_imul (pc := 110) rfl ?_
    refine go_il (pc := 111) rfl l2 ?_
    refine go_iadd (pc := 112) rfl ?_
    obtain ⟨x8, ex8, hh⟩ := bi_bd hh
    refine go_iald (pc := 113) rfl ex8 ?_
    refine go_pi (pc := 114) rfl ?_
    refine go_iadd (pc := 115) rfl ?_
    refine go_goto (pc := 116) rfl ?_
    exact sX11_goes_122  l0 l1 hh
def fX11_goes (n : Nat) (h : ai_H) (a0 : Nat) (a1 : Int32) (a2 : Int32) (a3 : Int32) : Option (Unit × ai_H) :=
  (kO n h a0 11).bind fun _ =>
  (pR n h a0 11 61).bind fun x1 =>
  (gX 1 n h x1 (((4 : Int32) * a1) + a3)).bind fun x2 =>
  (fX11_costOf n h a0 a1 a2 a3).bind fun q3 =>
  (wX 1 (fun x => x) n q3.2 x1 (((4 : Int32) * a1) + a3) (x2 - q3.1)).bind fun h4 =>
  (pR n h4 a0 11 60).bind fun x5 =>
  (pR n h4 a0 11 60).bind fun x6 =>
  (gX 1 n h4 x6 (((4 : Int32) * a1) + a3)).bind fun x7 =>
  (pR n h4 a0 11 28).bind fun x8 =>
  (gX 1 n h4 x8 a2).bind fun x9 =>
  if ¬ x7 = x9 then (
    (pR n h4 a0 11 28).bind fun x10 =>
    (gX 1 n h4 x10 a2).bind fun x11 =>
    fX11_goes_63 n h4 a0 a1 a2 x11 (((4 : Int32) * a1) + a3) x5)
  else (
    (pR n h4 a0 11 29).bind fun x12 =>
    (gX 1 n h4 x12 a2).bind fun x13 =>
    fX11_goes_63 n h4 a0 a1 a2 x13 (((4 : Int32) * a1) + a3) x5)
theorem gX11_goes {n : Nat} {h : ai_H} {a0 : Nat} {a1 : Int32} {a2 : Int32} {a3 : Int32} {q : Unit × ai_H} (hh : fX11_goes n h a0 a1 a2 a3 = some q) : kO n h a0 11 = some () := by
  obtain ⟨_, e, -⟩ := bi_bd hh
  exact e
theorem sX11_goes {n : Nat} {h : ai_H} {a0 : Nat} {a1 : Int32} {a2 : Int32} {a3 : Int32} {q : Unit × ai_H} (hh : fX11_goes n h a0 a1 a2 a3 = some q) : bi_sp 5 200 [.ref a0, .int a1, .int a2, .int a3] h n (fV n q) := by
  refine bi_en (D := 4) (T := tX11_goes) (funext fun pc => rfl) rfl (Nat.le_of_ble_eq_true rfl) ?_
  unfold fX11_goes at hh
  obtain ⟨_, eO, hh⟩ := bi_bd hh
  refine go_al (pc := 0) rfl (rfl : ai_ld 0 (lv_args 0 [.ref a0, .int a1, .int a2, .int a3]) = some (.ref a0)) ?_
  obtain ⟨x1, ex1, hh⟩ := bi_bd hh
  refine go_gfR (pc := 1) rfl ex1 ?_
  refine go_pi (pc := 4) rfl ?_
  refine go_il (pc := 5) rfl (rfl : ai_ld 1 (lv_args 0 [.ref a0, .int a1, .int a2, .int a3]) = some (.int a1)) ?_
  refine go_imul (pc := 6) rfl ?_
  refine go_il (pc := 7) rfl (rfl : ai_ld 3 (lv_args 0 [.ref a0, .int a1, .int a2, .int a3]) = some (.int a3)) ?_
  refine go_iadd (pc := 8) rfl ?_
  refine go_dup2 (pc := 9) rfl rfl rfl ?_
  obtain ⟨x2, ex2, hh⟩ := bi_bd hh
  refine go_iald (pc := 10) rfl ex2 ?_
  refine go_al (pc := 11) rfl (rfl : ai_ld 0 (lv_args 0 [.ref a0, .int a1, .int a2, .int a3]) = some (.ref a0)) ?_
  refine go_il (pc := 12) rfl (rfl : ai_ld 1 (lv_args 0 [.ref a0, .int a1, .int a2, .int a3]) = some (.int a1)) ?_
  refine go_il (pc := 13) rfl (rfl : ai_ld 2 (lv_args 0 [.ref a0, .int a1, .int a2, .int a3]) = some (.int a2)) ?_
  refine go_il (pc := 14) rfl (rfl : ai_ld 3 (lv_args 0 [.ref a0, .int a1, .int a2, .int a3]) = some (.int a3)) ?_
  obtain ⟨q3, eq3, hh⟩ := bi_bd hh
  refine go_ivI (pc := 15) rfl rfl (gX11_costOf eq3) (Nat.le_of_ble_eq_true rfl) (bi_up (sX11_costOf eq3) (Nat.le_of_ble_eq_true rfl)) ?_
  refine go_isub (pc := 18) rfl ?_
  obtain ⟨h4, eh4, hh⟩ := bi_bd hh
  refine go_iast (pc := 19) rfl eh4 ?_
  refine go_al (pc := 20) rfl (rfl : ai_ld 0 (lv_args 0 [.ref a0, .int a1, .int a2, .int a3]) = some (.ref a0)) ?_
  obtain ⟨x5, ex5, hh⟩ := bi_bd hh
  refine go_gfR (pc := 21) rfl ex5 ?_
  refine go_pi (pc := 24) rfl ?_
  refine go_il (pc := 25) rfl (rfl : ai_ld 1 (lv_args 0 [.ref a0, .int a1, .int a2, .int a3]) = some (.int a1)) ?_
  refine go_imul (pc := 26) rfl ?_
  refine go_il (pc := 27) rfl (rfl : ai_ld 3 (lv_args 0 [.ref a0, .int a1, .int a2, .int a3]) = some (.int a3)) ?_
  refine go_iadd (pc := 28) rfl ?_
  refine go_al (pc := 29) rfl (rfl : ai_ld 0 (lv_args 0 [.ref a0, .int a1, .int a2, .int a3]) = some (.ref a0)) ?_
  obtain ⟨x6, ex6, hh⟩ := bi_bd hh
  refine go_gfR (pc := 30) rfl ex6 ?_
  refine go_pi (pc := 33) rfl ?_
  refine go_il (pc := 34) rfl (rfl : ai_ld 1 (lv_args 0 [.ref a0, .int a1, .int a2, .int a3]) = some (.int a1)) ?_
  refine go_imul (pc := 35) rfl ?_
  refine go_il (pc := 36) rfl (rfl : ai_ld 3 (lv_args 0 [.ref a0, .int a1, .int a2, .int a3]) = some (.int a3)) ?_
  refine go_iadd (pc := 37) rfl ?_
  obtain ⟨x7, ex7, hh⟩ := bi_bd hh
  refine go_iald (pc := 38) rfl ex7 ?_
  refine go_al (pc := 39) rfl (rfl : ai_ld 0 (lv_args 0 [.ref a0, .int a1, .int a2, .int a3]) = some (.ref a0)) ?_
  obtain ⟨x8, ex8, hh⟩ := bi_bd hh
  refine go_gfR (pc := 40) rfl ex8 ?_
  refine go_il (pc := 43) rfl (rfl : ai_ld 2 (lv_args 0 [.ref a0, .int a1, .int a2, .int a3]) = some (.int a2)) ?_
  obtain ⟨x9, ex9, hh⟩ := bi_bd hh
  refine go_iald (pc := 44) rfl ex9 ?_
  refine bi_ite hh (fun hc hh => ?_) (fun hc hh => ?_)
  · refine go_cmpneT (pc := 45) rfl hc ?_
    refine go_al (pc := 57) rfl (rfl : ai_ld 0 (lv_args 0 [.ref a0, .int a1, .int a2, .int a3]) = some (.ref a0)) ?_
    obtain ⟨x10, ex10, hh⟩ := bi_bd hh
    refine go_gfR (pc := 58) rfl ex10 ?_
    refine go_il (pc := 61) rfl (rfl : ai_ld 2 (lv_args 0 [.ref a0, .int a1, .int a2, .int a3]) = some (.int a2)) ?_
    obtain ⟨x11, ex11, hh⟩ := bi_bd hh
    refine go_iald (pc := 62) rfl ex11 ?_
    exact sX11_goes_63  (rfl : ai_ld 0 (lv_args 0 [.ref a0, .int a1, .int a2, .int a3]) = some (.ref a0)) (rfl : ai_ld 1 (lv_args 0 [.ref a0, .int a1, .int a2, .int a3]) = some (.int a1)) (rfl : ai_ld 2 (lv_args 0 [.ref a0, .int a1, .int a2, .int a3]) = some (.int a2)) hh
  · refine go_cmpneF (pc := 45) rfl hc ?_
    refine go_al (pc := 48) rfl (rfl : ai_ld 0 (lv_args 0 [.ref a0, .int a1, .int a2, .int a3]) = some (.ref a0)) ?_
    obtain ⟨x12, ex12, hh⟩ := bi_bd hh
    refine go_gfR (pc := 49) rfl ex12 ?_
    refine go_il (pc := 52) rfl (rfl : ai_ld 2 (lv_args 0 [.ref a0, .int a1, .int a2, .int a3]) = some (.int a2)) ?_
    obtain ⟨x13, ex13, hh⟩ := bi_bd hh
    refine go_iald (pc := 53) rfl ex13 ?_
    refine go_goto (pc := 54) rfl ?_
    exact sX11_goes_63  (rfl : ai_ld 0 (lv_args 0 [.ref a0, .int a1, .int a2, .int a3]) = some (.ref a0)) (rfl : ai_ld 1 (lv_args 0 [.ref a0, .int a1, .int a2, .int a3]) = some (.int a1)) (rfl : ai_ld 2 (lv_args 0 [.ref a0, .int a1, .int a2, .int a3]) = some (.int a2)) hh
def fX11_number1 (n : Nat) (h : ai_H) (a0 : Nat) (a1 : Int32) : Option (Int32 × ai_H) :=
  (kO n h a0 11).bind fun _ =>
  (pJ n h a0 11 68).bind fun x1 =>
  (sF n h a0 11 68 (.long) (.long (((x1 * (1103515245 : Int64)) + (12345 : Int64)) &&& (2147483647 : Int64)))).bind fun h2 =>
  (pJ n h2 a0 11 68).bind fun x3 =>
  (dJ x3 (65536 : Int64)).bind fun x4 =>
  (rJ x4 a1.toInt64).bind fun x5 =>
  some (x5.toInt32, h2)
theorem gX11_number1 {n : Nat} {h : ai_H} {a0 : Nat} {a1 : Int32} {q : Int32 × ai_H} (hh : fX11_number1 n h a0 a1 = some q) : kO n h a0 11 = some () := by
  obtain ⟨_, e, -⟩ := bi_bd hh
  exact e
theorem sX11_number1 {n : Nat} {h : ai_H} {a0 : Nat} {a1 : Int32} {q : Int32 × ai_H} (hh : fX11_number1 n h a0 a1 = some q) : bi_sp 1 201 [.ref a0, .int a1] h n (fI n q) := by
  refine bi_en (D := 0) (T := tX11_number1) (funext fun pc => rfl) rfl (Nat.le_of_ble_eq_true rfl) ?_
  unfold fX11_number1 at hh
  obtain ⟨_, eO, hh⟩ := bi_bd hh
  refine go_al (pc := 0) rfl (rfl : ai_ld 0 (lv_args 0 [.ref a0, .int a1]) = some (.ref a0)) ?_
  refine go_al (pc := 1) rfl (rfl : ai_ld 0 (lv_args 0 [.ref a0, .int a1]) = some (.ref a0)) ?_
  obtain ⟨x1, ex1, hh⟩ := bi_bd hh
  refine go_gfJ (pc := 2) rfl ex1 ?_
  refine go_pl (pc := 5) rfl ?_
  refine go_lmul (pc := 8) rfl ?_
  refine go_pl (pc := 9) rfl ?_
  refine go_ladd (pc := 12) rfl ?_
  refine go_pl (pc := 13) rfl ?_
  refine go_land (pc := 16) rfl ?_
  obtain ⟨h2, eh2, hh⟩ := bi_bd hh
  refine go_pf (pc := 17) rfl eh2 ?_
  refine go_al (pc := 20) rfl (rfl : ai_ld 0 (lv_args 0 [.ref a0, .int a1]) = some (.ref a0)) ?_
  obtain ⟨x3, ex3, hh⟩ := bi_bd hh
  refine go_gfJ (pc := 21) rfl ex3 ?_
  refine go_pl (pc := 24) rfl ?_
  obtain ⟨x4, ex4, hh⟩ := bi_bd hh
  refine go_ldiv (pc := 27) rfl ex4 ?_
  refine go_il (pc := 28) rfl (rfl : ai_ld 1 (lv_args 0 [.ref a0, .int a1]) = some (.int a1)) ?_
  refine go_i2l (pc := 29) rfl ?_
  obtain ⟨x5, ex5, hh⟩ := bi_bd hh
  refine go_lrem (pc := 30) rfl ex5 ?_
  refine go_l2i (pc := 31) rfl ?_
  exact go_ri (pc := 32) rfl hh
def fX11_isSnow (n : Nat) (h : ai_H) (a0 : Nat) : Option (Int32 × ai_H) :=
  (kO n h a0 11).bind fun _ =>
  (pI n h a0 11 70).bind fun x1 =>
  if ¬ x1 = 0 then (
    some ((0 : Int32), h))
  else (
    (pR n h a0 11 25).bind fun x2 =>
    (gX 1 n h x2 (1 : Int32)).bind fun x3 =>
    if ¬ x3 = 0 then (
      (pR n h a0 11 25).bind fun x4 =>
      (gX 1 n h x4 (1 : Int32)).bind fun x5 =>
      if ¬ x5 = (100 : Int32) then (
        (pI n h a0 11 69).bind fun x6 =>
        if x6 = 0 then (
          (pR n h a0 11 25).bind fun x7 =>
          (gX 1 n h x7 (1 : Int32)).bind fun x8 =>
          if x8 < (50 : Int32) then (
            some ((0 : Int32), h))
          else (
            some ((1 : Int32), h)))
        else (
          (fX11_number1 n h a0 (100 : Int32)).bind fun q9 =>
          (pR n q9.2 a0 11 25).bind fun x10 =>
          (gX 1 n q9.2 x10 (1 : Int32)).bind fun x11 =>
          if x11 ≤ q9.1 then (
            some ((0 : Int32), q9.2))
          else (
            some ((1 : Int32), q9.2))))
      else (
        some ((1 : Int32), h)))
    else (
      some ((0 : Int32), h)))
theorem gX11_isSnow {n : Nat} {h : ai_H} {a0 : Nat} {q : Int32 × ai_H} (hh : fX11_isSnow n h a0 = some q) : kO n h a0 11 = some () := by
  obtain ⟨_, e, -⟩ := bi_bd hh
  exact e
theorem sX11_isSnow {n : Nat} {h : ai_H} {a0 : Nat} {q : Int32 × ai_H} (hh : fX11_isSnow n h a0 = some q) : bi_sp 2 202 [.ref a0] h n (fI n q) := by
  refine bi_en (D := 1) (T := tX11_isSnow) (funext fun pc => rfl) rfl (Nat.le_of_ble_eq_true rfl) ?_
  unfold fX11_isSnow at hh
  obtain ⟨_, eO, hh⟩ := bi_bd hh
  refine go_al (pc := 0) rfl (rfl : ai_ld 0 (lv_args 0 [.ref a0]) = some (.ref a0)) ?_
  obtain ⟨x1, ex1, hh⟩ := bi_bd hh
  refine go_gfI (pc := 1) rfl ex1 ?_
  refine bi_ite hh (fun hc hh => ?_) (fun hc hh => ?_)
  · refine go_ifneT (pc := 4) rfl hc ?_
    refine go_pi (pc := 16) rfl ?_
    exact go_rz (pc := 17) rfl bi_z0 hh
  · refine go_ifneF (pc := 4) rfl hc ?_
    refine go_al (pc := 7) rfl (rfl : ai_ld 0 (lv_args 0 [.ref a0]) = some (.ref a0)) ?_
    obtain ⟨x2, ex2, hh⟩ := bi_bd hh
    refine go_gfR (pc := 8) rfl ex2 ?_
    refine go_pi (pc := 11) rfl ?_
    obtain ⟨x3, ex3, hh⟩ := bi_bd hh
    refine go_iald (pc := 12) rfl ex3 ?_
    refine bi_ite hh (fun hc hh => ?_) (fun hc hh => ?_)
    · refine go_ifneT (pc := 13) rfl hc ?_
      refine go_al (pc := 18) rfl (rfl : ai_ld 0 (lv_args 0 [.ref a0]) = some (.ref a0)) ?_
      obtain ⟨x4, ex4, hh⟩ := bi_bd hh
      refine go_gfR (pc := 19) rfl ex4 ?_
      refine go_pi (pc := 22) rfl ?_
      obtain ⟨x5, ex5, hh⟩ := bi_bd hh
      refine go_iald (pc := 23) rfl ex5 ?_
      refine go_pi (pc := 24) rfl ?_
      refine bi_ite hh (fun hc hh => ?_) (fun hc hh => ?_)
      · refine go_cmpneT (pc := 26) rfl hc ?_
        refine go_al (pc := 31) rfl (rfl : ai_ld 0 (lv_args 0 [.ref a0]) = some (.ref a0)) ?_
        obtain ⟨x6, ex6, hh⟩ := bi_bd hh
        refine go_gfI (pc := 32) rfl ex6 ?_
        refine bi_ite hh (fun hc hh => ?_) (fun hc hh => ?_)
        · refine go_ifeqT (pc := 35) rfl hc ?_
          refine go_al (pc := 61) rfl (rfl : ai_ld 0 (lv_args 0 [.ref a0]) = some (.ref a0)) ?_
          obtain ⟨x7, ex7, hh⟩ := bi_bd hh
          refine go_gfR (pc := 62) rfl ex7 ?_
          refine go_pi (pc := 65) rfl ?_
          obtain ⟨x8, ex8, hh⟩ := bi_bd hh
          refine go_iald (pc := 66) rfl ex8 ?_
          refine go_pi (pc := 67) rfl ?_
          refine bi_ite hh (fun hc hh => ?_) (fun hc hh => ?_)
          · refine go_cmpltT (pc := 69) rfl hc ?_
            refine go_pi (pc := 76) rfl ?_
            exact go_rz (pc := 77) rfl bi_z0 hh
          · refine go_cmpltF (pc := 69) rfl hc ?_
            refine go_pi (pc := 72) rfl ?_
            refine go_goto (pc := 73) rfl ?_
            exact go_rz (pc := 77) rfl bi_z1 hh
        · refine go_ifeqF (pc := 35) rfl hc ?_
          refine go_al (pc := 38) rfl (rfl : ai_ld 0 (lv_args 0 [.ref a0]) = some (.ref a0)) ?_
          refine go_pi (pc := 39) rfl ?_
          obtain ⟨q9, eq9, hh⟩ := bi_bd hh
          refine go_ivI (pc := 41) rfl rfl (gX11_number1 eq9) (Nat.le_of_ble_eq_true rfl) (bi_up (sX11_number1 eq9) (Nat.le_of_ble_eq_true rfl)) ?_
          refine go_al (pc := 44) rfl (rfl : ai_ld 0 (lv_args 0 [.ref a0]) = some (.ref a0)) ?_
          obtain ⟨x10, ex10, hh⟩ := bi_bd hh
          refine go_gfR (pc := 45) rfl ex10 ?_
          refine go_pi (pc := 48) rfl ?_
          obtain ⟨x11, ex11, hh⟩ := bi_bd hh
          refine go_iald (pc := 49) rfl ex11 ?_
          refine bi_ite hh (fun hc hh => ?_) (fun hc hh => ?_)
          · refine go_cmpgeT (pc := 50) rfl hc ?_
            refine go_pi (pc := 57) rfl ?_
            refine go_goto (pc := 58) rfl ?_
            exact go_rz (pc := 77) rfl bi_z0 hh
          · refine go_cmpgeF (pc := 50) rfl hc ?_
            refine go_pi (pc := 53) rfl ?_
            refine go_goto (pc := 54) rfl ?_
            exact go_rz (pc := 77) rfl bi_z1 hh
      · refine go_cmpneF (pc := 26) rfl hc ?_
        refine go_pi (pc := 29) rfl ?_
        exact go_rz (pc := 30) rfl bi_z1 hh
    · refine go_ifneF (pc := 13) rfl hc ?_
      refine go_pi (pc := 16) rfl ?_
      exact go_rz (pc := 17) rfl bi_z0 hh
def fX11_termOf (n : Nat) (h : ai_H) (a0 : Nat) (a1 : Int32) (a2 : Int32) : Option (Int32 × ai_H) :=
  (kO n h a0 11).bind fun _ =>
  (pI n h a0 11 73).bind fun x1 =>
  if x1 = 0 then (
    (pR n h a0 11 43).bind fun x2 =>
    (gB n h x2 (0 : Int32)).bind fun x3 =>
    if ¬ x3 = 0 then (
      (fX11_layPath n h a0 a1 a2).bind fun q4 =>
      (fX11_lawOf n q4.2 a0 (0 : Int32)).bind fun q5 =>
      (pI n q5.2 a0 11 59).bind fun x6 =>
      if x6 = 0 then (
        if 0 ≤ (lg_cmp q5.1 (1 : Int64)) then (
          if (lg_cmp q5.1 (9999 : Int64)) ≤ 0 then (
            some (q5.1.toInt32, q5.2))
          else (
            some ((9999 : Int32), q5.2)))
        else (
          some ((1 : Int32), q5.2)))
      else (
        (pR n q5.2 a0 11 25).bind fun x7 =>
        (gX 1 n q5.2 x7 (0 : Int32)).bind fun x8 =>
        some (x8, q5.2)))
    else (
      (pR n h a0 11 25).bind fun x9 =>
      (gX 1 n h x9 (0 : Int32)).bind fun x10 =>
      some (x10, h)))
  else (
    some ((400 : Int32), h))
theorem gX11_termOf {n : Nat} {h : ai_H} {a0 : Nat} {a1 : Int32} {a2 : Int32} {q : Int32 × ai_H} (hh : fX11_termOf n h a0 a1 a2 = some q) : kO n h a0 11 = some () := by
  obtain ⟨_, e, -⟩ := bi_bd hh
  exact e
theorem sX11_termOf {n : Nat} {h : ai_H} {a0 : Nat} {a1 : Int32} {a2 : Int32} {q : Int32 × ai_H} (hh : fX11_termOf n h a0 a1 a2 = some q) : bi_sp 4 203 [.ref a0, .int a1, .int a2] h n (fI n q) := by
  refine bi_en (D := 3) (T := tX11_termOf) (funext fun pc => rfl) rfl (Nat.le_of_ble_eq_true rfl) ?_
  unfold fX11_termOf at hh
  obtain ⟨_, eO, hh⟩ := bi_bd hh
  refine go_al (pc := 0) rfl (rfl : ai_ld 0 (lv_args 0 [.ref a0, .int a1, .int a2]) = some (.ref a0)) ?_
  obtain ⟨x1, ex1, hh⟩ := bi_bd hh
  refine go_gfI (pc := 1) rfl ex1 ?_
  refine bi_ite hh (fun hc hh => ?_) (fun hc hh => ?_)
  · refine go_ifeqT (pc := 4) rfl hc ?_
    refine go_al (pc := 11) rfl (rfl : ai_ld 0 (lv_args 0 [.ref a0, .int a1, .int a2]) = some (.ref a0)) ?_
    obtain ⟨x2, ex2, hh⟩ := bi_bd hh
    refine go_gfR (pc := 12) rfl ex2 ?_
    refine go_pi (pc := 15) rfl ?_
    obtain ⟨x3, ex3, hh⟩ := bi_bd hh
    refine go_bald (pc := 16) rfl ex3 ?_
    refine bi_ite hh (fun hc hh => ?_) (fun hc hh => ?_)
    · refine go_ifneT (pc := 17) rfl hc ?_
      refine go_al (pc := 27) rfl (rfl : ai_ld 0 (lv_args 0 [.ref a0, .int a1, .int a2]) = some (.ref a0)) ?_
      refine go_il (pc := 28) rfl (rfl : ai_ld 1 (lv_args 0 [.ref a0, .int a1, .int a2]) = some (.int a1)) ?_
      refine go_il (pc := 29) rfl (rfl : ai_ld 2 (lv_args 0 [.ref a0, .int a1, .int a2]) = some (.int a2)) ?_
      obtain ⟨q4, eq4, hh⟩ := bi_bd hh
      refine go_ivV (pc := 30) rfl rfl (gX11_layPath eq4) (Nat.le_of_ble_eq_true rfl) (bi_up (sX11_layPath eq4) (Nat.le_of_ble_eq_true rfl)) ?_
      refine go_al (pc := 33) rfl (rfl : ai_ld 0 (lv_args 0 [.ref a0, .int a1, .int a2]) = some (.ref a0)) ?_
      refine go_pi (pc := 34) rfl ?_
      obtain ⟨q5, eq5, hh⟩ := bi_bd hh
      refine go_ivJ (pc := 35) rfl rfl (gX11_lawOf eq5) (Nat.le_of_ble_eq_true rfl) (bi_up (sX11_lawOf eq5) (Nat.le_of_ble_eq_true rfl)) ?_
      refine go_lst (pc := 38) rfl ?_
      refine go_al (pc := 39) rfl (bi_k2 (rfl : ai_ld 0 (lv_args 0 [.ref a0, .int a1, .int a2]) = some (.ref a0)) rfl rfl rfl) ?_
      obtain ⟨x6, ex6, hh⟩ := bi_bd hh
      refine go_gfI (pc := 40) rfl ex6 ?_
      refine bi_ite hh (fun hc hh => ?_) (fun hc hh => ?_)
      · refine go_ifeqT (pc := 43) rfl hc ?_
        refine go_ll (pc := 55) rfl bi_e2 ?_
        refine go_pl (pc := 56) rfl ?_
        refine go_lcmp (pc := 57) rfl ?_
        refine bi_ite hh (fun hc hh => ?_) (fun hc hh => ?_)
        · refine go_ifgeT (pc := 58) rfl hc ?_
          refine go_ll (pc := 65) rfl bi_e2 ?_
          refine go_pl (pc := 66) rfl ?_
          refine go_lcmp (pc := 69) rfl ?_
          refine bi_ite hh (fun hc hh => ?_) (fun hc hh => ?_)
          · refine go_ifleT (pc := 70) rfl hc ?_
            refine go_ll (pc := 79) rfl bi_e2 ?_
            refine go_l2i (pc := 80) rfl ?_
            exact go_ri (pc := 81) rfl hh
          · refine go_ifleF (pc := 70) rfl hc ?_
            refine go_pi (pc := 73) rfl ?_
            refine go_goto (pc := 76) rfl ?_
            exact go_ri (pc := 81) rfl hh
        · refine go_ifgeF (pc := 58) rfl hc ?_
          refine go_pi (pc := 61) rfl ?_
          refine go_goto (pc := 62) rfl ?_
          exact go_ri (pc := 81) rfl hh
      · refine go_ifeqF (pc := 43) rfl hc ?_
        refine go_al (pc := 46) rfl (bi_k2 (rfl : ai_ld 0 (lv_args 0 [.ref a0, .int a1, .int a2]) = some (.ref a0)) rfl rfl rfl) ?_
        obtain ⟨x7, ex7, hh⟩ := bi_bd hh
        refine go_gfR (pc := 47) rfl ex7 ?_
        refine go_pi (pc := 50) rfl ?_
        obtain ⟨x8, ex8, hh⟩ := bi_bd hh
        refine go_iald (pc := 51) rfl ex8 ?_
        refine go_goto (pc := 52) rfl ?_
        exact go_ri (pc := 81) rfl hh
    · refine go_ifneF (pc := 17) rfl hc ?_
      refine go_al (pc := 20) rfl (rfl : ai_ld 0 (lv_args 0 [.ref a0, .int a1, .int a2]) = some (.ref a0)) ?_
      obtain ⟨x9, ex9, hh⟩ := bi_bd hh
      refine go_gfR (pc := 21) rfl ex9 ?_
      refine go_pi (pc := 24) rfl ?_
      obtain ⟨x10, ex10, hh⟩ := bi_bd hh
      refine go_iald (pc := 25) rfl ex10 ?_
      exact go_ri (pc := 26) rfl hh
  · refine go_ifeqF (pc := 4) rfl hc ?_
    refine go_pi (pc := 7) rfl ?_
    exact go_ri (pc := 10) rfl hh
