/-! ===== methods as functions, part 20 ===== -/
def fX11_remember_49 (n : Nat) (h : ai_H) (v0 : Nat) : Option (Unit × ai_H) :=
  (pR n h v0 11 90).bind fun x1 =>
  (pI n h v0 11 89).bind fun x2 =>
  (fX11_put n h v0 x1 ((36 : Int32) * x2)).bind fun q3 =>
  (pI n q3.2 v0 11 89).bind fun x4 =>
  (sF n q3.2 v0 11 89 (.int) (.int (x4 + (1 : Int32)))).bind fun h5 =>
  some ((), h5)
theorem sX11_remember_49 {n : Nat} {q : Unit × ai_H} {h : ai_H} {v0 : Nat} {lv : ai_L} (l0 : ai_ld 0 lv = some (.ref v0)) (hh : fX11_remember_49 n h v0 = some q) : bi_go 1 tX11_remember n (fV n q) 49 lv [] h := by
  unfold fX11_remember_49 at hh
  refine go_al (pc := 49) rfl l0 ?_
  refine go_al (pc := 50) rfl l0 ?_
  obtain ⟨x1, ex1, hh⟩ := bi_bd hh
  refine go_gfR (pc := 51) rfl ex1 ?_
  refine go_pi (pc := 54) rfl ?_
  refine go_al (pc := 56) rfl l0 ?_
  obtain ⟨x2, ex2, hh⟩ := bi_bd hh
  refine go_gfI (pc := 57) rfl ex2 ?_
  refine go_imul (pc := 60) rfl ?_
  obtain ⟨q3, eq3, hh⟩ := bi_bd hh
  refine go_ivV (pc := 61) rfl rfl (gX11_put eq3) (Nat.le_of_ble_eq_true rfl) (bi_up (sX11_put eq3) (Nat.le_of_ble_eq_true rfl)) ?_
  refine go_al (pc := 64) rfl l0 ?_
  refine go_dup (pc := 65) rfl rfl ?_
  obtain ⟨x4, ex4, hh⟩ := bi_bd hh
  refine go_gfI (pc := 66) rfl ex4 ?_
  refine go_pi (pc := 69) rfl ?_
  refine go_iadd (pc := 70) rfl ?_
  obtain ⟨h5, eh5, hh⟩ := bi_bd hh
  refine go_pf (pc := 71) rfl eh5 ?_
  exact go_rv (pc := 74) rfl hh
def fX11_remember_11b (n : Nat) (r11 : ai_H → Nat → Int32 → Option (Unit × ai_H)) (h : ai_H) (v0 : Nat) (v1 : Int32) : Option (Unit × ai_H) :=
  if (684 : Int32) ≤ v1 then (
    (pI n h v0 11 89).bind fun x1 =>
    (sF n h v0 11 89 (.int) (.int (x1 - (1 : Int32)))).bind fun h2 =>
    fX11_remember_49 n h2 v0)
  else (
    (pR n h v0 11 90).bind fun x3 =>
    (pR n h v0 11 90).bind fun x4 =>
    (gX 1 n h x4 (v1 + (36 : Int32))).bind fun x5 =>
    (wX 1 (fun x => x) n h x3 v1 x5).bind fun h6 =>
    r11 h6 v0 (v1 + 1))
theorem sX11_remember_11b {n : Nat} {r11 : ai_H → Nat → Int32 → Option (Unit × ai_H)} {q : Unit × ai_H} {h : ai_H} {v0 : Nat} {v1 : Int32} {lv : ai_L} (R11 : ∀ (h : ai_H) (v0 : Nat) (v1 : Int32) (lv : ai_L), ai_ld 0 lv = some (.ref v0) → ai_ld 1 lv = some (.int v1) → r11 h v0 v1 = some q → bi_go 1 tX11_remember n (fV n q) 11 lv [] h) (l0 : ai_ld 0 lv = some (.ref v0)) (l1 : ai_ld 1 lv = some (.int v1)) (hh : fX11_remember_11b n r11 h v0 v1 = some q) : bi_go 1 tX11_remember n (fV n q) 11 lv [] h := by
  unfold fX11_remember_11b at hh
  refine go_il (pc := 11) rfl l1 ?_
  refine go_pi (pc := 12) rfl ?_
  refine bi_ite hh (fun hc hh => ?_) (fun hc hh => ?_)
  · refine go_cmpgeT (pc := 15) rfl hc ?_
    refine go_al (pc := 39) rfl l0 ?_
    refine go_dup (pc := 40) rfl rfl ?_
    obtain ⟨x1, ex1, hh⟩ := bi_bd hh
    refine go_gfI (pc := 41) rfl ex1 ?_
    refine go_pi (pc := 44) rfl ?_
    refine go_isub (pc := 45) rfl ?_
    obtain ⟨h2, eh2, hh⟩ := bi_bd hh
    refine go_pf (pc := 46) rfl eh2 ?_
    exact sX11_remember_49  l0 hh
  · refine go_cmpgeF (pc := 15) rfl hc ?_
    refine go_al (pc := 18) rfl l0 ?_
    obtain ⟨x3, ex3, hh⟩ := bi_bd hh
    refine go_gfR (pc := 19) rfl ex3 ?_
    refine go_il (pc := 22) rfl l1 ?_
    refine go_al (pc := 23) rfl l0 ?_
    obtain ⟨x4, ex4, hh⟩ := bi_bd hh
    refine go_gfR (pc := 24) rfl ex4 ?_
    refine go_il (pc := 27) rfl l1 ?_
    refine go_pi (pc := 28) rfl ?_
    refine go_iadd (pc := 30) rfl ?_
    obtain ⟨x5, ex5, hh⟩ := bi_bd hh
    refine go_iald (pc := 31) rfl ex5 ?_
    obtain ⟨h6, eh6, hh⟩ := bi_bd hh
    refine go_iast (pc := 32) rfl eh6 ?_
    refine go_inc (pc := 33) rfl l1 ?_
    refine go_goto (pc := 36) rfl ?_
    exact R11 _ _ _ _ (bi_k1 l0 rfl rfl) bi_e1 hh
def fX11_remember_11 (n : Nat) : Nat → ai_H → Nat → Int32 → Option (Unit × ai_H)
  | 0 => fun _ _ _ => none
  | k + 1 => fun h v0 v1 => fX11_remember_11b n (fX11_remember_11 n k) h v0 v1
theorem sX11_remember_11 {n : Nat} {q : Unit × ai_H} : ∀ (k : Nat) (h : ai_H) (v0 : Nat) (v1 : Int32) (lv : ai_L), ai_ld 0 lv = some (.ref v0) → ai_ld 1 lv = some (.int v1) → fX11_remember_11 n k h v0 v1 = some q → bi_go 1 tX11_remember n (fV n q) 11 lv [] h
  | 0 => fun _ _ _ _ _ _ hh => by cases hh
  | k + 1 => fun h v0 v1 lv l0 l1 hh => sX11_remember_11b  (sX11_remember_11  k) l0 l1 hh
def fX11_remember (n : Nat) (h : ai_H) (a0 : Nat) : Option (Unit × ai_H) :=
  (kO n h a0 11).bind fun _ =>
  (pI n h a0 11 89).bind fun x1 =>
  if ¬ x1 = (20 : Int32) then (
    fX11_remember_49 n h a0)
  else (
    fX11_remember_11 n bi_K h a0 (0 : Int32))
theorem gX11_remember {n : Nat} {h : ai_H} {a0 : Nat} {q : Unit × ai_H} (hh : fX11_remember n h a0 = some q) : kO n h a0 11 = some () := by
  obtain ⟨_, e, -⟩ := bi_bd hh
  exact e
theorem sX11_remember {n : Nat} {h : ai_H} {a0 : Nat} {q : Unit × ai_H} (hh : fX11_remember n h a0 = some q) : bi_sp 2 262 [.ref a0] h n (fV n q) := by
  refine bi_en (D := 1) (T := tX11_remember) (funext fun pc => rfl) rfl (Nat.le_of_ble_eq_true rfl) ?_
  unfold fX11_remember at hh
  obtain ⟨_, eO, hh⟩ := bi_bd hh
  refine go_al (pc := 0) rfl (rfl : ai_ld 0 (lv_args 0 [.ref a0]) = some (.ref a0)) ?_
  obtain ⟨x1, ex1, hh⟩ := bi_bd hh
  refine go_gfI (pc := 1) rfl ex1 ?_
  refine go_pi (pc := 4) rfl ?_
  refine bi_ite hh (fun hc hh => ?_) (fun hc hh => ?_)
  · refine go_cmpneT (pc := 6) rfl hc ?_
    exact sX11_remember_49  (rfl : ai_ld 0 (lv_args 0 [.ref a0]) = some (.ref a0)) hh
  · refine go_cmpneF (pc := 6) rfl hc ?_
    refine go_pi (pc := 9) rfl ?_
    refine go_is (pc := 10) rfl ?_
    exact sX11_remember_11  _ _ _ _ _ (bi_k1 (rfl : ai_ld 0 (lv_args 0 [.ref a0]) = some (.ref a0)) rfl rfl) bi_e1 hh
def fX11_walk (n : Nat) (h : ai_H) (a0 : Nat) (a1 : Int32) (a2 : Int32) : Option (Int32 × ai_H) :=
  (kO n h a0 11).bind fun _ =>
  (sF n h a0 11 2 (.int) (.int (0 : Int32))).bind fun h1 =>
  (fX11_isWalker n h1 a0 a1).bind fun q2 =>
  if q2.1 = 0 then (
    some ((-1 : Int32), q2.2))
  else (
    (fX11_isPath n q2.2 a0 a2).bind fun q3 =>
    if ¬ q3.1 = 0 then (
      (fX11_plainTried n q3.2 a0).bind fun q4 =>
      (fX11_can n q4.2 a0 (0 : Int32) a2 a1).bind fun q5 =>
      if ¬ q5.1 = 0 then (
        (fX11_remember n q5.2 a0).bind fun q6 =>
        (fX11_goes n q6.2 a0 (0 : Int32) a2 a1).bind fun q7 =>
        (pR n q7.2 a0 11 61).bind fun x8 =>
        (gX 1 n q7.2 x8 a1).bind fun x9 =>
        some (x9, q7.2))
      else (
        some ((-2 : Int32), q5.2)))
    else (
      some ((-1 : Int32), q3.2)))
theorem gX11_walk {n : Nat} {h : ai_H} {a0 : Nat} {a1 : Int32} {a2 : Int32} {q : Int32 × ai_H} (hh : fX11_walk n h a0 a1 a2 = some q) : kO n h a0 11 = some () := by
  obtain ⟨_, e, -⟩ := bi_bd hh
  exact e
theorem sX11_walk {n : Nat} {h : ai_H} {a0 : Nat} {a1 : Int32} {a2 : Int32} {q : Int32 × ai_H} (hh : fX11_walk n h a0 a1 a2 = some q) : bi_sp 6 211 [.ref a0, .int a1, .int a2] h n (fI n q) := by
  refine bi_en (D := 5) (T := tX11_walk) (funext fun pc => rfl) rfl (Nat.le_of_ble_eq_true rfl) ?_
  unfold fX11_walk at hh
  obtain ⟨_, eO, hh⟩ := bi_bd hh
  refine go_al (pc := 0) rfl (rfl : ai_ld 0 (lv_args 0 [.ref a0, .int a1, .int a2]) = some (.ref a0)) ?_
  refine go_pi (pc := 1) rfl ?_
  obtain ⟨h1, eh1, hh⟩ := bi_bd hh
  refine go_pf (pc := 2) rfl eh1 ?_
  refine go_al (pc := 5) rfl (rfl : ai_ld 0 (lv_args 0 [.ref a0, .int a1, .int a2]) = some (.ref a0)) ?_
  refine go_il (pc := 6) rfl (rfl : ai_ld 1 (lv_args 0 [.ref a0, .int a1, .int a2]) = some (.int a1)) ?_
  obtain ⟨q2, eq2, hh⟩ := bi_bd hh
  refine go_ivI (pc := 7) rfl rfl (gX11_isWalker eq2) (Nat.le_of_ble_eq_true rfl) (bi_up (sX11_isWalker eq2) (Nat.le_of_ble_eq_true rfl)) ?_
  refine bi_ite hh (fun hc hh => ?_) (fun hc hh => ?_)
  · refine go_ifeqT (pc := 10) rfl hc ?_
    refine go_pi (pc := 21) rfl ?_
    exact go_ri (pc := 22) rfl hh
  · refine go_ifeqF (pc := 10) rfl hc ?_
    refine go_al (pc := 13) rfl (rfl : ai_ld 0 (lv_args 0 [.ref a0, .int a1, .int a2]) = some (.ref a0)) ?_
    refine go_il (pc := 14) rfl (rfl : ai_ld 2 (lv_args 0 [.ref a0, .int a1, .int a2]) = some (.int a2)) ?_
    obtain ⟨q3, eq3, hh⟩ := bi_bd hh
    refine go_ivI (pc := 15) rfl rfl (gX11_isPath eq3) (Nat.le_of_ble_eq_true rfl) (bi_up (sX11_isPath eq3) (Nat.le_of_ble_eq_true rfl)) ?_
    refine bi_ite hh (fun hc hh => ?_) (fun hc hh => ?_)
    · refine go_ifneT (pc := 18) rfl hc ?_
      refine go_al (pc := 23) rfl (rfl : ai_ld 0 (lv_args 0 [.ref a0, .int a1, .int a2]) = some (.ref a0)) ?_
      obtain ⟨q4, eq4, hh⟩ := bi_bd hh
      refine go_ivV (pc := 24) rfl rfl (gX11_plainTried eq4) (Nat.le_of_ble_eq_true rfl) (bi_up (sX11_plainTried eq4) (Nat.le_of_ble_eq_true rfl)) ?_
      refine go_al (pc := 27) rfl (rfl : ai_ld 0 (lv_args 0 [.ref a0, .int a1, .int a2]) = some (.ref a0)) ?_
      refine go_pi (pc := 28) rfl ?_
      refine go_il (pc := 29) rfl (rfl : ai_ld 2 (lv_args 0 [.ref a0, .int a1, .int a2]) = some (.int a2)) ?_
      refine go_il (pc := 30) rfl (rfl : ai_ld 1 (lv_args 0 [.ref a0, .int a1, .int a2]) = some (.int a1)) ?_
      obtain ⟨q5, eq5, hh⟩ := bi_bd hh
      refine go_ivI (pc := 31) rfl rfl (gX11_can eq5) (Nat.le_of_ble_eq_true rfl) (bi_up (sX11_can eq5) (Nat.le_of_ble_eq_true rfl)) ?_
      refine bi_ite hh (fun hc hh => ?_) (fun hc hh => ?_)
      · refine go_ifneT (pc := 34) rfl hc ?_
        refine go_al (pc := 40) rfl (rfl : ai_ld 0 (lv_args 0 [.ref a0, .int a1, .int a2]) = some (.ref a0)) ?_
        obtain ⟨q6, eq6, hh⟩ := bi_bd hh
        refine go_ivV (pc := 41) rfl rfl (gX11_remember eq6) (Nat.le_of_ble_eq_true rfl) (bi_up (sX11_remember eq6) (Nat.le_of_ble_eq_true rfl)) ?_
        refine go_al (pc := 44) rfl (rfl : ai_ld 0 (lv_args 0 [.ref a0, .int a1, .int a2]) = some (.ref a0)) ?_
        refine go_pi (pc := 45) rfl ?_
        refine go_il (pc := 46) rfl (rfl : ai_ld 2 (lv_args 0 [.ref a0, .int a1, .int a2]) = some (.int a2)) ?_
        refine go_il (pc := 47) rfl (rfl : ai_ld 1 (lv_args 0 [.ref a0, .int a1, .int a2]) = some (.int a1)) ?_
        obtain ⟨q7, eq7, hh⟩ := bi_bd hh
        refine go_ivV (pc := 48) rfl rfl (gX11_goes eq7) (Nat.le_of_ble_eq_true rfl) (bi_up (sX11_goes eq7) (Nat.le_of_ble_eq_true rfl)) ?_
        refine go_al (pc := 51) rfl (rfl : ai_ld 0 (lv_args 0 [.ref a0, .int a1, .int a2]) = some (.ref a0)) ?_
        obtain ⟨x8, ex8, hh⟩ := bi_bd hh
        refine go_gfR (pc := 52) rfl ex8 ?_
        refine go_il (pc := 55) rfl (rfl : ai_ld 1 (lv_args 0 [.ref a0, .int a1, .int a2]) = some (.int a1)) ?_
        obtain ⟨x9, ex9, hh⟩ := bi_bd hh
        refine go_iald (pc := 56) rfl ex9 ?_
        exact go_ri (pc := 57) rfl hh
      · refine go_ifneF (pc := 34) rfl hc ?_
        refine go_pi (pc := 37) rfl ?_
        exact go_ri (pc := 39) rfl hh
    · refine go_ifneF (pc := 18) rfl hc ?_
      refine go_pi (pc := 21) rfl ?_
      exact go_ri (pc := 22) rfl hh
def fX11_mow_33 (n : Nat) (h : ai_H) (v0 : Nat) (v1 : Int32) : Option (Int32 × ai_H) :=
  (fX11_remember n h v0).bind fun q1 =>
  (pR n q1.2 v0 11 63).bind fun x2 =>
  (wB n q1.2 x2 v1 (1 : Int32)).bind fun h3 =>
  (pR n h3 v0 11 62).bind fun x4 =>
  (wX 1 (fun x => x) n h3 x4 v1 (0 : Int32)).bind fun h5 =>
  some ((1 : Int32), h5)
theorem sX11_mow_33 {n : Nat} {q : Int32 × ai_H} {h : ai_H} {v0 : Nat} {v1 : Int32} {lv : ai_L} (l0 : ai_ld 0 lv = some (.ref v0)) (l1 : ai_ld 1 lv = some (.int v1)) (hh : fX11_mow_33 n h v0 v1 = some q) : bi_go 2 tX11_mow n (fI n q) 33 lv [] h := by
  unfold fX11_mow_33 at hh
  refine go_al (pc := 33) rfl l0 ?_
  obtain ⟨q1, eq1, hh⟩ := bi_bd hh
  refine go_ivV (pc := 34) rfl rfl (gX11_remember eq1) (Nat.le_of_ble_eq_true rfl) (bi_up (sX11_remember eq1) (Nat.le_of_ble_eq_true rfl)) ?_
  refine go_al (pc := 37) rfl l0 ?_
  obtain ⟨x2, ex2, hh⟩ := bi_bd hh
  refine go_gfR (pc := 38) rfl ex2 ?_
  refine go_il (pc := 41) rfl l1 ?_
  refine go_pi (pc := 42) rfl ?_
  obtain ⟨h3, eh3, hh⟩ := bi_bd hh
  refine go_bast (pc := 43) rfl eh3 ?_
  refine go_al (pc := 44) rfl l0 ?_
  obtain ⟨x4, ex4, hh⟩ := bi_bd hh
  refine go_gfR (pc := 45) rfl ex4 ?_
  refine go_il (pc := 48) rfl l1 ?_
  refine go_pi (pc := 49) rfl ?_
  obtain ⟨h5, eh5, hh⟩ := bi_bd hh
  refine go_iast (pc := 50) rfl eh5 ?_
  refine go_pi (pc := 51) rfl ?_
  exact go_rz (pc := 52) rfl bi_z1 hh
def fX11_mow (n : Nat) (h : ai_H) (a0 : Nat) (a1 : Int32) : Option (Int32 × ai_H) :=
  (kO n h a0 11).bind fun _ =>
  (sF n h a0 11 2 (.int) (.int (0 : Int32))).bind fun h1 =>
  (fX11_isPath n h1 a0 a1).bind fun q2 =>
  if q2.1 = 0 then (
    some ((0 : Int32), q2.2))
  else (
    (pR n q2.2 a0 11 63).bind fun x3 =>
    (gB n q2.2 x3 a1).bind fun x4 =>
    if x4 = 0 then (
      fX11_mow_33 n q2.2 a0 a1)
    else (
      (pR n q2.2 a0 11 62).bind fun x5 =>
      (gX 1 n q2.2 x5 a1).bind fun x6 =>
      if ¬ x6 = 0 then (
        fX11_mow_33 n q2.2 a0 a1)
      else (
        some ((0 : Int32), q2.2))))
theorem gX11_mow {n : Nat} {h : ai_H} {a0 : Nat} {a1 : Int32} {q : Int32 × ai_H} (hh : fX11_mow n h a0 a1 = some q) : kO n h a0 11 = some () := by
  obtain ⟨_, e, -⟩ := bi_bd hh
  exact e
theorem sX11_mow {n : Nat} {h : ai_H} {a0 : Nat} {a1 : Int32} {q : Int32 × ai_H} (hh : fX11_mow n h a0 a1 = some q) : bi_sp 3 212 [.ref a0, .int a1] h n (fI n q) := by
  refine bi_en (D := 2) (T := tX11_mow) (funext fun pc => rfl) rfl (Nat.le_of_ble_eq_true rfl) ?_
  unfold fX11_mow at hh
  obtain ⟨_, eO, hh⟩ := bi_bd hh
  refine go_al (pc := 0) rfl (rfl : ai_ld 0 (lv_args 0 [.ref a0, .int a1]) = some (.ref a0)) ?_
  refine go_pi (pc := 1) rfl ?_
  obtain ⟨h1, eh1, hh⟩ := bi_bd hh
  refine go_pf (pc := 2) rfl eh1 ?_
  refine go_al (pc := 5) rfl (rfl : ai_ld 0 (lv_args 0 [.ref a0, .int a1]) = some (.ref a0)) ?_
  refine go_il (pc := 6) rfl (rfl : ai_ld 1 (lv_args 0 [.ref a0, .int a1]) = some (.int a1)) ?_
  obtain ⟨q2, eq2, hh⟩ := bi_bd hh
  refine go_ivI (pc := 7) rfl rfl (gX11_isPath eq2) (Nat.le_of_ble_eq_true rfl) (bi_up (sX11_isPath eq2) (Nat.le_of_ble_eq_true rfl)) ?_
  refine bi_ite hh (fun hc hh => ?_) (fun hc hh => ?_)
  · refine go_ifeqT (pc := 10) rfl hc ?_
    refine go_pi (pc := 31) rfl ?_
    exact go_rz (pc := 32) rfl bi_z0 hh
  · refine go_ifeqF (pc := 10) rfl hc ?_
    refine go_al (pc := 13) rfl (rfl : ai_ld 0 (lv_args 0 [.ref a0, .int a1]) = some (.ref a0)) ?_
    obtain ⟨x3, ex3, hh⟩ := bi_bd hh
    refine go_gfR (pc := 14) rfl ex3 ?_
    refine go_il (pc := 17) rfl (rfl : ai_ld 1 (lv_args 0 [.ref a0, .int a1]) = some (.int a1)) ?_
    obtain ⟨x4, ex4, hh⟩ := bi_bd hh
    refine go_bald (pc := 18) rfl ex4 ?_
    refine bi_ite hh (fun hc hh => ?_) (fun hc hh => ?_)
    · refine go_ifeqT (pc := 19) rfl hc ?_
      exact sX11_mow_33  (rfl : ai_ld 0 (lv_args 0 [.ref a0, .int a1]) = some (.ref a0)) (rfl : ai_ld 1 (lv_args 0 [.ref a0, .int a1]) = some (.int a1)) hh
    · refine go_ifeqF (pc := 19) rfl hc ?_
      refine go_al (pc := 22) rfl (rfl : ai_ld 0 (lv_args 0 [.ref a0, .int a1]) = some (.ref a0)) ?_
      obtain ⟨x5, ex5, hh⟩ := bi_bd hh
      refine go_gfR (pc := 23) rfl ex5 ?_
      refine go_il (pc := 26) rfl (rfl : ai_ld 1 (lv_args 0 [.ref a0, .int a1]) = some (.int a1)) ?_
      obtain ⟨x6, ex6, hh⟩ := bi_bd hh
      refine go_iald (pc := 27) rfl ex6 ?_
      refine bi_ite hh (fun hc hh => ?_) (fun hc hh => ?_)
      · refine go_ifneT (pc := 28) rfl hc ?_
        exact sX11_mow_33  (rfl : ai_ld 0 (lv_args 0 [.ref a0, .int a1]) = some (.ref a0)) (rfl : ai_ld 1 (lv_args 0 [.ref a0, .int a1]) = some (.int a1)) hh
      · refine go_ifneF (pc := 28) rfl hc ?_
        refine go_pi (pc := 31) rfl ?_
        exact go_rz (pc := 32) rfl bi_z0 hh
def fX11_carry (n : Nat) (h : ai_H) (a0 : Nat) (a1 : Int32) (a2 : Int32) : Option (Int32 × ai_H) :=
  (kO n h a0 11).bind fun _ =>
  (sF n h a0 11 2 (.int) (.int (0 : Int32))).bind fun h1 =>
  (fX11_isWalker n h1 a0 a1).bind fun q2 =>
  if q2.1 = 0 then (
    some ((0 : Int32), q2.2))
  else (
    (fX11_isPlace n q2.2 a0 a2).bind fun q3 =>
    if q3.1 = 0 then (
      some ((0 : Int32), q3.2))
    else (
      (pR n q3.2 a0 11 60).bind fun x4 =>
      (gX 1 n q3.2 x4 a1).bind fun x5 =>
      if ¬ x5 = a2 then (
        (fX11_remember n q3.2 a0).bind fun q6 =>
        (pR n q6.2 a0 11 60).bind fun x7 =>
        (wX 1 (fun x => x) n q6.2 x7 a1 a2).bind fun h8 =>
        some ((1 : Int32), h8))
      else (
        some ((0 : Int32), q3.2))))
theorem gX11_carry {n : Nat} {h : ai_H} {a0 : Nat} {a1 : Int32} {a2 : Int32} {q : Int32 × ai_H} (hh : fX11_carry n h a0 a1 a2 = some q) : kO n h a0 11 = some () := by
  obtain ⟨_, e, -⟩ := bi_bd hh
  exact e
theorem sX11_carry {n : Nat} {h : ai_H} {a0 : Nat} {a1 : Int32} {a2 : Int32} {q : Int32 × ai_H} (hh : fX11_carry n h a0 a1 a2 = some q) : bi_sp 3 213 [.ref a0, .int a1, .int a2] h n (fI n q) := by
  refine bi_en (D := 2) (T := tX11_carry) (funext fun pc => rfl) rfl (Nat.le_of_ble_eq_true rfl) ?_
  unfold fX11_carry at hh
  obtain ⟨_, eO, hh⟩ := bi_bd hh
  refine go_al (pc := 0) rfl (rfl : ai_ld 0 (lv_args 0 [.ref a0, .int a1, .int a2]) = some (.ref a0)) ?_
  refine go_pi (pc := 1) rfl ?_
  obtain ⟨h1, eh1, hh⟩ := bi_bd hh
  refine go_pf (pc := 2) rfl eh1 ?_
  refine go_al (pc := 5) rfl (rfl : ai_ld 0 (lv_args 0 [.ref a0, .int a1, .int a2]) = some (.ref a0)) ?_
  refine go_il (pc := 6) rfl (rfl : ai_ld 1 (lv_args 0 [.ref a0, .int a1, .int a2]) = some (.int a1)) ?_
  obtain ⟨q2, eq2, hh⟩ := bi_bd hh
  refine go_ivI (pc := 7) rfl rfl (gX11_isWalker eq2) (Nat.le_of_ble_eq_true rfl) (bi_up (sX11_isWalker eq2) (Nat.le_of_ble_eq_true rfl)) ?_
  refine bi_ite hh (fun hc hh => ?_) (fun hc hh => ?_)
  · refine go_ifeqT (pc := 10) rfl hc ?_
    refine go_pi (pc := 31) rfl ?_
    exact go_rz (pc := 32) rfl bi_z0 hh
  · refine go_ifeqF (pc := 10) rfl hc ?_
    refine go_al (pc := 13) rfl (rfl : ai_ld 0 (lv_args 0 [.ref a0, .int a1, .int a2]) = some (.ref a0)) ?_
    refine go_il (pc := 14) rfl (rfl : ai_ld 2 (lv_args 0 [.ref a0, .int a1, .int a2]) = some (.int a2)) ?_
    obtain ⟨q3, eq3, hh⟩ := bi_bd hh
    refine go_ivI (pc := 15) rfl rfl (gX11_isPlace eq3) (Nat.le_of_ble_eq_true rfl) (bi_up (sX11_isPlace eq3) (Nat.le_of_ble_eq_true rfl)) ?_
    refine bi_ite hh (fun hc hh => ?_) (fun hc hh => ?_)
    · refine go_ifeqT (pc := 18) rfl hc ?_
      refine go_pi (pc := 31) rfl ?_
      exact go_rz (pc := 32) rfl bi_z0 hh
    · refine go_ifeqF (pc := 18) rfl hc ?_
      refine go_al (pc := 21) rfl (rfl : ai_ld 0 (lv_args 0 [.ref a0, .int a1, .int a2]) = some (.ref a0)) ?_
      obtain ⟨x4, ex4, hh⟩ := bi_bd hh
      refine go_gfR (pc := 22) rfl ex4 ?_
      refine go_il (pc := 25) rfl (rfl : ai_ld 1 (lv_args 0 [.ref a0, .int a1, .int a2]) = some (.int a1)) ?_
      obtain ⟨x5, ex5, hh⟩ := bi_bd hh
      refine go_iald (pc := 26) rfl ex5 ?_
      refine go_il (pc := 27) rfl (rfl : ai_ld 2 (lv_args 0 [.ref a0, .int a1, .int a2]) = some (.int a2)) ?_
      refine bi_ite hh (fun hc hh => ?_) (fun hc hh => ?_)
      · refine go_cmpneT (pc := 28) rfl hc ?_
        refine go_al (pc := 33) rfl (rfl : ai_ld 0 (lv_args 0 [.ref a0, .int a1, .int a2]) = some (.ref a0)) ?_
        obtain ⟨q6, eq6, hh⟩ := bi_bd hh
        refine go_ivV (pc := 34) rfl rfl (gX11_remember eq6) (Nat.le_of_ble_eq_true rfl) (bi_up (sX11_remember eq6) (Nat.le_of_ble_eq_true rfl)) ?_
        refine go_al (pc := 37) rfl (rfl : ai_ld 0 (lv_args 0 [.ref a0, .int a1, .int a2]) = some (.ref a0)) ?_
        obtain ⟨x7, ex7, hh⟩ := bi_bd hh
        refine go_gfR (pc := 38) rfl ex7 ?_
        refine go_il (pc := 41) rfl (rfl : ai_ld 1 (lv_args 0 [.ref a0, .int a1, .int a2]) = some (.int a1)) ?_
        refine go_il (pc := 42) rfl (rfl : ai_ld 2 (lv_args 0 [.ref a0, .int a1, .int a2]) = some (.int a2)) ?_
        obtain ⟨h8, eh8, hh⟩ := bi_bd hh
        refine go_iast (pc := 43) rfl eh8 ?_
        refine go_pi (pc := 44) rfl ?_
        exact go_rz (pc := 45) rfl bi_z1 hh
      · refine go_cmpneF (pc := 28) rfl hc ?_
        refine go_pi (pc := 31) rfl ?_
        exact go_rz (pc := 32) rfl bi_z0 hh
def fX11_go_43b (n : Nat) (r43 : ai_H → Nat → Int32 → Int32 → Option (Int32 × ai_H)) (h : ai_H) (v0 : Nat) (v1 : Int32) (v2 : Int32) : Option (Int32 × ai_H) :=
  if v1 ≤ v2 then (
    (sF n h v0 11 69 (.boolean) (.int (0 : Int32))).bind fun h1 =>
    if v1 ≤ 0 then (
      (pI n h1 v0 11 89).bind fun x2 =>
      (sF n h1 v0 11 89 (.int) (.int x2)).bind fun h3 =>
      (pR n h3 v0 11 67).bind fun x4 =>
      (gX 1 n h3 x4 (0 : Int32)).bind fun x5 =>
      some (x5, h3))
    else (
      (sF n h1 v0 11 89 (.int) (.int (0 : Int32))).bind fun h6 =>
      (pR n h6 v0 11 67).bind fun x7 =>
      (gX 1 n h6 x7 (0 : Int32)).bind fun x8 =>
      some (x8, h6)))
  else (
    (fX11_dayGoes n h v0 (0 : Int32)).bind fun q9 =>
    r43 q9.2 v0 v1 (v2 + 1))
theorem sX11_go_43b {n : Nat} {r43 : ai_H → Nat → Int32 → Int32 → Option (Int32 × ai_H)} {q : Int32 × ai_H} {h : ai_H} {v0 : Nat} {v1 : Int32} {v2 : Int32} {lv : ai_L} (R43 : ∀ (h : ai_H) (v0 : Nat) (v1 : Int32) (v2 : Int32) (lv : ai_L), ai_ld 0 lv = some (.ref v0) → ai_ld 1 lv = some (.int v1) → ai_ld 2 lv = some (.int v2) → r43 h v0 v1 v2 = some q → bi_go 6 tX11_go n (fI n q) 43 lv [] h) (l0 : ai_ld 0 lv = some (.ref v0)) (l1 : ai_ld 1 lv = some (.int v1)) (l2 : ai_ld 2 lv = some (.int v2)) (hh : fX11_go_43b n r43 h v0 v1 v2 = some q) : bi_go 6 tX11_go n (fI n q) 43 lv [] h := by
  unfold fX11_go_43b at hh
  refine go_il (pc := 43) rfl l2 ?_
  refine go_il (pc := 44) rfl l1 ?_
  refine bi_ite hh (fun hc hh => ?_) (fun hc hh => ?_)
  · refine go_cmpgeT (pc := 45) rfl hc ?_
    refine go_al (pc := 59) rfl l0 ?_
    refine go_pi (pc := 60) rfl ?_
    obtain ⟨h1, eh1, hh⟩ := bi_bd hh
    refine go_pf (pc := 61) rfl eh1 ?_
    refine go_al (pc := 64) rfl l0 ?_
    refine go_il (pc := 65) rfl l1 ?_
    refine bi_ite hh (fun hc hh => ?_) (fun hc hh => ?_)
    · refine go_ifleT (pc := 66) rfl hc ?_
      refine go_al (pc := 73) rfl l0 ?_
      obtain ⟨x2, ex2, hh⟩ := bi_bd hh
      refine go_gfI (pc := 74) rfl ex2 ?_
      obtain ⟨h3, eh3, hh⟩ := bi_bd hh
      refine go_pf (pc := 77) rfl eh3 ?_
      refine go_al (pc := 80) rfl l0 ?_
      obtain ⟨x4, ex4, hh⟩ := bi_bd hh
      refine go_gfR (pc := 81) rfl ex4 ?_
      refine go_pi (pc := 84) rfl ?_
      obtain ⟨x5, ex5, hh⟩ := bi_bd hh
      refine go_iald (pc := 85) rfl ex5 ?_
      exact go_ri (pc := 86) rfl hh
    · refine go_ifleF (pc := 66) rfl hc ?_
      refine go_pi (pc := 69) rfl ?_
      refine go_goto (pc := 70) rfl ?_
      obtain ⟨h6, eh6, hh⟩ := bi_bd hh
      refine go_pf (pc := 77) rfl eh6 ?_
      refine go_al (pc := 80) rfl l0 ?_
      obtain ⟨x7, ex7, hh⟩ := bi_bd hh
      refine go_gfR (pc := 81) rfl ex7 ?_
      refine go_pi (pc := 84) rfl ?_
      obtain ⟨x8, ex8, hh⟩ := bi_bd hh
      refine go_iald (pc := 85) rfl ex8 ?_
      exact go_ri (pc := 86) rfl hh
  · refine go_cmpgeF (pc := 45) rfl hc ?_
    refine go_al (pc := 48) rfl l0 ?_
    refine go_pi (pc := 49) rfl ?_
    obtain ⟨q9, eq9, hh⟩ := bi_bd hh
    refine go_ivV (pc := 50) rfl rfl (gX11_dayGoes eq9) (Nat.le_of_ble_eq_true rfl) (bi_up (sX11_dayGoes eq9) (Nat.le_of_ble_eq_true rfl)) ?_
    refine go_inc (pc := 53) rfl l2 ?_
    refine go_goto (pc := 56) rfl ?_
    exact R43 _ _ _ _ _ (bi_k1 l0 rfl rfl) (bi_k1 l1 rfl rfl) bi_e1 hh
def fX11_go_43 (n : Nat) : Nat → ai_H → Nat → Int32 → Int32 → Option (Int32 × ai_H)
  | 0 => fun _ _ _ _ => none
  | k + 1 => fun h v0 v1 v2 => fX11_go_43b n (fX11_go_43 n k) h v0 v1 v2
theorem sX11_go_43 {n : Nat} {q : Int32 × ai_H} : ∀ (k : Nat) (h : ai_H) (v0 : Nat) (v1 : Int32) (v2 : Int32) (lv : ai_L), ai_ld 0 lv = some (.ref v0) → ai_ld 1 lv = some (.int v1) → ai_ld 2 lv = some (.int v2) → fX11_go_43 n k h v0 v1 v2 = some q → bi_go 6 tX11_go n (fI n q) 43 lv [] h
  | 0 => fun _ _ _ _ _ _ _ _ hh => by cases hh
  | k + 1 => fun h v0 v1 v2 lv l0 l1 l2 hh => sX11_go_43b  (sX11_go_43  k) l0 l1 l2 hh
def fX11_go (n : Nat) (h : ai_H) (a0 : Nat) (a1 : Int32) : Option (Int32 × ai_H) :=
  (kO n h a0 11).bind fun _ =>
  (sF n h a0 11 2 (.int) (.int (0 : Int32))).bind fun h1 =>
  (fX11_isIn n h1 a1 (0 : Int32) (400 : Int32)).bind fun q2 =>
  if q2.1 = 0 then (
    some ((-1 : Int32), q2.2))
  else (
    (pR n q2.2 a0 11 67).bind fun x3 =>
    (gX 1 n q2.2 x3 (0 : Int32)).bind fun x4 =>
    if (x4 + a1) ≤ (9000 : Int32) then (
      (fX11_plainTried n q2.2 a0).bind fun q5 =>
      (sF n q5.2 a0 11 69 (.boolean) (.int (1 : Int32))).bind fun h6 =>
      fX11_go_43 n bi_K h6 a0 a1 (0 : Int32))
    else (
      some ((-1 : Int32), q2.2)))
theorem gX11_go {n : Nat} {h : ai_H} {a0 : Nat} {a1 : Int32} {q : Int32 × ai_H} (hh : fX11_go n h a0 a1 = some q) : kO n h a0 11 = some () := by
  obtain ⟨_, e, -⟩ := bi_bd hh
  exact e
theorem sX11_go {n : Nat} {h : ai_H} {a0 : Nat} {a1 : Int32} {q : Int32 × ai_H} (hh : fX11_go n h a0 a1 = some q) : bi_sp 7 214 [.ref a0, .int a1] h n (fI n q) := by
  refine bi_en (D := 6) (T := tX11_go) (funext fun pc => rfl) rfl (Nat.le_of_ble_eq_true rfl) ?_
  unfold fX11_go at hh
  obtain ⟨_, eO, hh⟩ := bi_bd hh
  refine go_al (pc := 0) rfl (rfl : ai_ld 0 (lv_args 0 [.ref a0, .int a1]) = some (.ref a0)) ?_
  refine go_pi (pc := 1) rfl ?_
  obtain ⟨h1, eh1, hh⟩ := bi_bd hh
  refine go_pf (pc := 2) rfl eh1 ?_
  refine go_il (pc := 5) rfl (rfl : ai_ld 1 (lv_args 0 [.ref a0, .int a1]) = some (.int a1)) ?_
  refine go_pi (pc := 6) rfl ?_
  refine go_pi (pc := 7) rfl ?_
  obtain ⟨q2, eq2, hh⟩ := bi_bd hh
  refine go_iSI (pc := 10) rfl (Nat.le_of_ble_eq_true rfl) rfl (Nat.le_of_ble_eq_true rfl) (bi_up (sX11_isIn eq2) (Nat.le_of_ble_eq_true rfl)) ?_
  refine bi_ite hh (fun hc hh => ?_) (fun hc hh => ?_)
  · refine go_ifeqT (pc := 13) rfl hc ?_
    refine go_pi (pc := 30) rfl ?_
    exact go_ri (pc := 31) rfl hh
  · refine go_ifeqF (pc := 13) rfl hc ?_
    refine go_al (pc := 16) rfl (rfl : ai_ld 0 (lv_args 0 [.ref a0, .int a1]) = some (.ref a0)) ?_
    obtain ⟨x3, ex3, hh⟩ := bi_bd hh
    refine go_gfR (pc := 17) rfl ex3 ?_
    refine go_pi (pc := 20) rfl ?_
    obtain ⟨x4, ex4, hh⟩ := bi_bd hh
    refine go_iald (pc := 21) rfl ex4 ?_
    refine go_il (pc := 22) rfl (rfl : ai_ld 1 (lv_args 0 [.ref a0, .int a1]) = some (.int a1)) ?_
    refine go_iadd (pc := 23) rfl ?_
    refine go_pi (pc := 24) rfl ?_
    refine bi_ite hh (fun hc hh => ?_) (fun hc hh => ?_)
    · refine go_cmpleT (pc := 27) rfl hc ?_
      refine go_al (pc := 32) rfl (rfl : ai_ld 0 (lv_args 0 [.ref a0, .int a1]) = some (.ref a0)) ?_
      obtain ⟨q5, eq5, hh⟩ := bi_bd hh
      refine go_ivV (pc := 33) rfl rfl (gX11_plainTried eq5) (Nat.le_of_ble_eq_true rfl) (bi_up (sX11_plainTried eq5) (Nat.le_of_ble_eq_true rfl)) ?_
      refine go_al (pc := 36) rfl (rfl : ai_ld 0 (lv_args 0 [.ref a0, .int a1]) = some (.ref a0)) ?_
      refine go_pi (pc := 37) rfl ?_
      obtain ⟨h6, eh6, hh⟩ := bi_bd hh
      refine go_pf (pc := 38) rfl eh6 ?_
      refine go_pi (pc := 41) rfl ?_
      refine go_is (pc := 42) rfl ?_
      exact sX11_go_43  _ _ _ _ _ _ (bi_k1 (rfl : ai_ld 0 (lv_args 0 [.ref a0, .int a1]) = some (.ref a0)) rfl rfl) (bi_k1 (rfl : ai_ld 1 (lv_args 0 [.ref a0, .int a1]) = some (.int a1)) rfl rfl) bi_e1 hh
    · refine go_cmpleF (pc := 27) rfl hc ?_
      refine go_pi (pc := 30) rfl ?_
      exact go_ri (pc := 31) rfl hh
def fX11_ahead_53 (n : Nat) (h : ai_H) (v0 : Nat) (v1 : Int32) (v2 : Int32) (v3 : Int32) : Option (Int32 × ai_H) :=
  (fX11_layTried n h v0).bind fun q1 =>
  (fX11_goMany n q1.2 v0 v1).bind fun q2 =>
  if v2 = 0 then (
    (fX11_keptMany n q2.2 v0 (1 : Int32)).bind fun q3 =>
    some (q3.1, q3.2))
  else (
    if v2 = 1 then (
      (pR n q2.2 v0 11 65).bind fun x4 =>
      (gX 1 n q2.2 x4 (1 : Int32)).bind fun x5 =>
      (pR n q2.2 v0 11 65).bind fun x6 =>
      (gX 1 n q2.2 x6 (0 : Int32)).bind fun x7 =>
      some (x5 - x7, q2.2))
    else (
      if v2 = 2 then (
        (pR n q2.2 v0 11 66).bind fun x8 =>
        (gX 1 n q2.2 x8 (1 : Int32)).bind fun x9 =>
        (pR n q2.2 v0 11 66).bind fun x10 =>
        (gX 1 n q2.2 x10 (0 : Int32)).bind fun x11 =>
        some (x9 - x11, q2.2))
      else (
        if v2 = 3 then (
          (pR n q2.2 v0 11 60).bind fun x12 =>
          (gX 1 n q2.2 x12 ((4 : Int32) + v3)).bind fun x13 =>
          some (x13, q2.2))
        else (
          (pR n q2.2 v0 11 62).bind fun x14 =>
          (gX 1 n q2.2 x14 ((9 : Int32) + v3)).bind fun x15 =>
          some (x15, q2.2)))))
theorem sX11_ahead_53 {n : Nat} {q : Int32 × ai_H} {h : ai_H} {v0 : Nat} {v1 : Int32} {v2 : Int32} {v3 : Int32} {lv : ai_L} (l0 : ai_ld 0 lv = some (.ref v0)) (l1 : ai_ld 1 lv = some (.int v1)) (l2 : ai_ld 2 lv = some (.int v2)) (l3 : ai_ld 3 lv = some (.int v3)) (hh : fX11_ahead_53 n h v0 v1 v2 v3 = some q) : bi_go 7 tX11_ahead n (fI n q) 53 lv [] h := by
  unfold fX11_ahead_53 at hh
  refine go_al (pc := 53) rfl l0 ?_
  obtain ⟨q1, eq1, hh⟩ := bi_bd hh
  refine go_ivV (pc := 54) rfl rfl (gX11_layTried eq1) (Nat.le_of_ble_eq_true rfl) (bi_up (sX11_layTried eq1) (Nat.le_of_ble_eq_true rfl)) ?_
  refine go_al (pc := 57) rfl l0 ?_
  refine go_il (pc := 58) rfl l1 ?_
  obtain ⟨q2, eq2, hh⟩ := bi_bd hh
  refine go_ivV (pc := 59) rfl rfl (gX11_goMany eq2) (Nat.le_of_ble_eq_true rfl) (bi_up (sX11_goMany eq2) (Nat.le_of_ble_eq_true rfl)) ?_
  refine go_il (pc := 62) rfl l2 ?_
  refine bi_ite hh (fun hc0 hh => ?_) (fun hc0 hh => ?_)
  · refine go_swc (t := 92) 0 (pc := 63) rfl hc0 (by decide) ?_
    refine go_al (pc := 92) rfl l0 ?_
    refine go_pi (pc := 93) rfl ?_
    obtain ⟨q3, eq3, hh⟩ := bi_bd hh
    refine go_ivI (pc := 94) rfl rfl (gX11_keptMany eq3) (Nat.le_of_ble_eq_true rfl) (bi_up (sX11_keptMany eq3) (Nat.le_of_ble_eq_true rfl)) ?_
    exact go_ri (pc := 97) rfl hh
  · skip
    refine bi_ite hh (fun hc1 hh => ?_) (fun hc1 hh => ?_)
    · refine go_swc (t := 98) 1 (pc := 63) rfl hc1 (by decide) ?_
      refine go_al (pc := 98) rfl l0 ?_
      obtain ⟨x4, ex4, hh⟩ := bi_bd hh
      refine go_gfR (pc := 99) rfl ex4 ?_
      refine go_pi (pc := 102) rfl ?_
      obtain ⟨x5, ex5, hh⟩ := bi_bd hh
      refine go_iald (pc := 103) rfl ex5 ?_
      refine go_al (pc := 104) rfl l0 ?_
      obtain ⟨x6, ex6, hh⟩ := bi_bd hh
      refine go_gfR (pc := 105) rfl ex6 ?_
      refine go_pi (pc := 108) rfl ?_
      obtain ⟨x7, ex7, hh⟩ := bi_bd hh
      refine go_iald (pc := 109) rfl ex7 ?_
      refine go_isub (pc := 110) rfl ?_
      exact go_ri (pc := 111) rfl hh
    · skip
      refine bi_ite hh (fun hc2 hh => ?_) (fun hc2 hh => ?_)
      · refine go_swc (t := 112) 2 (pc := 63) rfl hc2 (by decide) ?_
        refine go_al (pc := 112) rfl l0 ?_
        obtain ⟨x8, ex8, hh⟩ := bi_bd hh
        refine go_gfR (pc := 113) rfl ex8 ?_
        refine go_pi (pc := 116) rfl ?_
        obtain ⟨x9, ex9, hh⟩ := bi_bd hh
        refine go_iald (pc := 117) rfl ex9 ?_
        refine go_al (pc := 118) rfl l0 ?_
        obtain ⟨x10, ex10, hh⟩ := bi_bd hh
        refine go_gfR (pc := 119) rfl ex10 ?_
        refine go_pi (pc := 122) rfl ?_
        obtain ⟨x11, ex11, hh⟩ := bi_bd hh
        refine go_iald (pc := 123) rfl ex11 ?_
        refine go_isub (pc := 124) rfl ?_
        exact go_ri (pc := 125) rfl hh
      · skip
        refine bi_ite hh (fun hc3 hh => ?_) (fun hc3 hh => ?_)
        · refine go_swc (t := 126) 3 (pc := 63) rfl hc3 (by decide) ?_
          refine go_al (pc := 126) rfl l0 ?_
          obtain ⟨x12, ex12, hh⟩ := bi_bd hh
          refine go_gfR (pc := 127) rfl ex12 ?_
          refine go_pi (pc := 130) rfl ?_
          refine go_il (pc := 131) rfl l3 ?_
          refine go_iadd (pc := 132) rfl ?_
          obtain ⟨x13, ex13, hh⟩ := bi_bd hh
          refine go_iald (pc := 133) rfl ex13 ?_
          exact go_ri (pc := 134) rfl hh
        · skip
          refine go_swd (pc := 63) rfl (fun i hi => match i, hi with | 0, _ => Or.inr (lv_neT hc0 (by decide)) | 1, _ => Or.inr (lv_neT hc1 (by decide)) | 2, _ => Or.inr (lv_neT hc2 (by decide)) | 3, _ => Or.inr (lv_neT hc3 (by decide)) | i + 4, hi => absurd hi (Nat.not_lt.mpr (Nat.le_add_left _ _))) ?_
          refine go_al (pc := 135) rfl l0 ?_
          obtain ⟨x14, ex14, hh⟩ := bi_bd hh
          refine go_gfR (pc := 136) rfl ex14 ?_
          refine go_pi (pc := 139) rfl ?_
          refine go_il (pc := 141) rfl l3 ?_
          refine go_iadd (pc := 142) rfl ?_
          obtain ⟨x15, ex15, hh⟩ := bi_bd hh
          refine go_iald (pc := 143) rfl ex15 ?_
          exact go_ri (pc := 144) rfl hh
def fX11_ahead_38 (n : Nat) (h : ai_H) (v0 : Nat) (v1 : Int32) (v2 : Int32) (v3 : Int32) : Option (Int32 × ai_H) :=
  if ¬ v2 = (4 : Int32) then (
    fX11_ahead_53 n h v0 v1 v2 v3)
  else (
    (fX11_isPath n h v0 v3).bind fun q1 =>
    if ¬ q1.1 = 0 then (
      fX11_ahead_53 n q1.2 v0 v1 v2 v3)
    else (
      some ((-1 : Int32), q1.2)))
theorem sX11_ahead_38 {n : Nat} {q : Int32 × ai_H} {h : ai_H} {v0 : Nat} {v1 : Int32} {v2 : Int32} {v3 : Int32} {lv : ai_L} (l0 : ai_ld 0 lv = some (.ref v0)) (l1 : ai_ld 1 lv = some (.int v1)) (l2 : ai_ld 2 lv = some (.int v2)) (l3 : ai_ld 3 lv = some (.int v3)) (hh : fX11_ahead_38 n h v0 v1 v2 v3 = some q) : bi_go 7 tX11_ahead n (fI n q) 38 lv [] h := by
  unfold fX11_ahead_38 at hh
  refine go_il (pc := 38) rfl l2 ?_
  refine go_pi (pc := 39) rfl ?_
  refine bi_ite hh (fun hc hh => ?_) (fun hc hh => ?_)
  · refine go_cmpneT (pc := 40) rfl hc ?_
    exact sX11_ahead_53  l0 l1 l2 l3 hh
  · refine go_cmpneF (pc := 40) rfl hc ?_
    refine go_al (pc := 43) rfl l0 ?_
    refine go_il (pc := 44) rfl l3 ?_
    obtain ⟨q1, eq1, hh⟩ := bi_bd hh
    refine go_ivI (pc := 45) rfl rfl (gX11_isPath eq1) (Nat.le_of_ble_eq_true rfl) (bi_up (sX11_isPath eq1) (Nat.le_of_ble_eq_true rfl)) ?_
    refine bi_ite hh (fun hc hh => ?_) (fun hc hh => ?_)
    · refine go_ifneT (pc := 48) rfl hc ?_
      exact sX11_ahead_53  l0 l1 l2 l3 hh
    · refine go_ifneF (pc := 48) rfl hc ?_
      refine go_pi (pc := 51) rfl ?_
      exact go_ri (pc := 52) rfl hh
def fX11_ahead (n : Nat) (h : ai_H) (a0 : Nat) (a1 : Int32) (a2 : Int32) (a3 : Int32) : Option (Int32 × ai_H) :=
  (kO n h a0 11).bind fun _ =>
  (sF n h a0 11 2 (.int) (.int (0 : Int32))).bind fun h1 =>
  (fX11_isIn n h1 a1 (0 : Int32) (400 : Int32)).bind fun q2 =>
  if q2.1 = 0 then (
    some ((-1 : Int32), q2.2))
  else (
    (fX11_isIn n q2.2 a2 (0 : Int32) (4 : Int32)).bind fun q3 =>
    if q3.1 = 0 then (
      some ((-1 : Int32), q3.2))
    else (
      if ¬ a2 = (3 : Int32) then (
        fX11_ahead_38 n q3.2 a0 a1 a2 a3)
      else (
        (fX11_isWalker n q3.2 a0 a3).bind fun q4 =>
        if q4.1 = 0 then (
          some ((-1 : Int32), q4.2))
        else (
          fX11_ahead_38 n q4.2 a0 a1 a2 a3))))
theorem gX11_ahead {n : Nat} {h : ai_H} {a0 : Nat} {a1 : Int32} {a2 : Int32} {a3 : Int32} {q : Int32 × ai_H} (hh : fX11_ahead n h a0 a1 a2 a3 = some q) : kO n h a0 11 = some () := by
  obtain ⟨_, e, -⟩ := bi_bd hh
  exact e
theorem sX11_ahead {n : Nat} {h : ai_H} {a0 : Nat} {a1 : Int32} {a2 : Int32} {a3 : Int32} {q : Int32 × ai_H} (hh : fX11_ahead n h a0 a1 a2 a3 = some q) : bi_sp 8 215 [.ref a0, .int a1, .int a2, .int a3] h n (fI n q) := by
  refine bi_en (D := 7) (T := tX11_ahead) (funext fun pc => rfl) rfl (Nat.le_of_ble_eq_true rfl) ?_
  unfold fX11_ahead at hh
  obtain ⟨_, eO, hh⟩ := bi_bd hh
  refine go_al (pc := 0) rfl (rfl : ai_ld 0 (lv_args 0 [.ref a0, .int a1, .int a2, .int a3]) = some (.ref a0)) ?_
  refine go_pi (pc := 1) rfl ?_
  obtain ⟨h1, eh1, hh⟩ := bi_bd hh
  refine go_pf (pc := 2) rfl eh1 ?_
  refine go_il (pc := 5) rfl (rfl : ai_ld 1 (lv_args 0 [.ref a0, .int a1, .int a2, .int a3]) = some (.int a1)) ?_
  refine go_pi (pc := 6) rfl ?_
  refine go_pi (pc := 7) rfl ?_
  obtain ⟨q2, eq2, hh⟩ := bi_bd hh
  refine go_iSI (pc := 10) rfl (Nat.le_of_ble_eq_true rfl) rfl (Nat.le_of_ble_eq_true rfl) (bi_up (sX11_isIn eq2) (Nat.le_of_ble_eq_true rfl)) ?_
  refine bi_ite hh (fun hc hh => ?_) (fun hc hh => ?_)
  · refine go_ifeqT (pc := 13) rfl hc ?_
    refine go_pi (pc := 51) rfl ?_
    exact go_ri (pc := 52) rfl hh
  · refine go_ifeqF (pc := 13) rfl hc ?_
    refine go_il (pc := 16) rfl (rfl : ai_ld 2 (lv_args 0 [.ref a0, .int a1, .int a2, .int a3]) = some (.int a2)) ?_
    refine go_pi (pc := 17) rfl ?_
    refine go_pi (pc := 18) rfl ?_
    obtain ⟨q3, eq3, hh⟩ := bi_bd hh
    refine go_iSI (pc := 19) rfl (Nat.le_of_ble_eq_true rfl) rfl (Nat.le_of_ble_eq_true rfl) (bi_up (sX11_isIn eq3) (Nat.le_of_ble_eq_true rfl)) ?_
    refine bi_ite hh (fun hc hh => ?_) (fun hc hh => ?_)
    · refine go_ifeqT (pc := 22) rfl hc ?_
      refine go_pi (pc := 51) rfl ?_
      exact go_ri (pc := 52) rfl hh
    · refine go_ifeqF (pc := 22) rfl hc ?_
      refine go_il (pc := 25) rfl (rfl : ai_ld 2 (lv_args 0 [.ref a0, .int a1, .int a2, .int a3]) = some (.int a2)) ?_
      refine go_pi (pc := 26) rfl ?_
      refine bi_ite hh (fun hc hh => ?_) (fun hc hh => ?_)
      · refine go_cmpneT (pc := 27) rfl hc ?_
        exact sX11_ahead_38  (rfl : ai_ld 0 (lv_args 0 [.ref a0, .int a1, .int a2, .int a3]) = some (.ref a0)) (rfl : ai_ld 1 (lv_args 0 [.ref a0, .int a1, .int a2, .int a3]) = some (.int a1)) (rfl : ai_ld 2 (lv_args 0 [.ref a0, .int a1, .int a2, .int a3]) = some (.int a2)) (rfl : ai_ld 3 (lv_args 0 [.ref a0, .int a1, .int a2, .int a3]) = some (.int a3)) hh
      · refine go_cmpneF (pc := 27) rfl hc ?_
        refine go_al (pc := 30) rfl (rfl : ai_ld 0 (lv_args 0 [.ref a0, .int a1, .int a2, .int a3]) = some (.ref a0)) ?_
        refine go_il (pc := 31) rfl (rfl : ai_ld 3 (lv_args 0 [.ref a0, .int a1, .int a2, .int a3]) = some (.int a3)) ?_
        obtain ⟨q4, eq4, hh⟩ := bi_bd hh
        refine go_ivI (pc := 32) rfl rfl (gX11_isWalker eq4) (Nat.le_of_ble_eq_true rfl) (bi_up (sX11_isWalker eq4) (Nat.le_of_ble_eq_true rfl)) ?_
        refine bi_ite hh (fun hc hh => ?_) (fun hc hh => ?_)
        · refine go_ifeqT (pc := 35) rfl hc ?_
          refine go_pi (pc := 51) rfl ?_
          exact go_ri (pc := 52) rfl hh
        · refine go_ifeqF (pc := 35) rfl hc ?_
          exact sX11_ahead_38  (rfl : ai_ld 0 (lv_args 0 [.ref a0, .int a1, .int a2, .int a3]) = some (.ref a0)) (rfl : ai_ld 1 (lv_args 0 [.ref a0, .int a1, .int a2, .int a3]) = some (.int a1)) (rfl : ai_ld 2 (lv_args 0 [.ref a0, .int a1, .int a2, .int a3]) = some (.int a2)) (rfl : ai_ld 3 (lv_args 0 [.ref a0, .int a1, .int a2, .int a3]) = some (.int a3)) hh
def fX11_lapse_21b (n : Nat) (r21 : ai_H → Nat → Int32 → Int32 → Option (Int32 × ai_H)) (h : ai_H) (v0 : Nat) (v1 : Int32) (v2 : Int32) : Option (Int32 × ai_H) :=
  if (400 : Int32) ≤ v2 then (
    some ((-2 : Int32), h))
  else (
    (pR n h v0 11 63).bind fun x1 =>
    (gB n h x1 ((9 : Int32) + v1)).bind fun x2 =>
    if ¬ x2 = 0 then (
      (fX11_dayGoes n h v0 (1 : Int32)).bind fun q3 =>
      r21 q3.2 v0 v1 (v2 + 1))
    else (
      some (v2, h)))
theorem sX11_lapse_21b {n : Nat} {r21 : ai_H → Nat → Int32 → Int32 → Option (Int32 × ai_H)} {q : Int32 × ai_H} {h : ai_H} {v0 : Nat} {v1 : Int32} {v2 : Int32} {lv : ai_L} (R21 : ∀ (h : ai_H) (v0 : Nat) (v1 : Int32) (v2 : Int32) (lv : ai_L), ai_ld 0 lv = some (.ref v0) → ai_ld 1 lv = some (.int v1) → ai_ld 2 lv = some (.int v2) → r21 h v0 v1 v2 = some q → bi_go 6 tX11_lapse n (fI n q) 21 lv [] h) (l0 : ai_ld 0 lv = some (.ref v0)) (l1 : ai_ld 1 lv = some (.int v1)) (l2 : ai_ld 2 lv = some (.int v2)) (hh : fX11_lapse_21b n r21 h v0 v1 v2 = some q) : bi_go 6 tX11_lapse n (fI n q) 21 lv [] h := by
  unfold fX11_lapse_21b at hh
  refine go_il (pc := 21) rfl l2 ?_
  refine go_pi (pc := 22) rfl ?_
  refine bi_ite hh (fun hc hh => ?_) (fun hc hh => ?_)
  · refine go_cmpgeT (pc := 25) rfl hc ?_
    refine go_pi (pc := 53) rfl ?_
    exact go_ri (pc := 55) rfl hh
  · refine go_cmpgeF (pc := 25) rfl hc ?_
    refine go_al (pc := 28) rfl l0 ?_
    obtain ⟨x1, ex1, hh⟩ := bi_bd hh
    refine go_gfR (pc := 29) rfl ex1 ?_
    refine go_pi (pc := 32) rfl ?_
    refine go_il (pc := 34) rfl l1 ?_
    refine go_iadd (pc := 35) rfl ?_
    obtain ⟨x2, ex2, hh⟩ := bi_bd hh
    refine go_bald (pc := 36) rfl ex2 ?_
    refine bi_ite hh (fun hc hh => ?_) (fun hc hh => ?_)
    · refine go_ifneT (pc := 37) rfl hc ?_
      refine go_al (pc := 42) rfl l0 ?_
      refine go_pi (pc := 43) rfl ?_
      obtain ⟨q3, eq3, hh⟩ := bi_bd hh
      refine go_ivV (pc := 44) rfl rfl (gX11_dayGoes eq3) (Nat.le_of_ble_eq_true rfl) (bi_up (sX11_dayGoes eq3) (Nat.le_of_ble_eq_true rfl)) ?_
      refine go_inc (pc := 47) rfl l2 ?_
      refine go_goto (pc := 50) rfl ?_
      exact R21 _ _ _ _ _ (bi_k1 l0 rfl rfl) (bi_k1 l1 rfl rfl) bi_e1 hh
    · refine go_ifneF (pc := 37) rfl hc ?_
      refine go_il (pc := 40) rfl l2 ?_
      exact go_ri (pc := 41) rfl hh
def fX11_lapse_21 (n : Nat) : Nat → ai_H → Nat → Int32 → Int32 → Option (Int32 × ai_H)
  | 0 => fun _ _ _ _ => none
  | k + 1 => fun h v0 v1 v2 => fX11_lapse_21b n (fX11_lapse_21 n k) h v0 v1 v2
theorem sX11_lapse_21 {n : Nat} {q : Int32 × ai_H} : ∀ (k : Nat) (h : ai_H) (v0 : Nat) (v1 : Int32) (v2 : Int32) (lv : ai_L), ai_ld 0 lv = some (.ref v0) → ai_ld 1 lv = some (.int v1) → ai_ld 2 lv = some (.int v2) → fX11_lapse_21 n k h v0 v1 v2 = some q → bi_go 6 tX11_lapse n (fI n q) 21 lv [] h
  | 0 => fun _ _ _ _ _ _ _ _ hh => by cases hh
  | k + 1 => fun h v0 v1 v2 lv l0 l1 l2 hh => sX11_lapse_21b  (sX11_lapse_21  k) l0 l1 l2 hh
def fX11_lapse (n : Nat) (h : ai_H) (a0 : Nat) (a1 : Int32) : Option (Int32 × ai_H) :=
  (kO n h a0 11).bind fun _ =>
  (sF n h a0 11 2 (.int) (.int (0 : Int32))).bind fun h1 =>
  (fX11_isPath n h1 a0 a1).bind fun q2 =>
  if ¬ q2.1 = 0 then (
    (fX11_layTried n q2.2 a0).bind fun q3 =>
    fX11_lapse_21 n bi_K q3.2 a0 a1 (0 : Int32))
  else (
    some ((-1 : Int32), q2.2))
theorem gX11_lapse {n : Nat} {h : ai_H} {a0 : Nat} {a1 : Int32} {q : Int32 × ai_H} (hh : fX11_lapse n h a0 a1 = some q) : kO n h a0 11 = some () := by
  obtain ⟨_, e, -⟩ := bi_bd hh
  exact e
theorem sX11_lapse {n : Nat} {h : ai_H} {a0 : Nat} {a1 : Int32} {q : Int32 × ai_H} (hh : fX11_lapse n h a0 a1 = some q) : bi_sp 7 216 [.ref a0, .int a1] h n (fI n q) := by
  refine bi_en (D := 6) (T := tX11_lapse) (funext fun pc => rfl) rfl (Nat.le_of_ble_eq_true rfl) ?_
  unfold fX11_lapse at hh
  obtain ⟨_, eO, hh⟩ := bi_bd hh
  refine go_al (pc := 0) rfl (rfl : ai_ld 0 (lv_args 0 [.ref a0, .int a1]) = some (.ref a0)) ?_
  refine go_pi (pc := 1) rfl ?_
  obtain ⟨h1, eh1, hh⟩ := bi_bd hh
  refine go_pf (pc := 2) rfl eh1 ?_
  refine go_al (pc := 5) rfl (rfl : ai_ld 0 (lv_args 0 [.ref a0, .int a1]) = some (.ref a0)) ?_
  refine go_il (pc := 6) rfl (rfl : ai_ld 1 (lv_args 0 [.ref a0, .int a1]) = some (.int a1)) ?_
  obtain ⟨q2, eq2, hh⟩ := bi_bd hh
  refine go_ivI (pc := 7) rfl rfl (gX11_isPath eq2) (Nat.le_of_ble_eq_true rfl) (bi_up (sX11_isPath eq2) (Nat.le_of_ble_eq_true rfl)) ?_
  refine bi_ite hh (fun hc hh => ?_) (fun hc hh => ?_)
  · refine go_ifneT (pc := 10) rfl hc ?_
    refine go_al (pc := 15) rfl (rfl : ai_ld 0 (lv_args 0 [.ref a0, .int a1]) = some (.ref a0)) ?_
    obtain ⟨q3, eq3, hh⟩ := bi_bd hh
    refine go_ivV (pc := 16) rfl rfl (gX11_layTried eq3) (Nat.le_of_ble_eq_true rfl) (bi_up (sX11_layTried eq3) (Nat.le_of_ble_eq_true rfl)) ?_
    refine go_pi (pc := 19) rfl ?_
    refine go_is (pc := 20) rfl ?_
    exact sX11_lapse_21  _ _ _ _ _ _ (bi_k1 (rfl : ai_ld 0 (lv_args 0 [.ref a0, .int a1]) = some (.ref a0)) rfl rfl) (bi_k1 (rfl : ai_ld 1 (lv_args 0 [.ref a0, .int a1]) = some (.int a1)) rfl rfl) bi_e1 hh
  · refine go_ifneF (pc := 10) rfl hc ?_
    refine go_pi (pc := 13) rfl ?_
    exact go_ri (pc := 14) rfl hh
def fX11_isOpen (n : Nat) (h : ai_H) (a0 : Nat) (a1 : Int32) (a2 : Int32) : Option (Int32 × ai_H) :=
  (kO n h a0 11).bind fun _ =>
  (pR n h a0 11 63).bind fun x1 =>
  (gB n h x1 a1).bind fun x2 =>
  if x2 = 0 then (
    some ((0 : Int32), h))
  else (
    (pR n h a0 11 31).bind fun x3 =>
    (gX 1 n h x3 a1).bind fun x4 =>
    (pR n h a0 11 35).bind fun x5 =>
    (gX 1 n h x5 a2).bind fun x6 =>
    if x6 < x4 then (
      some ((0 : Int32), h))
    else (
      some ((1 : Int32), h)))
theorem gX11_isOpen {n : Nat} {h : ai_H} {a0 : Nat} {a1 : Int32} {a2 : Int32} {q : Int32 × ai_H} (hh : fX11_isOpen n h a0 a1 a2 = some q) : kO n h a0 11 = some () := by
  obtain ⟨_, e, -⟩ := bi_bd hh
  exact e
theorem sX11_isOpen {n : Nat} {h : ai_H} {a0 : Nat} {a1 : Int32} {a2 : Int32} {q : Int32 × ai_H} (hh : fX11_isOpen n h a0 a1 a2 = some q) : bi_sp 1 217 [.ref a0, .int a1, .int a2] h n (fI n q) := by
  refine bi_en (D := 0) (T := tX11_isOpen) (funext fun pc => rfl) rfl (Nat.le_of_ble_eq_true rfl) ?_
  unfold fX11_isOpen at hh
  obtain ⟨_, eO, hh⟩ := bi_bd hh
  refine go_al (pc := 0) rfl (rfl : ai_ld 0 (lv_args 0 [.ref a0, .int a1, .int a2]) = some (.ref a0)) ?_
  obtain ⟨x1, ex1, hh⟩ := bi_bd hh
  refine go_gfR (pc := 1) rfl ex1 ?_
  refine go_il (pc := 4) rfl (rfl : ai_ld 1 (lv_args 0 [.ref a0, .int a1, .int a2]) = some (.int a1)) ?_
  obtain ⟨x2, ex2, hh⟩ := bi_bd hh
  refine go_bald (pc := 5) rfl ex2 ?_
  refine bi_ite hh (fun hc hh => ?_) (fun hc hh => ?_)
  · refine go_ifeqT (pc := 6) rfl hc ?_
    refine go_pi (pc := 28) rfl ?_
    exact go_rz (pc := 29) rfl bi_z0 hh
  · refine go_ifeqF (pc := 6) rfl hc ?_
    refine go_al (pc := 9) rfl (rfl : ai_ld 0 (lv_args 0 [.ref a0, .int a1, .int a2]) = some (.ref a0)) ?_
    obtain ⟨x3, ex3, hh⟩ := bi_bd hh
    refine go_gfR (pc := 10) rfl ex3 ?_
    refine go_il (pc := 13) rfl (rfl : ai_ld 1 (lv_args 0 [.ref a0, .int a1, .int a2]) = some (.int a1)) ?_
    obtain ⟨x4, ex4, hh⟩ := bi_bd hh
    refine go_iald (pc := 14) rfl ex4 ?_
    refine go_al (pc := 15) rfl (rfl : ai_ld 0 (lv_args 0 [.ref a0, .int a1, .int a2]) = some (.ref a0)) ?_
    obtain ⟨x5, ex5, hh⟩ := bi_bd hh
    refine go_gfR (pc := 16) rfl ex5 ?_
    refine go_il (pc := 19) rfl (rfl : ai_ld 2 (lv_args 0 [.ref a0, .int a1, .int a2]) = some (.int a2)) ?_
    obtain ⟨x6, ex6, hh⟩ := bi_bd hh
    refine go_iald (pc := 20) rfl ex6 ?_
    refine bi_ite hh (fun hc hh => ?_) (fun hc hh => ?_)
    · refine go_cmpgtT (pc := 21) rfl hc ?_
      refine go_pi (pc := 28) rfl ?_
      exact go_rz (pc := 29) rfl bi_z0 hh
    · refine go_cmpgtF (pc := 21) rfl hc ?_
      refine go_pi (pc := 24) rfl ?_
      refine go_goto (pc := 25) rfl ?_
      exact go_rz (pc := 29) rfl bi_z1 hh
def fX11_otherEnd (n : Nat) (h : ai_H) (a0 : Nat) (a1 : Int32) (a2 : Int32) : Option (Int32 × ai_H) :=
  (kO n h a0 11).bind fun _ =>
  (pR n h a0 11 28).bind fun x1 =>
  (gX 1 n h x1 a1).bind fun x2 =>
  if ¬ x2 = a2 then (
    (pR n h a0 11 28).bind fun x3 =>
    (gX 1 n h x3 a1).bind fun x4 =>
    some (x4, h))
  else (
    (pR n h a0 11 29).bind fun x5 =>
    (gX 1 n h x5 a1).bind fun x6 =>
    some (x6, h))
theorem gX11_otherEnd {n : Nat} {h : ai_H} {a0 : Nat} {a1 : Int32} {a2 : Int32} {q : Int32 × ai_H} (hh : fX11_otherEnd n h a0 a1 a2 = some q) : kO n h a0 11 = some () := by
  obtain ⟨_, e, -⟩ := bi_bd hh
  exact e
theorem sX11_otherEnd {n : Nat} {h : ai_H} {a0 : Nat} {a1 : Int32} {a2 : Int32} {q : Int32 × ai_H} (hh : fX11_otherEnd n h a0 a1 a2 = some q) : bi_sp 1 218 [.ref a0, .int a1, .int a2] h n (fI n q) := by
  refine bi_en (D := 0) (T := tX11_otherEnd) (funext fun pc => rfl) rfl (Nat.le_of_ble_eq_true rfl) ?_
  unfold fX11_otherEnd at hh
  obtain ⟨_, eO, hh⟩ := bi_bd hh
  refine go_al (pc := 0) rfl (rfl : ai_ld 0 (lv_args 0 [.ref a0, .int a1, .int a2]) = some (.ref a0)) ?_
  obtain ⟨x1, ex1, hh⟩ := bi_bd hh
  refine go_gfR (pc := 1) rfl ex1 ?_
  refine go_il (pc := 4) rfl (rfl : ai_ld 1 (lv_args 0 [.ref a0, .int a1, .int a2]) = some (.int a1)) ?_
  obtain ⟨x2, ex2, hh⟩ := bi_bd hh
  refine go_iald (pc := 5) rfl ex2 ?_
  refine go_il (pc := 6) rfl (rfl : ai_ld 2 (lv_args 0 [.ref a0, .int a1, .int a2]) = some (.int a2)) ?_
  refine bi_ite hh (fun hc hh => ?_) (fun hc hh => ?_)
  · refine go_cmpneT (pc := 7) rfl hc ?_
    refine go_al (pc := 19) rfl (rfl : ai_ld 0 (lv_args 0 [.ref a0, .int a1, .int a2]) = some (.ref a0)) ?_
    obtain ⟨x3, ex3, hh⟩ := bi_bd hh
    refine go_gfR (pc := 20) rfl ex3 ?_
    refine go_il (pc := 23) rfl (rfl : ai_ld 1 (lv_args 0 [.ref a0, .int a1, .int a2]) = some (.int a1)) ?_
    obtain ⟨x4, ex4, hh⟩ := bi_bd hh
    refine go_iald (pc := 24) rfl ex4 ?_
    exact go_ri (pc := 25) rfl hh
  · refine go_cmpneF (pc := 7) rfl hc ?_
    refine go_al (pc := 10) rfl (rfl : ai_ld 0 (lv_args 0 [.ref a0, .int a1, .int a2]) = some (.ref a0)) ?_
    obtain ⟨x5, ex5, hh⟩ := bi_bd hh
    refine go_gfR (pc := 11) rfl ex5 ?_
    refine go_il (pc := 14) rfl (rfl : ai_ld 1 (lv_args 0 [.ref a0, .int a1, .int a2]) = some (.int a1)) ?_
    obtain ⟨x6, ex6, hh⟩ := bi_bd hh
    refine go_iald (pc := 15) rfl ex6 ?_
    refine go_goto (pc := 16) rfl ?_
    exact go_ri (pc := 25) rfl hh
def fX11_takesMore (n : Nat) (h : ai_H) (a0 : Nat) (a1 : Int32) (a2 : Int32) (a3 : Int32) : Option (Int32 × ai_H) :=
  (kO n h a0 11).bind fun _ =>
  if ¬ a3 = 0 then (
    if a2 ≤ a3 then (
      (rI a1 (100 : Int32)).bind fun x1 =>
      if a3 < (x1 + a2) then (
        (dI a1 (100 : Int32)).bind fun x2 =>
        some (((x2 * (100 : Int32)) + (100 : Int32)) + a2, h))
      else (
        some (a1 + a2, h)))
    else (
      some ((-1 : Int32), h)))
  else (
    some (a1 + a2, h))
theorem gX11_takesMore {n : Nat} {h : ai_H} {a0 : Nat} {a1 : Int32} {a2 : Int32} {a3 : Int32} {q : Int32 × ai_H} (hh : fX11_takesMore n h a0 a1 a2 a3 = some q) : kO n h a0 11 = some () := by
  obtain ⟨_, e, -⟩ := bi_bd hh
  exact e
theorem sX11_takesMore {n : Nat} {h : ai_H} {a0 : Nat} {a1 : Int32} {a2 : Int32} {a3 : Int32} {q : Int32 × ai_H} (hh : fX11_takesMore n h a0 a1 a2 a3 = some q) : bi_sp 1 219 [.ref a0, .int a1, .int a2, .int a3] h n (fI n q) := by
  refine bi_en (D := 0) (T := tX11_takesMore) (funext fun pc => rfl) rfl (Nat.le_of_ble_eq_true rfl) ?_
  unfold fX11_takesMore at hh
  obtain ⟨_, eO, hh⟩ := bi_bd hh
  refine go_il (pc := 0) rfl (rfl : ai_ld 3 (lv_args 0 [.ref a0, .int a1, .int a2, .int a3]) = some (.int a3)) ?_
  refine bi_ite hh (fun hc hh => ?_) (fun hc hh => ?_)
  · refine go_ifneT (pc := 1) rfl hc ?_
    refine go_il (pc := 8) rfl (rfl : ai_ld 2 (lv_args 0 [.ref a0, .int a1, .int a2, .int a3]) = some (.int a2)) ?_
    refine go_il (pc := 9) rfl (rfl : ai_ld 3 (lv_args 0 [.ref a0, .int a1, .int a2, .int a3]) = some (.int a3)) ?_
    refine bi_ite hh (fun hc hh => ?_) (fun hc hh => ?_)
    · refine go_cmpleT (pc := 10) rfl hc ?_
      refine go_il (pc := 15) rfl (rfl : ai_ld 1 (lv_args 0 [.ref a0, .int a1, .int a2, .int a3]) = some (.int a1)) ?_
      refine go_pi (pc := 16) rfl ?_
      obtain ⟨x1, ex1, hh⟩ := bi_bd hh
      refine go_irem (pc := 18) rfl ex1 ?_
      refine go_il (pc := 19) rfl (rfl : ai_ld 2 (lv_args 0 [.ref a0, .int a1, .int a2, .int a3]) = some (.int a2)) ?_
      refine go_iadd (pc := 20) rfl ?_
      refine go_il (pc := 21) rfl (rfl : ai_ld 3 (lv_args 0 [.ref a0, .int a1, .int a2, .int a3]) = some (.int a3)) ?_
      refine bi_ite hh (fun hc hh => ?_) (fun hc hh => ?_)
      · refine go_cmpgtT (pc := 22) rfl hc ?_
        refine go_il (pc := 31) rfl (rfl : ai_ld 1 (lv_args 0 [.ref a0, .int a1, .int a2, .int a3]) = some (.int a1)) ?_
        refine go_pi (pc := 32) rfl ?_
        obtain ⟨x2, ex2, hh⟩ := bi_bd hh
        refine go_idiv (pc := 34) rfl ex2 ?_
        refine go_pi (pc := 35) rfl ?_
        refine go_imul (pc := 37) rfl ?_
        refine go_pi (pc := 38) rfl ?_
        refine go_iadd (pc := 40) rfl ?_
        refine go_il (pc := 41) rfl (rfl : ai_ld 2 (lv_args 0 [.ref a0, .int a1, .int a2, .int a3]) = some (.int a2)) ?_
        refine go_iadd (pc := 42) rfl ?_
        exact go_ri (pc := 43) rfl hh
      · refine go_cmpgtF (pc := 22) rfl hc ?_
        refine go_il (pc := 25) rfl (rfl : ai_ld 1 (lv_args 0 [.ref a0, .int a1, .int a2, .int a3]) = some (.int a1)) ?_
        refine go_il (pc := 26) rfl (rfl : ai_ld 2 (lv_args 0 [.ref a0, .int a1, .int a2, .int a3]) = some (.int a2)) ?_
        refine go_iadd (pc := 27) rfl ?_
        refine go_goto (pc := 28) rfl ?_
        exact go_ri (pc := 43) rfl hh
    · refine go_cmpleF (pc := 10) rfl hc ?_
      refine go_pi (pc := 13) rfl ?_
      exact go_ri (pc := 14) rfl hh
  · refine go_ifneF (pc := 1) rfl hc ?_
    refine go_il (pc := 4) rfl (rfl : ai_ld 1 (lv_args 0 [.ref a0, .int a1, .int a2, .int a3]) = some (.int a1)) ?_
    refine go_il (pc := 5) rfl (rfl : ai_ld 2 (lv_args 0 [.ref a0, .int a1, .int a2, .int a3]) = some (.int a2)) ?_
    refine go_iadd (pc := 6) rfl ?_
    exact go_ri (pc := 7) rfl hh
