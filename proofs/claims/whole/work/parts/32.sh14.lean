/-! ===== methods as functions, part 14 ===== -/
def fX11_number (n : Nat) (h : ai_H) (a0 : Nat) (a1 : Int32) (a2 : Int32) : Option (Int32 × ai_H) :=
  (kO n h a0 11).bind fun _ =>
  (pI n h a0 11 8).bind fun x1 =>
  if x1 = (3 : Int32) then (
    (pI n h a0 11 9).bind fun x2 =>
    (fX11_isIn n h x2 a1 a2).bind fun q3 =>
    if ¬ q3.1 = 0 then (
      (pI n q3.2 a0 11 9).bind fun x4 =>
      (sF n q3.2 a0 11 11 (.int) (.int x4)).bind fun h5 =>
      (fX11_token n h5 a0).bind fun q6 =>
      some ((1 : Int32), q6.2))
    else (
      (fX11_wrong n q3.2 a0 (2 : Int32)).bind fun q7 =>
      (gZ q7.1).bind fun _ =>
      some (q7.1, q7.2)))
  else (
    (fX11_wrong n h a0 (1 : Int32)).bind fun q8 =>
    (gZ q8.1).bind fun _ =>
    some (q8.1, q8.2))
theorem gX11_number {n : Nat} {h : ai_H} {a0 : Nat} {a1 : Int32} {a2 : Int32} {q : Int32 × ai_H} (hh : fX11_number n h a0 a1 a2 = some q) : kO n h a0 11 = some () := by
  obtain ⟨_, e, -⟩ := bi_bd hh
  exact e
theorem sX11_number {n : Nat} {h : ai_H} {a0 : Nat} {a1 : Int32} {a2 : Int32} {q : Int32 × ai_H} (hh : fX11_number n h a0 a1 a2 = some q) : bi_sp 3 154 [.ref a0, .int a1, .int a2] h n (fI n q) := by
  refine bi_en (D := 2) (T := tX11_number) (funext fun pc => rfl) rfl (Nat.le_of_ble_eq_true rfl) ?_
  unfold fX11_number at hh
  obtain ⟨_, eO, hh⟩ := bi_bd hh
  refine go_al (pc := 0) rfl (rfl : ai_ld 0 (lv_args 0 [.ref a0, .int a1, .int a2]) = some (.ref a0)) ?_
  obtain ⟨x1, ex1, hh⟩ := bi_bd hh
  refine go_gfI (pc := 1) rfl ex1 ?_
  refine go_pi (pc := 4) rfl ?_
  refine bi_ite hh (fun hc hh => ?_) (fun hc hh => ?_)
  · refine go_cmpeqT (pc := 5) rfl hc ?_
    refine go_al (pc := 14) rfl (rfl : ai_ld 0 (lv_args 0 [.ref a0, .int a1, .int a2]) = some (.ref a0)) ?_
    obtain ⟨x2, ex2, hh⟩ := bi_bd hh
    refine go_gfI (pc := 15) rfl ex2 ?_
    refine go_il (pc := 18) rfl (rfl : ai_ld 1 (lv_args 0 [.ref a0, .int a1, .int a2]) = some (.int a1)) ?_
    refine go_il (pc := 19) rfl (rfl : ai_ld 2 (lv_args 0 [.ref a0, .int a1, .int a2]) = some (.int a2)) ?_
    obtain ⟨q3, eq3, hh⟩ := bi_bd hh
    refine go_iSI (pc := 20) rfl (Nat.le_of_ble_eq_true rfl) rfl (Nat.le_of_ble_eq_true rfl) (bi_up (sX11_isIn eq3) (Nat.le_of_ble_eq_true rfl)) ?_
    refine bi_ite hh (fun hc hh => ?_) (fun hc hh => ?_)
    · refine go_ifneT (pc := 23) rfl hc ?_
      refine go_al (pc := 32) rfl (rfl : ai_ld 0 (lv_args 0 [.ref a0, .int a1, .int a2]) = some (.ref a0)) ?_
      refine go_al (pc := 33) rfl (rfl : ai_ld 0 (lv_args 0 [.ref a0, .int a1, .int a2]) = some (.ref a0)) ?_
      obtain ⟨x4, ex4, hh⟩ := bi_bd hh
      refine go_gfI (pc := 34) rfl ex4 ?_
      obtain ⟨h5, eh5, hh⟩ := bi_bd hh
      refine go_pf (pc := 37) rfl eh5 ?_
      refine go_al (pc := 40) rfl (rfl : ai_ld 0 (lv_args 0 [.ref a0, .int a1, .int a2]) = some (.ref a0)) ?_
      obtain ⟨q6, eq6, hh⟩ := bi_bd hh
      refine go_ivV (pc := 41) rfl rfl (gX11_token eq6) (Nat.le_of_ble_eq_true rfl) (bi_up (sX11_token eq6) (Nat.le_of_ble_eq_true rfl)) ?_
      refine go_pi (pc := 44) rfl ?_
      exact go_rz (pc := 45) rfl bi_z1 hh
    · refine go_ifneF (pc := 23) rfl hc ?_
      refine go_al (pc := 26) rfl (rfl : ai_ld 0 (lv_args 0 [.ref a0, .int a1, .int a2]) = some (.ref a0)) ?_
      refine go_pi (pc := 27) rfl ?_
      obtain ⟨q7, eq7, hh⟩ := bi_bd hh
      refine go_ivI (pc := 28) rfl rfl (gX11_wrong eq7) (Nat.le_of_ble_eq_true rfl) (bi_up (sX11_wrong eq7) (Nat.le_of_ble_eq_true rfl)) ?_
      obtain ⟨_, ez, hh⟩ := bi_bd hh
      exact go_rz (pc := 31) rfl ez hh
  · refine go_cmpeqF (pc := 5) rfl hc ?_
    refine go_al (pc := 8) rfl (rfl : ai_ld 0 (lv_args 0 [.ref a0, .int a1, .int a2]) = some (.ref a0)) ?_
    refine go_pi (pc := 9) rfl ?_
    obtain ⟨q8, eq8, hh⟩ := bi_bd hh
    refine go_ivI (pc := 10) rfl rfl (gX11_wrong eq8) (Nat.le_of_ble_eq_true rfl) (bi_up (sX11_wrong eq8) (Nat.le_of_ble_eq_true rfl)) ?_
    obtain ⟨_, ez, hh⟩ := bi_bd hh
    exact go_rz (pc := 13) rfl ez hh
def fX11_find_3b (n : Nat) (r3 : ai_H → Nat → Int32 → Int32 → Int32 → Int32 → Option (Int32 × ai_H)) (h : ai_H) (v0 : Nat) (v1 : Int32) (v2 : Int32) (v3 : Int32) (v4 : Int32) : Option (Int32 × ai_H) :=
  if v2 ≤ v4 then (
    some ((-1 : Int32), h))
  else (
    (gX 1 n h v0 (v1 + v4)).bind fun x1 =>
    if ¬ x1 = v3 then (
      r3 h v0 v1 v2 v3 (v4 + 1))
    else (
      some (v4, h)))
theorem sX11_find_3b {n : Nat} {r3 : ai_H → Nat → Int32 → Int32 → Int32 → Int32 → Option (Int32 × ai_H)} {q : Int32 × ai_H} {h : ai_H} {v0 : Nat} {v1 : Int32} {v2 : Int32} {v3 : Int32} {v4 : Int32} {lv : ai_L} (R3 : ∀ (h : ai_H) (v0 : Nat) (v1 : Int32) (v2 : Int32) (v3 : Int32) (v4 : Int32) (lv : ai_L), ai_ld 0 lv = some (.ref v0) → ai_ld 1 lv = some (.int v1) → ai_ld 2 lv = some (.int v2) → ai_ld 3 lv = some (.int v3) → ai_ld 4 lv = some (.int v4) → r3 h v0 v1 v2 v3 v4 = some q → bi_go 0 tX11_find n (fI n q) 3 lv [] h) (l0 : ai_ld 0 lv = some (.ref v0)) (l1 : ai_ld 1 lv = some (.int v1)) (l2 : ai_ld 2 lv = some (.int v2)) (l3 : ai_ld 3 lv = some (.int v3)) (l4 : ai_ld 4 lv = some (.int v4)) (hh : fX11_find_3b n r3 h v0 v1 v2 v3 v4 = some q) : bi_go 0 tX11_find n (fI n q) 3 lv [] h := by
  unfold fX11_find_3b at hh
  refine go_il (pc := 3) rfl l4 ?_
  refine go_il (pc := 5) rfl l2 ?_
  refine bi_ite hh (fun hc hh => ?_) (fun hc hh => ?_)
  · refine go_cmpgeT (pc := 6) rfl hc ?_
    refine go_pi (pc := 28) rfl ?_
    exact go_ri (pc := 29) rfl hh
  · refine go_cmpgeF (pc := 6) rfl hc ?_
    refine go_al (pc := 9) rfl l0 ?_
    refine go_il (pc := 10) rfl l1 ?_
    refine go_il (pc := 11) rfl l4 ?_
    refine go_iadd (pc := 13) rfl ?_
    obtain ⟨x1, ex1, hh⟩ := bi_bd hh
    refine go_iald (pc := 14) rfl ex1 ?_
    refine go_il (pc := 15) rfl l3 ?_
    refine bi_ite hh (fun hc hh => ?_) (fun hc hh => ?_)
    · refine go_cmpneT (pc := 16) rfl hc ?_
      refine go_inc (pc := 22) rfl l4 ?_
      refine go_goto (pc := 25) rfl ?_
      exact R3 _ _ _ _ _ _ _ (bi_k1 l0 rfl rfl) (bi_k1 l1 rfl rfl) (bi_k1 l2 rfl rfl) (bi_k1 l3 rfl rfl) bi_e1 hh
    · refine go_cmpneF (pc := 16) rfl hc ?_
      refine go_il (pc := 19) rfl l4 ?_
      exact go_ri (pc := 21) rfl hh
def fX11_find_3 (n : Nat) : Nat → ai_H → Nat → Int32 → Int32 → Int32 → Int32 → Option (Int32 × ai_H)
  | 0 => fun _ _ _ _ _ _ => none
  | k + 1 => fun h v0 v1 v2 v3 v4 => fX11_find_3b n (fX11_find_3 n k) h v0 v1 v2 v3 v4
theorem sX11_find_3 {n : Nat} {q : Int32 × ai_H} : ∀ (k : Nat) (h : ai_H) (v0 : Nat) (v1 : Int32) (v2 : Int32) (v3 : Int32) (v4 : Int32) (lv : ai_L), ai_ld 0 lv = some (.ref v0) → ai_ld 1 lv = some (.int v1) → ai_ld 2 lv = some (.int v2) → ai_ld 3 lv = some (.int v3) → ai_ld 4 lv = some (.int v4) → fX11_find_3 n k h v0 v1 v2 v3 v4 = some q → bi_go 0 tX11_find n (fI n q) 3 lv [] h
  | 0 => fun _ _ _ _ _ _ _ _ _ _ _ _ hh => by cases hh
  | k + 1 => fun h v0 v1 v2 v3 v4 lv l0 l1 l2 l3 l4 hh => sX11_find_3b  (sX11_find_3  k) l0 l1 l2 l3 l4 hh
def fX11_find (n : Nat) (h : ai_H) (a0 : Nat) (a1 : Int32) (a2 : Int32) (a3 : Int32) : Option (Int32 × ai_H) :=
  fX11_find_3 n bi_K h a0 a1 a2 a3 (0 : Int32)
theorem sX11_find {n : Nat} {h : ai_H} {a0 : Nat} {a1 : Int32} {a2 : Int32} {a3 : Int32} {q : Int32 × ai_H} (hh : fX11_find n h a0 a1 a2 a3 = some q) : bi_sp 1 158 [.ref a0, .int a1, .int a2, .int a3] h n (fI n q) := by
  refine bi_en (D := 0) (T := tX11_find) (funext fun pc => rfl) rfl (Nat.le_of_ble_eq_true rfl) ?_
  unfold fX11_find at hh
  refine go_pi (pc := 0) rfl ?_
  refine go_is (pc := 1) rfl ?_
  exact sX11_find_3  _ _ _ _ _ _ _ _ (bi_k1 (rfl : ai_ld 0 (lv_args 0 [.ref a0, .int a1, .int a2, .int a3]) = some (.ref a0)) rfl rfl) (bi_k1 (rfl : ai_ld 1 (lv_args 0 [.ref a0, .int a1, .int a2, .int a3]) = some (.int a1)) rfl rfl) (bi_k1 (rfl : ai_ld 2 (lv_args 0 [.ref a0, .int a1, .int a2, .int a3]) = some (.int a2)) rfl rfl) (bi_k1 (rfl : ai_ld 3 (lv_args 0 [.ref a0, .int a1, .int a2, .int a3]) = some (.int a3)) rfl rfl) bi_e1 hh
def fX11_newName (n : Nat) (h : ai_H) (a0 : Nat) (a1 : Nat) (a2 : Int32) (a3 : Int32) : Option (Int32 × ai_H) :=
  (kO n h a0 11).bind fun _ =>
  (pI n h a0 11 8).bind fun x1 =>
  if x1 = (2 : Int32) then (
    (pI n h a0 11 9).bind fun x2 =>
    (fX11_find n h a1 a2 a3 x2).bind fun q3 =>
    if q3.1 < 0 then (
      (pI n q3.2 a0 11 9).bind fun x4 =>
      (wX 1 (fun x => x) n q3.2 a1 (a2 + a3) x4).bind fun h5 =>
      (fX11_token n h5 a0).bind fun q6 =>
      some ((1 : Int32), q6.2))
    else (
      (fX11_wrong n q3.2 a0 (3 : Int32)).bind fun q7 =>
      (gZ q7.1).bind fun _ =>
      some (q7.1, q7.2)))
  else (
    (fX11_wrong n h a0 (1 : Int32)).bind fun q8 =>
    (gZ q8.1).bind fun _ =>
    some (q8.1, q8.2))
theorem gX11_newName {n : Nat} {h : ai_H} {a0 : Nat} {a1 : Nat} {a2 : Int32} {a3 : Int32} {q : Int32 × ai_H} (hh : fX11_newName n h a0 a1 a2 a3 = some q) : kO n h a0 11 = some () := by
  obtain ⟨_, e, -⟩ := bi_bd hh
  exact e
theorem sX11_newName {n : Nat} {h : ai_H} {a0 : Nat} {a1 : Nat} {a2 : Int32} {a3 : Int32} {q : Int32 × ai_H} (hh : fX11_newName n h a0 a1 a2 a3 = some q) : bi_sp 3 159 [.ref a0, .ref a1, .int a2, .int a3] h n (fI n q) := by
  refine bi_en (D := 2) (T := tX11_newName) (funext fun pc => rfl) rfl (Nat.le_of_ble_eq_true rfl) ?_
  unfold fX11_newName at hh
  obtain ⟨_, eO, hh⟩ := bi_bd hh
  refine go_al (pc := 0) rfl (rfl : ai_ld 0 (lv_args 0 [.ref a0, .ref a1, .int a2, .int a3]) = some (.ref a0)) ?_
  obtain ⟨x1, ex1, hh⟩ := bi_bd hh
  refine go_gfI (pc := 1) rfl ex1 ?_
  refine go_pi (pc := 4) rfl ?_
  refine bi_ite hh (fun hc hh => ?_) (fun hc hh => ?_)
  · refine go_cmpeqT (pc := 5) rfl hc ?_
    refine go_al (pc := 14) rfl (rfl : ai_ld 1 (lv_args 0 [.ref a0, .ref a1, .int a2, .int a3]) = some (.ref a1)) ?_
    refine go_il (pc := 15) rfl (rfl : ai_ld 2 (lv_args 0 [.ref a0, .ref a1, .int a2, .int a3]) = some (.int a2)) ?_
    refine go_il (pc := 16) rfl (rfl : ai_ld 3 (lv_args 0 [.ref a0, .ref a1, .int a2, .int a3]) = some (.int a3)) ?_
    refine go_al (pc := 17) rfl (rfl : ai_ld 0 (lv_args 0 [.ref a0, .ref a1, .int a2, .int a3]) = some (.ref a0)) ?_
    obtain ⟨x2, ex2, hh⟩ := bi_bd hh
    refine go_gfI (pc := 18) rfl ex2 ?_
    obtain ⟨q3, eq3, hh⟩ := bi_bd hh
    refine go_iSI (pc := 21) rfl (Nat.le_of_ble_eq_true rfl) rfl (Nat.le_of_ble_eq_true rfl) (bi_up (sX11_find eq3) (Nat.le_of_ble_eq_true rfl)) ?_
    refine bi_ite hh (fun hc hh => ?_) (fun hc hh => ?_)
    · refine go_ifltT (pc := 24) rfl hc ?_
      refine go_al (pc := 33) rfl (rfl : ai_ld 1 (lv_args 0 [.ref a0, .ref a1, .int a2, .int a3]) = some (.ref a1)) ?_
      refine go_il (pc := 34) rfl (rfl : ai_ld 2 (lv_args 0 [.ref a0, .ref a1, .int a2, .int a3]) = some (.int a2)) ?_
      refine go_il (pc := 35) rfl (rfl : ai_ld 3 (lv_args 0 [.ref a0, .ref a1, .int a2, .int a3]) = some (.int a3)) ?_
      refine go_iadd (pc := 36) rfl ?_
      refine go_al (pc := 37) rfl (rfl : ai_ld 0 (lv_args 0 [.ref a0, .ref a1, .int a2, .int a3]) = some (.ref a0)) ?_
      obtain ⟨x4, ex4, hh⟩ := bi_bd hh
      refine go_gfI (pc := 38) rfl ex4 ?_
      obtain ⟨h5, eh5, hh⟩ := bi_bd hh
      refine go_iast (pc := 41) rfl eh5 ?_
      refine go_al (pc := 42) rfl (rfl : ai_ld 0 (lv_args 0 [.ref a0, .ref a1, .int a2, .int a3]) = some (.ref a0)) ?_
      obtain ⟨q6, eq6, hh⟩ := bi_bd hh
      refine go_ivV (pc := 43) rfl rfl (gX11_token eq6) (Nat.le_of_ble_eq_true rfl) (bi_up (sX11_token eq6) (Nat.le_of_ble_eq_true rfl)) ?_
      refine go_pi (pc := 46) rfl ?_
      exact go_rz (pc := 47) rfl bi_z1 hh
    · refine go_ifltF (pc := 24) rfl hc ?_
      refine go_al (pc := 27) rfl (rfl : ai_ld 0 (lv_args 0 [.ref a0, .ref a1, .int a2, .int a3]) = some (.ref a0)) ?_
      refine go_pi (pc := 28) rfl ?_
      obtain ⟨q7, eq7, hh⟩ := bi_bd hh
      refine go_ivI (pc := 29) rfl rfl (gX11_wrong eq7) (Nat.le_of_ble_eq_true rfl) (bi_up (sX11_wrong eq7) (Nat.le_of_ble_eq_true rfl)) ?_
      obtain ⟨_, ez, hh⟩ := bi_bd hh
      exact go_rz (pc := 32) rfl ez hh
  · refine go_cmpeqF (pc := 5) rfl hc ?_
    refine go_al (pc := 8) rfl (rfl : ai_ld 0 (lv_args 0 [.ref a0, .ref a1, .int a2, .int a3]) = some (.ref a0)) ?_
    refine go_pi (pc := 9) rfl ?_
    obtain ⟨q8, eq8, hh⟩ := bi_bd hh
    refine go_ivI (pc := 10) rfl rfl (gX11_wrong eq8) (Nat.le_of_ble_eq_true rfl) (bi_up (sX11_wrong eq8) (Nat.le_of_ble_eq_true rfl)) ?_
    obtain ⟨_, ez, hh⟩ := bi_bd hh
    exact go_rz (pc := 13) rfl ez hh
def fX11_thereIn (n : Nat) (h : ai_H) (a0 : Nat) (a1 : Nat) (a2 : Int32) (a3 : Int32) : Option (Int32 × ai_H) :=
  (kO n h a0 11).bind fun _ =>
  (pI n h a0 11 8).bind fun x1 =>
  if x1 = (2 : Int32) then (
    (pI n h a0 11 9).bind fun x2 =>
    (fX11_find n h a1 a2 a3 x2).bind fun q3 =>
    if 0 ≤ q3.1 then (
      (fX11_token n q3.2 a0).bind fun q4 =>
      (sF n q4.2 a0 11 11 (.int) (.int q3.1)).bind fun h5 =>
      some ((1 : Int32), h5))
    else (
      (fX11_wrong n q3.2 a0 (4 : Int32)).bind fun q6 =>
      (gZ q6.1).bind fun _ =>
      some (q6.1, q6.2)))
  else (
    (fX11_wrong n h a0 (1 : Int32)).bind fun q7 =>
    (gZ q7.1).bind fun _ =>
    some (q7.1, q7.2))
theorem gX11_thereIn {n : Nat} {h : ai_H} {a0 : Nat} {a1 : Nat} {a2 : Int32} {a3 : Int32} {q : Int32 × ai_H} (hh : fX11_thereIn n h a0 a1 a2 a3 = some q) : kO n h a0 11 = some () := by
  obtain ⟨_, e, -⟩ := bi_bd hh
  exact e
theorem sX11_thereIn {n : Nat} {h : ai_H} {a0 : Nat} {a1 : Nat} {a2 : Int32} {a3 : Int32} {q : Int32 × ai_H} (hh : fX11_thereIn n h a0 a1 a2 a3 = some q) : bi_sp 3 160 [.ref a0, .ref a1, .int a2, .int a3] h n (fI n q) := by
  refine bi_en (D := 2) (T := tX11_thereIn) (funext fun pc => rfl) rfl (Nat.le_of_ble_eq_true rfl) ?_
  unfold fX11_thereIn at hh
  obtain ⟨_, eO, hh⟩ := bi_bd hh
  refine go_al (pc := 0) rfl (rfl : ai_ld 0 (lv_args 0 [.ref a0, .ref a1, .int a2, .int a3]) = some (.ref a0)) ?_
  obtain ⟨x1, ex1, hh⟩ := bi_bd hh
  refine go_gfI (pc := 1) rfl ex1 ?_
  refine go_pi (pc := 4) rfl ?_
  refine bi_ite hh (fun hc hh => ?_) (fun hc hh => ?_)
  · refine go_cmpeqT (pc := 5) rfl hc ?_
    refine go_al (pc := 14) rfl (rfl : ai_ld 1 (lv_args 0 [.ref a0, .ref a1, .int a2, .int a3]) = some (.ref a1)) ?_
    refine go_il (pc := 15) rfl (rfl : ai_ld 2 (lv_args 0 [.ref a0, .ref a1, .int a2, .int a3]) = some (.int a2)) ?_
    refine go_il (pc := 16) rfl (rfl : ai_ld 3 (lv_args 0 [.ref a0, .ref a1, .int a2, .int a3]) = some (.int a3)) ?_
    refine go_al (pc := 17) rfl (rfl : ai_ld 0 (lv_args 0 [.ref a0, .ref a1, .int a2, .int a3]) = some (.ref a0)) ?_
    obtain ⟨x2, ex2, hh⟩ := bi_bd hh
    refine go_gfI (pc := 18) rfl ex2 ?_
    obtain ⟨q3, eq3, hh⟩ := bi_bd hh
    refine go_iSI (pc := 21) rfl (Nat.le_of_ble_eq_true rfl) rfl (Nat.le_of_ble_eq_true rfl) (bi_up (sX11_find eq3) (Nat.le_of_ble_eq_true rfl)) ?_
    refine go_is (pc := 24) rfl ?_
    refine go_il (pc := 26) rfl bi_e1 ?_
    refine bi_ite hh (fun hc hh => ?_) (fun hc hh => ?_)
    · refine go_ifgeT (pc := 28) rfl hc ?_
      refine go_al (pc := 37) rfl (bi_k1 (rfl : ai_ld 0 (lv_args 0 [.ref a0, .ref a1, .int a2, .int a3]) = some (.ref a0)) rfl rfl) ?_
      obtain ⟨q4, eq4, hh⟩ := bi_bd hh
      refine go_ivV (pc := 38) rfl rfl (gX11_token eq4) (Nat.le_of_ble_eq_true rfl) (bi_up (sX11_token eq4) (Nat.le_of_ble_eq_true rfl)) ?_
      refine go_al (pc := 41) rfl (bi_k1 (rfl : ai_ld 0 (lv_args 0 [.ref a0, .ref a1, .int a2, .int a3]) = some (.ref a0)) rfl rfl) ?_
      refine go_il (pc := 42) rfl bi_e1 ?_
      obtain ⟨h5, eh5, hh⟩ := bi_bd hh
      refine go_pf (pc := 44) rfl eh5 ?_
      refine go_pi (pc := 47) rfl ?_
      exact go_rz (pc := 48) rfl bi_z1 hh
    · refine go_ifgeF (pc := 28) rfl hc ?_
      refine go_al (pc := 31) rfl (bi_k1 (rfl : ai_ld 0 (lv_args 0 [.ref a0, .ref a1, .int a2, .int a3]) = some (.ref a0)) rfl rfl) ?_
      refine go_pi (pc := 32) rfl ?_
      obtain ⟨q6, eq6, hh⟩ := bi_bd hh
      refine go_ivI (pc := 33) rfl rfl (gX11_wrong eq6) (Nat.le_of_ble_eq_true rfl) (bi_up (sX11_wrong eq6) (Nat.le_of_ble_eq_true rfl)) ?_
      obtain ⟨_, ez, hh⟩ := bi_bd hh
      exact go_rz (pc := 36) rfl ez hh
  · refine go_cmpeqF (pc := 5) rfl hc ?_
    refine go_al (pc := 8) rfl (rfl : ai_ld 0 (lv_args 0 [.ref a0, .ref a1, .int a2, .int a3]) = some (.ref a0)) ?_
    refine go_pi (pc := 9) rfl ?_
    obtain ⟨q7, eq7, hh⟩ := bi_bd hh
    refine go_ivI (pc := 10) rfl rfl (gX11_wrong eq7) (Nat.le_of_ble_eq_true rfl) (bi_up (sX11_wrong eq7) (Nat.le_of_ble_eq_true rfl)) ?_
    obtain ⟨_, ez, hh⟩ := bi_bd hh
    exact go_rz (pc := 13) rfl ez hh
def fX11_placeLine (n : Nat) (h : ai_H) (a0 : Nat) : Option (Int32 × ai_H) :=
  (kO n h a0 11).bind fun _ =>
  (pI n h a0 11 18).bind fun x1 =>
  if ¬ x1 = (7 : Int32) then (
    (fX11_token n h a0).bind fun q2 =>
    (pR n q2.2 a0 11 26).bind fun x3 =>
    (pI n q2.2 a0 11 18).bind fun x4 =>
    (fX11_newName n q2.2 a0 x3 (7 : Int32) x4).bind fun q5 =>
    if ¬ q5.1 = 0 then (
      (pI n q5.2 a0 11 18).bind fun x6 =>
      (sF n q5.2 a0 11 18 (.int) (.int (x6 + (1 : Int32)))).bind fun h7 =>
      some ((1 : Int32), h7))
    else (
      some ((0 : Int32), q5.2)))
  else (
    (fX11_wrong n h a0 (2 : Int32)).bind fun q8 =>
    (gZ q8.1).bind fun _ =>
    some (q8.1, q8.2))
theorem gX11_placeLine {n : Nat} {h : ai_H} {a0 : Nat} {q : Int32 × ai_H} (hh : fX11_placeLine n h a0 = some q) : kO n h a0 11 = some () := by
  obtain ⟨_, e, -⟩ := bi_bd hh
  exact e
theorem sX11_placeLine {n : Nat} {h : ai_H} {a0 : Nat} {q : Int32 × ai_H} (hh : fX11_placeLine n h a0 = some q) : bi_sp 4 161 [.ref a0] h n (fI n q) := by
  refine bi_en (D := 3) (T := tX11_placeLine) (funext fun pc => rfl) rfl (Nat.le_of_ble_eq_true rfl) ?_
  unfold fX11_placeLine at hh
  obtain ⟨_, eO, hh⟩ := bi_bd hh
  refine go_al (pc := 0) rfl (rfl : ai_ld 0 (lv_args 0 [.ref a0]) = some (.ref a0)) ?_
  obtain ⟨x1, ex1, hh⟩ := bi_bd hh
  refine go_gfI (pc := 1) rfl ex1 ?_
  refine go_pi (pc := 4) rfl ?_
  refine bi_ite hh (fun hc hh => ?_) (fun hc hh => ?_)
  · refine go_cmpneT (pc := 6) rfl hc ?_
    refine go_al (pc := 15) rfl (rfl : ai_ld 0 (lv_args 0 [.ref a0]) = some (.ref a0)) ?_
    obtain ⟨q2, eq2, hh⟩ := bi_bd hh
    refine go_ivV (pc := 16) rfl rfl (gX11_token eq2) (Nat.le_of_ble_eq_true rfl) (bi_up (sX11_token eq2) (Nat.le_of_ble_eq_true rfl)) ?_
    refine go_al (pc := 19) rfl (rfl : ai_ld 0 (lv_args 0 [.ref a0]) = some (.ref a0)) ?_
    refine go_al (pc := 20) rfl (rfl : ai_ld 0 (lv_args 0 [.ref a0]) = some (.ref a0)) ?_
    obtain ⟨x3, ex3, hh⟩ := bi_bd hh
    refine go_gfR (pc := 21) rfl ex3 ?_
    refine go_pi (pc := 24) rfl ?_
    refine go_al (pc := 26) rfl (rfl : ai_ld 0 (lv_args 0 [.ref a0]) = some (.ref a0)) ?_
    obtain ⟨x4, ex4, hh⟩ := bi_bd hh
    refine go_gfI (pc := 27) rfl ex4 ?_
    obtain ⟨q5, eq5, hh⟩ := bi_bd hh
    refine go_ivI (pc := 30) rfl rfl (gX11_newName eq5) (Nat.le_of_ble_eq_true rfl) (bi_up (sX11_newName eq5) (Nat.le_of_ble_eq_true rfl)) ?_
    refine bi_ite hh (fun hc hh => ?_) (fun hc hh => ?_)
    · refine go_ifneT (pc := 33) rfl hc ?_
      refine go_al (pc := 38) rfl (rfl : ai_ld 0 (lv_args 0 [.ref a0]) = some (.ref a0)) ?_
      refine go_dup (pc := 39) rfl rfl ?_
      obtain ⟨x6, ex6, hh⟩ := bi_bd hh
      refine go_gfI (pc := 40) rfl ex6 ?_
      refine go_pi (pc := 43) rfl ?_
      refine go_iadd (pc := 44) rfl ?_
      obtain ⟨h7, eh7, hh⟩ := bi_bd hh
      refine go_pf (pc := 45) rfl eh7 ?_
      refine go_pi (pc := 48) rfl ?_
      exact go_rz (pc := 49) rfl bi_z1 hh
    · refine go_ifneF (pc := 33) rfl hc ?_
      refine go_pi (pc := 36) rfl ?_
      exact go_rz (pc := 37) rfl bi_z0 hh
  · refine go_cmpneF (pc := 6) rfl hc ?_
    refine go_al (pc := 9) rfl (rfl : ai_ld 0 (lv_args 0 [.ref a0]) = some (.ref a0)) ?_
    refine go_pi (pc := 10) rfl ?_
    obtain ⟨q8, eq8, hh⟩ := bi_bd hh
    refine go_ivI (pc := 11) rfl rfl (gX11_wrong eq8) (Nat.le_of_ble_eq_true rfl) (bi_up (sX11_wrong eq8) (Nat.le_of_ble_eq_true rfl)) ?_
    obtain ⟨_, ez, hh⟩ := bi_bd hh
    exact go_rz (pc := 14) rfl ez hh
def fX11_pathLine (n : Nat) (h : ai_H) (a0 : Nat) : Option (Int32 × ai_H) :=
  (kO n h a0 11).bind fun _ =>
  (pI n h a0 11 19).bind fun x1 =>
  if ¬ x1 = (9 : Int32) then (
    (fX11_token n h a0).bind fun q2 =>
    (pR n q2.2 a0 11 27).bind fun x3 =>
    (pI n q2.2 a0 11 19).bind fun x4 =>
    (fX11_newName n q2.2 a0 x3 (9 : Int32) x4).bind fun q5 =>
    if ¬ q5.1 = 0 then (
      (pI n q5.2 a0 11 19).bind fun x6 =>
      (pR n q5.2 a0 11 26).bind fun x7 =>
      (pI n q5.2 a0 11 18).bind fun x8 =>
      (fX11_thereIn n q5.2 a0 x7 (7 : Int32) x8).bind fun q9 =>
      if ¬ q9.1 = 0 then (
        (pR n q9.2 a0 11 28).bind fun x10 =>
        (pI n q9.2 a0 11 11).bind fun x11 =>
        (wX 1 (fun x => x) n q9.2 x10 ((9 : Int32) + x6) x11).bind fun h12 =>
        (pI n h12 a0 11 10).bind fun x13 =>
        (pR n h12 a0 11 26).bind fun x14 =>
        (pI n h12 a0 11 18).bind fun x15 =>
        (fX11_thereIn n h12 a0 x14 (7 : Int32) x15).bind fun q16 =>
        if ¬ q16.1 = 0 then (
          (pI n q16.2 a0 11 11).bind fun x17 =>
          (pR n q16.2 a0 11 28).bind fun x18 =>
          (gX 1 n q16.2 x18 ((9 : Int32) + x6)).bind fun x19 =>
          if ¬ x17 = x19 then (
            (pR n q16.2 a0 11 29).bind fun x20 =>
            (pI n q16.2 a0 11 11).bind fun x21 =>
            (wX 1 (fun x => x) n q16.2 x20 ((9 : Int32) + x6) x21).bind fun h22 =>
            (fX11_number n h22 a0 (1 : Int32) (99 : Int32)).bind fun q23 =>
            if ¬ q23.1 = 0 then (
              (pR n q23.2 a0 11 30).bind fun x24 =>
              (pI n q23.2 a0 11 11).bind fun x25 =>
              (wX 1 (fun x => x) n q23.2 x24 ((9 : Int32) + x6) x25).bind fun h26 =>
              (fX11_number n h26 a0 (0 : Int32) (9 : Int32)).bind fun q27 =>
              if ¬ q27.1 = 0 then (
                (pR n q27.2 a0 11 31).bind fun x28 =>
                (pI n q27.2 a0 11 11).bind fun x29 =>
                (wX 1 (fun x => x) n q27.2 x28 ((9 : Int32) + x6) x29).bind fun h30 =>
                (fX11_number n h30 a0 (0 : Int32) (399 : Int32)).bind fun q31 =>
                if ¬ q31.1 = 0 then (
                  (pR n q31.2 a0 11 32).bind fun x32 =>
                  (pI n q31.2 a0 11 11).bind fun x33 =>
                  (wX 1 (fun x => x) n q31.2 x32 ((9 : Int32) + x6) x33).bind fun h34 =>
                  (pI n h34 a0 11 19).bind fun x35 =>
                  (sF n h34 a0 11 19 (.int) (.int (x35 + (1 : Int32)))).bind fun h36 =>
                  some ((1 : Int32), h36))
                else (
                  some ((0 : Int32), q31.2)))
              else (
                some ((0 : Int32), q27.2)))
            else (
              some ((0 : Int32), q23.2)))
          else (
            (sF n q16.2 a0 11 10 (.int) (.int x13)).bind fun h37 =>
            (fX11_wrong n h37 a0 (5 : Int32)).bind fun q38 =>
            (gZ q38.1).bind fun _ =>
            some (q38.1, q38.2)))
        else (
          some ((0 : Int32), q16.2)))
      else (
        some ((0 : Int32), q9.2)))
    else (
      some ((0 : Int32), q5.2)))
  else (
    (fX11_wrong n h a0 (2 : Int32)).bind fun q39 =>
    (gZ q39.1).bind fun _ =>
    some (q39.1, q39.2))
theorem gX11_pathLine {n : Nat} {h : ai_H} {a0 : Nat} {q : Int32 × ai_H} (hh : fX11_pathLine n h a0 = some q) : kO n h a0 11 = some () := by
  obtain ⟨_, e, -⟩ := bi_bd hh
  exact e
theorem sX11_pathLine {n : Nat} {h : ai_H} {a0 : Nat} {q : Int32 × ai_H} (hh : fX11_pathLine n h a0 = some q) : bi_sp 4 162 [.ref a0] h n (fI n q) := by
  refine bi_en (D := 3) (T := tX11_pathLine) (funext fun pc => rfl) rfl (Nat.le_of_ble_eq_true rfl) ?_
  unfold fX11_pathLine at hh
  obtain ⟨_, eO, hh⟩ := bi_bd hh
  refine go_al (pc := 0) rfl (rfl : ai_ld 0 (lv_args 0 [.ref a0]) = some (.ref a0)) ?_
  obtain ⟨x1, ex1, hh⟩ := bi_bd hh
  refine go_gfI (pc := 1) rfl ex1 ?_
  refine go_pi (pc := 4) rfl ?_
  refine bi_ite hh (fun hc hh => ?_) (fun hc hh => ?_)
  · refine go_cmpneT (pc := 6) rfl hc ?_
    refine go_al (pc := 15) rfl (rfl : ai_ld 0 (lv_args 0 [.ref a0]) = some (.ref a0)) ?_
    obtain ⟨q2, eq2, hh⟩ := bi_bd hh
    refine go_ivV (pc := 16) rfl rfl (gX11_token eq2) (Nat.le_of_ble_eq_true rfl) (bi_up (sX11_token eq2) (Nat.le_of_ble_eq_true rfl)) ?_
    refine go_al (pc := 19) rfl (rfl : ai_ld 0 (lv_args 0 [.ref a0]) = some (.ref a0)) ?_
    refine go_al (pc := 20) rfl (rfl : ai_ld 0 (lv_args 0 [.ref a0]) = some (.ref a0)) ?_
    obtain ⟨x3, ex3, hh⟩ := bi_bd hh
    refine go_gfR (pc := 21) rfl ex3 ?_
    refine go_pi (pc := 24) rfl ?_
    refine go_al (pc := 26) rfl (rfl : ai_ld 0 (lv_args 0 [.ref a0]) = some (.ref a0)) ?_
    obtain ⟨x4, ex4, hh⟩ := bi_bd hh
    refine go_gfI (pc := 27) rfl ex4 ?_
    obtain ⟨q5, eq5, hh⟩ := bi_bd hh
    refine go_ivI (pc := 30) rfl rfl (gX11_newName eq5) (Nat.le_of_ble_eq_true rfl) (bi_up (sX11_newName eq5) (Nat.le_of_ble_eq_true rfl)) ?_
    refine bi_ite hh (fun hc hh => ?_) (fun hc hh => ?_)
    · refine go_ifneT (pc := 33) rfl hc ?_
      refine go_pi (pc := 38) rfl ?_
      refine go_al (pc := 40) rfl (rfl : ai_ld 0 (lv_args 0 [.ref a0]) = some (.ref a0)) ?_
      obtain ⟨x6, ex6, hh⟩ := bi_bd hh
      refine go_gfI (pc := 41) rfl ex6 ?_
      refine go_iadd (pc := 44) rfl ?_
      refine go_is (pc := 45) rfl ?_
      refine go_al (pc := 46) rfl (bi_k1 (rfl : ai_ld 0 (lv_args 0 [.ref a0]) = some (.ref a0)) rfl rfl) ?_
      refine go_al (pc := 47) rfl (bi_k1 (rfl : ai_ld 0 (lv_args 0 [.ref a0]) = some (.ref a0)) rfl rfl) ?_
      obtain ⟨x7, ex7, hh⟩ := bi_bd hh
      refine go_gfR (pc := 48) rfl ex7 ?_
      refine go_pi (pc := 51) rfl ?_
      refine go_al (pc := 53) rfl (bi_k1 (rfl : ai_ld 0 (lv_args 0 [.ref a0]) = some (.ref a0)) rfl rfl) ?_
      obtain ⟨x8, ex8, hh⟩ := bi_bd hh
      refine go_gfI (pc := 54) rfl ex8 ?_
      obtain ⟨q9, eq9, hh⟩ := bi_bd hh
      refine go_ivI (pc := 57) rfl rfl (gX11_thereIn eq9) (Nat.le_of_ble_eq_true rfl) (bi_up (sX11_thereIn eq9) (Nat.le_of_ble_eq_true rfl)) ?_
      refine bi_ite hh (fun hc hh => ?_) (fun hc hh => ?_)
      · refine go_ifneT (pc := 60) rfl hc ?_
        refine go_al (pc := 65) rfl (bi_k1 (rfl : ai_ld 0 (lv_args 0 [.ref a0]) = some (.ref a0)) rfl rfl) ?_
        obtain ⟨x10, ex10, hh⟩ := bi_bd hh
        refine go_gfR (pc := 66) rfl ex10 ?_
        refine go_il (pc := 69) rfl bi_e1 ?_
        refine go_al (pc := 70) rfl (bi_k1 (rfl : ai_ld 0 (lv_args 0 [.ref a0]) = some (.ref a0)) rfl rfl) ?_
        obtain ⟨x11, ex11, hh⟩ := bi_bd hh
        refine go_gfI (pc := 71) rfl ex11 ?_
        obtain ⟨h12, eh12, hh⟩ := bi_bd hh
        refine go_iast (pc := 74) rfl eh12 ?_
        refine go_al (pc := 75) rfl (bi_k1 (rfl : ai_ld 0 (lv_args 0 [.ref a0]) = some (.ref a0)) rfl rfl) ?_
        obtain ⟨x13, ex13, hh⟩ := bi_bd hh
        refine go_gfI (pc := 76) rfl ex13 ?_
        refine go_is (pc := 79) rfl ?_
        refine go_al (pc := 80) rfl (bi_k1 (bi_k1 (rfl : ai_ld 0 (lv_args 0 [.ref a0]) = some (.ref a0)) rfl rfl) rfl rfl) ?_
        refine go_al (pc := 81) rfl (bi_k1 (bi_k1 (rfl : ai_ld 0 (lv_args 0 [.ref a0]) = some (.ref a0)) rfl rfl) rfl rfl) ?_
        obtain ⟨x14, ex14, hh⟩ := bi_bd hh
        refine go_gfR (pc := 82) rfl ex14 ?_
        refine go_pi (pc := 85) rfl ?_
        refine go_al (pc := 87) rfl (bi_k1 (bi_k1 (rfl : ai_ld 0 (lv_args 0 [.ref a0]) = some (.ref a0)) rfl rfl) rfl rfl) ?_
        obtain ⟨x15, ex15, hh⟩ := bi_bd hh
        refine go_gfI (pc := 88) rfl ex15 ?_
        obtain ⟨q16, eq16, hh⟩ := bi_bd hh
        refine go_ivI (pc := 91) rfl rfl (gX11_thereIn eq16) (Nat.le_of_ble_eq_true rfl) (bi_up (sX11_thereIn eq16) (Nat.le_of_ble_eq_true rfl)) ?_
        refine bi_ite hh (fun hc hh => ?_) (fun hc hh => ?_)
        · refine go_ifneT (pc := 94) rfl hc ?_
          refine go_al (pc := 99) rfl (bi_k1 (bi_k1 (rfl : ai_ld 0 (lv_args 0 [.ref a0]) = some (.ref a0)) rfl rfl) rfl rfl) ?_
          obtain ⟨x17, ex17, hh⟩ := bi_bd hh
          refine go_gfI (pc := 100) rfl ex17 ?_
          refine go_al (pc := 103) rfl (bi_k1 (bi_k1 (rfl : ai_ld 0 (lv_args 0 [.ref a0]) = some (.ref a0)) rfl rfl) rfl rfl) ?_
          obtain ⟨x18, ex18, hh⟩ := bi_bd hh
          refine go_gfR (pc := 104) rfl ex18 ?_
          refine go_il (pc := 107) rfl (bi_k1 bi_e1 rfl rfl) ?_
          obtain ⟨x19, ex19, hh⟩ := bi_bd hh
          refine go_iald (pc := 108) rfl ex19 ?_
          refine bi_ite hh (fun hc hh => ?_) (fun hc hh => ?_)
          · refine go_cmpneT (pc := 109) rfl hc ?_
            refine go_al (pc := 123) rfl (bi_k1 (bi_k1 (rfl : ai_ld 0 (lv_args 0 [.ref a0]) = some (.ref a0)) rfl rfl) rfl rfl) ?_
            obtain ⟨x20, ex20, hh⟩ := bi_bd hh
            refine go_gfR (pc := 124) rfl ex20 ?_
            refine go_il (pc := 127) rfl (bi_k1 bi_e1 rfl rfl) ?_
            refine go_al (pc := 128) rfl (bi_k1 (bi_k1 (rfl : ai_ld 0 (lv_args 0 [.ref a0]) = some (.ref a0)) rfl rfl) rfl rfl) ?_
            obtain ⟨x21, ex21, hh⟩ := bi_bd hh
            refine go_gfI (pc := 129) rfl ex21 ?_
            obtain ⟨h22, eh22, hh⟩ := bi_bd hh
            refine go_iast (pc := 132) rfl eh22 ?_
            refine go_al (pc := 133) rfl (bi_k1 (bi_k1 (rfl : ai_ld 0 (lv_args 0 [.ref a0]) = some (.ref a0)) rfl rfl) rfl rfl) ?_
            refine go_pi (pc := 134) rfl ?_
            refine go_pi (pc := 135) rfl ?_
            obtain ⟨q23, eq23, hh⟩ := bi_bd hh
            refine go_ivI (pc := 137) rfl rfl (gX11_number eq23) (Nat.le_of_ble_eq_true rfl) (bi_up (sX11_number eq23) (Nat.le_of_ble_eq_true rfl)) ?_
            refine bi_ite hh (fun hc hh => ?_) (fun hc hh => ?_)
            · refine go_ifneT (pc := 140) rfl hc ?_
              refine go_al (pc := 145) rfl (bi_k1 (bi_k1 (rfl : ai_ld 0 (lv_args 0 [.ref a0]) = some (.ref a0)) rfl rfl) rfl rfl) ?_
              obtain ⟨x24, ex24, hh⟩ := bi_bd hh
              refine go_gfR (pc := 146) rfl ex24 ?_
              refine go_il (pc := 149) rfl (bi_k1 bi_e1 rfl rfl) ?_
              refine go_al (pc := 150) rfl (bi_k1 (bi_k1 (rfl : ai_ld 0 (lv_args 0 [.ref a0]) = some (.ref a0)) rfl rfl) rfl rfl) ?_
              obtain ⟨x25, ex25, hh⟩ := bi_bd hh
              refine go_gfI (pc := 151) rfl ex25 ?_
              obtain ⟨h26, eh26, hh⟩ := bi_bd hh
              refine go_iast (pc := 154) rfl eh26 ?_
              refine go_al (pc := 155) rfl (bi_k1 (bi_k1 (rfl : ai_ld 0 (lv_args 0 [.ref a0]) = some (.ref a0)) rfl rfl) rfl rfl) ?_
              refine go_pi (pc := 156) rfl ?_
              refine go_pi (pc := 157) rfl ?_
              obtain ⟨q27, eq27, hh⟩ := bi_bd hh
              refine go_ivI (pc := 159) rfl rfl (gX11_number eq27) (Nat.le_of_ble_eq_true rfl) (bi_up (sX11_number eq27) (Nat.le_of_ble_eq_true rfl)) ?_
              refine bi_ite hh (fun hc hh => ?_) (fun hc hh => ?_)
              · refine go_ifneT (pc := 162) rfl hc ?_
                refine go_al (pc := 167) rfl (bi_k1 (bi_k1 (rfl : ai_ld 0 (lv_args 0 [.ref a0]) = some (.ref a0)) rfl rfl) rfl rfl) ?_
                obtain ⟨x28, ex28, hh⟩ := bi_bd hh
                refine go_gfR (pc := 168) rfl ex28 ?_
                refine go_il (pc := 171) rfl (bi_k1 bi_e1 rfl rfl) ?_
                refine go_al (pc := 172) rfl (bi_k1 (bi_k1 (rfl : ai_ld 0 (lv_args 0 [.ref a0]) = some (.ref a0)) rfl rfl) rfl rfl) ?_
                obtain ⟨x29, ex29, hh⟩ := bi_bd hh
                refine go_gfI (pc := 173) rfl ex29 ?_
                obtain ⟨h30, eh30, hh⟩ := bi_bd hh
                refine go_iast (pc := 176) rfl eh30 ?_
                refine go_al (pc := 177) rfl (bi_k1 (bi_k1 (rfl : ai_ld 0 (lv_args 0 [.ref a0]) = some (.ref a0)) rfl rfl) rfl rfl) ?_
                refine go_pi (pc := 178) rfl ?_
                refine go_pi (pc := 179) rfl ?_
                obtain ⟨q31, eq31, hh⟩ := bi_bd hh
                refine go_ivI (pc := 182) rfl rfl (gX11_number eq31) (Nat.le_of_ble_eq_true rfl) (bi_up (sX11_number eq31) (Nat.le_of_ble_eq_true rfl)) ?_
                refine bi_ite hh (fun hc hh => ?_) (fun hc hh => ?_)
                · refine go_ifneT (pc := 185) rfl hc ?_
                  refine go_al (pc := 190) rfl (bi_k1 (bi_k1 (rfl : ai_ld 0 (lv_args 0 [.ref a0]) = some (.ref a0)) rfl rfl) rfl rfl) ?_
                  obtain ⟨x32, ex32, hh⟩ := bi_bd hh
                  refine go_gfR (pc := 191) rfl ex32 ?_
                  refine go_il (pc := 194) rfl (bi_k1 bi_e1 rfl rfl) ?_
                  refine go_al (pc := 195) rfl (bi_k1 (bi_k1 (rfl : ai_ld 0 (lv_args 0 [.ref a0]) = some (.ref a0)) rfl rfl) rfl rfl) ?_
                  obtain ⟨x33, ex33, hh⟩ := bi_bd hh
                  refine go_gfI (pc := 196) rfl ex33 ?_
                  obtain ⟨h34, eh34, hh⟩ := bi_bd hh
                  refine go_iast (pc := 199) rfl eh34 ?_
                  refine go_al (pc := 200) rfl (bi_k1 (bi_k1 (rfl : ai_ld 0 (lv_args 0 [.ref a0]) = some (.ref a0)) rfl rfl) rfl rfl) ?_
                  refine go_dup (pc := 201) rfl rfl ?_
                  obtain ⟨x35, ex35, hh⟩ := bi_bd hh
                  refine go_gfI (pc := 202) rfl ex35 ?_
                  refine go_pi (pc := 205) rfl ?_
                  refine go_iadd (pc := 206) rfl ?_
                  obtain ⟨h36, eh36, hh⟩ := bi_bd hh
                  refine go_pf (pc := 207) rfl eh36 ?_
                  refine go_pi (pc := 210) rfl ?_
                  exact go_rz (pc := 211) rfl bi_z1 hh
                · refine go_ifneF (pc := 185) rfl hc ?_
                  refine go_pi (pc := 188) rfl ?_
                  exact go_rz (pc := 189) rfl bi_z0 hh
              · refine go_ifneF (pc := 162) rfl hc ?_
                refine go_pi (pc := 165) rfl ?_
                exact go_rz (pc := 166) rfl bi_z0 hh
            · refine go_ifneF (pc := 140) rfl hc ?_
              refine go_pi (pc := 143) rfl ?_
              exact go_rz (pc := 144) rfl bi_z0 hh
          · refine go_cmpneF (pc := 109) rfl hc ?_
            refine go_al (pc := 112) rfl (bi_k1 (bi_k1 (rfl : ai_ld 0 (lv_args 0 [.ref a0]) = some (.ref a0)) rfl rfl) rfl rfl) ?_
            refine go_il (pc := 113) rfl bi_e1 ?_
            obtain ⟨h37, eh37, hh⟩ := bi_bd hh
            refine go_pf (pc := 114) rfl eh37 ?_
            refine go_al (pc := 117) rfl (bi_k1 (bi_k1 (rfl : ai_ld 0 (lv_args 0 [.ref a0]) = some (.ref a0)) rfl rfl) rfl rfl) ?_
            refine go_pi (pc := 118) rfl ?_
            obtain ⟨q38, eq38, hh⟩ := bi_bd hh
            refine go_ivI (pc := 119) rfl rfl (gX11_wrong eq38) (Nat.le_of_ble_eq_true rfl) (bi_up (sX11_wrong eq38) (Nat.le_of_ble_eq_true rfl)) ?_
            obtain ⟨_, ez, hh⟩ := bi_bd hh
            exact go_rz (pc := 122) rfl ez hh
        · refine go_ifneF (pc := 94) rfl hc ?_
          refine go_pi (pc := 97) rfl ?_
          exact go_rz (pc := 98) rfl bi_z0 hh
      · refine go_ifneF (pc := 60) rfl hc ?_
        refine go_pi (pc := 63) rfl ?_
        exact go_rz (pc := 64) rfl bi_z0 hh
    · refine go_ifneF (pc := 33) rfl hc ?_
      refine go_pi (pc := 36) rfl ?_
      exact go_rz (pc := 37) rfl bi_z0 hh
  · refine go_cmpneF (pc := 6) rfl hc ?_
    refine go_al (pc := 9) rfl (rfl : ai_ld 0 (lv_args 0 [.ref a0]) = some (.ref a0)) ?_
    refine go_pi (pc := 10) rfl ?_
    obtain ⟨q39, eq39, hh⟩ := bi_bd hh
    refine go_ivI (pc := 11) rfl rfl (gX11_wrong eq39) (Nat.le_of_ble_eq_true rfl) (bi_up (sX11_wrong eq39) (Nat.le_of_ble_eq_true rfl)) ?_
    obtain ⟨_, ez, hh⟩ := bi_bd hh
    exact go_rz (pc := 14) rfl ez hh
def fX11_walkerLine (n : Nat) (h : ai_H) (a0 : Nat) : Option (Int32 × ai_H) :=
  (kO n h a0 11).bind fun _ =>
  (pI n h a0 11 20).bind fun x1 =>
  if ¬ x1 = (4 : Int32) then (
    (fX11_token n h a0).bind fun q2 =>
    (pR n q2.2 a0 11 33).bind fun x3 =>
    (pI n q2.2 a0 11 20).bind fun x4 =>
    (fX11_newName n q2.2 a0 x3 (4 : Int32) x4).bind fun q5 =>
    if ¬ q5.1 = 0 then (
      (pI n q5.2 a0 11 20).bind fun x6 =>
      (pR n q5.2 a0 11 26).bind fun x7 =>
      (pI n q5.2 a0 11 18).bind fun x8 =>
      (fX11_thereIn n q5.2 a0 x7 (7 : Int32) x8).bind fun q9 =>
      if ¬ q9.1 = 0 then (
        (pR n q9.2 a0 11 34).bind fun x10 =>
        (pI n q9.2 a0 11 11).bind fun x11 =>
        (wX 1 (fun x => x) n q9.2 x10 ((4 : Int32) + x6) x11).bind fun h12 =>
        (fX11_number n h12 a0 (0 : Int32) (9 : Int32)).bind fun q13 =>
        if ¬ q13.1 = 0 then (
          (pR n q13.2 a0 11 35).bind fun x14 =>
          (pI n q13.2 a0 11 11).bind fun x15 =>
          (wX 1 (fun x => x) n q13.2 x14 ((4 : Int32) + x6) x15).bind fun h16 =>
          (fX11_number n h16 a0 (1 : Int32) (99 : Int32)).bind fun q17 =>
          if ¬ q17.1 = 0 then (
            (pR n q17.2 a0 11 36).bind fun x18 =>
            (pI n q17.2 a0 11 11).bind fun x19 =>
            (wX 1 (fun x => x) n q17.2 x18 ((4 : Int32) + x6) x19).bind fun h20 =>
            (pI n h20 a0 11 20).bind fun x21 =>
            (sF n h20 a0 11 20 (.int) (.int (x21 + (1 : Int32)))).bind fun h22 =>
            some ((1 : Int32), h22))
          else (
            some ((0 : Int32), q17.2)))
        else (
          some ((0 : Int32), q13.2)))
      else (
        some ((0 : Int32), q9.2)))
    else (
      some ((0 : Int32), q5.2)))
  else (
    (fX11_wrong n h a0 (2 : Int32)).bind fun q23 =>
    (gZ q23.1).bind fun _ =>
    some (q23.1, q23.2))
theorem gX11_walkerLine {n : Nat} {h : ai_H} {a0 : Nat} {q : Int32 × ai_H} (hh : fX11_walkerLine n h a0 = some q) : kO n h a0 11 = some () := by
  obtain ⟨_, e, -⟩ := bi_bd hh
  exact e
theorem sX11_walkerLine {n : Nat} {h : ai_H} {a0 : Nat} {q : Int32 × ai_H} (hh : fX11_walkerLine n h a0 = some q) : bi_sp 4 163 [.ref a0] h n (fI n q) := by
  refine bi_en (D := 3) (T := tX11_walkerLine) (funext fun pc => rfl) rfl (Nat.le_of_ble_eq_true rfl) ?_
  unfold fX11_walkerLine at hh
  obtain ⟨_, eO, hh⟩ := bi_bd hh
  refine go_al (pc := 0) rfl (rfl : ai_ld 0 (lv_args 0 [.ref a0]) = some (.ref a0)) ?_
  obtain ⟨x1, ex1, hh⟩ := bi_bd hh
  refine go_gfI (pc := 1) rfl ex1 ?_
  refine go_pi (pc := 4) rfl ?_
  refine bi_ite hh (fun hc hh => ?_) (fun hc hh => ?_)
  · refine go_cmpneT (pc := 5) rfl hc ?_
    refine go_al (pc := 14) rfl (rfl : ai_ld 0 (lv_args 0 [.ref a0]) = some (.ref a0)) ?_
    obtain ⟨q2, eq2, hh⟩ := bi_bd hh
    refine go_ivV (pc := 15) rfl rfl (gX11_token eq2) (Nat.le_of_ble_eq_true rfl) (bi_up (sX11_token eq2) (Nat.le_of_ble_eq_true rfl)) ?_
    refine go_al (pc := 18) rfl (rfl : ai_ld 0 (lv_args 0 [.ref a0]) = some (.ref a0)) ?_
    refine go_al (pc := 19) rfl (rfl : ai_ld 0 (lv_args 0 [.ref a0]) = some (.ref a0)) ?_
    obtain ⟨x3, ex3, hh⟩ := bi_bd hh
    refine go_gfR (pc := 20) rfl ex3 ?_
    refine go_pi (pc := 23) rfl ?_
    refine go_al (pc := 24) rfl (rfl : ai_ld 0 (lv_args 0 [.ref a0]) = some (.ref a0)) ?_
    obtain ⟨x4, ex4, hh⟩ := bi_bd hh
    refine go_gfI (pc := 25) rfl ex4 ?_
    obtain ⟨q5, eq5, hh⟩ := bi_bd hh
    refine go_ivI (pc := 28) rfl rfl (gX11_newName eq5) (Nat.le_of_ble_eq_true rfl) (bi_up (sX11_newName eq5) (Nat.le_of_ble_eq_true rfl)) ?_
    refine bi_ite hh (fun hc hh => ?_) (fun hc hh => ?_)
    · refine go_ifneT (pc := 31) rfl hc ?_
      refine go_pi (pc := 36) rfl ?_
      refine go_al (pc := 37) rfl (rfl : ai_ld 0 (lv_args 0 [.ref a0]) = some (.ref a0)) ?_
      obtain ⟨x6, ex6, hh⟩ := bi_bd hh
      refine go_gfI (pc := 38) rfl ex6 ?_
      refine go_iadd (pc := 41) rfl ?_
      refine go_is (pc := 42) rfl ?_
      refine go_al (pc := 43) rfl (bi_k1 (rfl : ai_ld 0 (lv_args 0 [.ref a0]) = some (.ref a0)) rfl rfl) ?_
      refine go_al (pc := 44) rfl (bi_k1 (rfl : ai_ld 0 (lv_args 0 [.ref a0]) = some (.ref a0)) rfl rfl) ?_
      obtain ⟨x7, ex7, hh⟩ := bi_bd hh
      refine go_gfR (pc := 45) rfl ex7 ?_
      refine go_pi (pc := 48) rfl ?_
      refine go_al (pc := 50) rfl (bi_k1 (rfl : ai_ld 0 (lv_args 0 [.ref a0]) = some (.ref a0)) rfl rfl) ?_
      obtain ⟨x8, ex8, hh⟩ := bi_bd hh
      refine go_gfI (pc := 51) rfl ex8 ?_
      obtain ⟨q9, eq9, hh⟩ := bi_bd hh
      refine go_ivI (pc := 54) rfl rfl (gX11_thereIn eq9) (Nat.le_of_ble_eq_true rfl) (bi_up (sX11_thereIn eq9) (Nat.le_of_ble_eq_true rfl)) ?_
      refine bi_ite hh (fun hc hh => ?_) (fun hc hh => ?_)
      · refine go_ifneT (pc := 57) rfl hc ?_
        refine go_al (pc := 62) rfl (bi_k1 (rfl : ai_ld 0 (lv_args 0 [.ref a0]) = some (.ref a0)) rfl rfl) ?_
        obtain ⟨x10, ex10, hh⟩ := bi_bd hh
        refine go_gfR (pc := 63) rfl ex10 ?_
        refine go_il (pc := 66) rfl bi_e1 ?_
        refine go_al (pc := 67) rfl (bi_k1 (rfl : ai_ld 0 (lv_args 0 [.ref a0]) = some (.ref a0)) rfl rfl) ?_
        obtain ⟨x11, ex11, hh⟩ := bi_bd hh
        refine go_gfI (pc := 68) rfl ex11 ?_
        obtain ⟨h12, eh12, hh⟩ := bi_bd hh
        refine go_iast (pc := 71) rfl eh12 ?_
        refine go_al (pc := 72) rfl (bi_k1 (rfl : ai_ld 0 (lv_args 0 [.ref a0]) = some (.ref a0)) rfl rfl) ?_
        refine go_pi (pc := 73) rfl ?_
        refine go_pi (pc := 74) rfl ?_
        obtain ⟨q13, eq13, hh⟩ := bi_bd hh
        refine go_ivI (pc := 76) rfl rfl (gX11_number eq13) (Nat.le_of_ble_eq_true rfl) (bi_up (sX11_number eq13) (Nat.le_of_ble_eq_true rfl)) ?_
        refine bi_ite hh (fun hc hh => ?_) (fun hc hh => ?_)
        · refine go_ifneT (pc := 79) rfl hc ?_
          refine go_al (pc := 84) rfl (bi_k1 (rfl : ai_ld 0 (lv_args 0 [.ref a0]) = some (.ref a0)) rfl rfl) ?_
          obtain ⟨x14, ex14, hh⟩ := bi_bd hh
          refine go_gfR (pc := 85) rfl ex14 ?_
          refine go_il (pc := 88) rfl bi_e1 ?_
          refine go_al (pc := 89) rfl (bi_k1 (rfl : ai_ld 0 (lv_args 0 [.ref a0]) = some (.ref a0)) rfl rfl) ?_
          obtain ⟨x15, ex15, hh⟩ := bi_bd hh
          refine go_gfI (pc := 90) rfl ex15 ?_
          obtain ⟨h16, eh16, hh⟩ := bi_bd hh
          refine go_iast (pc := 93) rfl eh16 ?_
          refine go_al (pc := 94) rfl (bi_k1 (rfl : ai_ld 0 (lv_args 0 [.ref a0]) = some (.ref a0)) rfl rfl) ?_
          refine go_pi (pc := 95) rfl ?_
          refine go_pi (pc := 96) rfl ?_
          obtain ⟨q17, eq17, hh⟩ := bi_bd hh
          refine go_ivI (pc := 98) rfl rfl (gX11_number eq17) (Nat.le_of_ble_eq_true rfl) (bi_up (sX11_number eq17) (Nat.le_of_ble_eq_true rfl)) ?_
          refine bi_ite hh (fun hc hh => ?_) (fun hc hh => ?_)
          · refine go_ifneT (pc := 101) rfl hc ?_
            refine go_al (pc := 106) rfl (bi_k1 (rfl : ai_ld 0 (lv_args 0 [.ref a0]) = some (.ref a0)) rfl rfl) ?_
            obtain ⟨x18, ex18, hh⟩ := bi_bd hh
            refine go_gfR (pc := 107) rfl ex18 ?_
            refine go_il (pc := 110) rfl bi_e1 ?_
            refine go_al (pc := 111) rfl (bi_k1 (rfl : ai_ld 0 (lv_args 0 [.ref a0]) = some (.ref a0)) rfl rfl) ?_
            obtain ⟨x19, ex19, hh⟩ := bi_bd hh
            refine go_gfI (pc := 112) rfl ex19 ?_
            obtain ⟨h20, eh20, hh⟩ := bi_bd hh
            refine go_iast (pc := 115) rfl eh20 ?_
            refine go_al (pc := 116) rfl (bi_k1 (rfl : ai_ld 0 (lv_args 0 [.ref a0]) = some (.ref a0)) rfl rfl) ?_
            refine go_dup (pc := 117) rfl rfl ?_
            obtain ⟨x21, ex21, hh⟩ := bi_bd hh
            refine go_gfI (pc := 118) rfl ex21 ?_
            refine go_pi (pc := 121) rfl ?_
            refine go_iadd (pc := 122) rfl ?_
            obtain ⟨h22, eh22, hh⟩ := bi_bd hh
            refine go_pf (pc := 123) rfl eh22 ?_
            refine go_pi (pc := 126) rfl ?_
            exact go_rz (pc := 127) rfl bi_z1 hh
          · refine go_ifneF (pc := 101) rfl hc ?_
            refine go_pi (pc := 104) rfl ?_
            exact go_rz (pc := 105) rfl bi_z0 hh
        · refine go_ifneF (pc := 79) rfl hc ?_
          refine go_pi (pc := 82) rfl ?_
          exact go_rz (pc := 83) rfl bi_z0 hh
      · refine go_ifneF (pc := 57) rfl hc ?_
        refine go_pi (pc := 60) rfl ?_
        exact go_rz (pc := 61) rfl bi_z0 hh
    · refine go_ifneF (pc := 31) rfl hc ?_
      refine go_pi (pc := 34) rfl ?_
      exact go_rz (pc := 35) rfl bi_z0 hh
  · refine go_cmpneF (pc := 5) rfl hc ?_
    refine go_al (pc := 8) rfl (rfl : ai_ld 0 (lv_args 0 [.ref a0]) = some (.ref a0)) ?_
    refine go_pi (pc := 9) rfl ?_
    obtain ⟨q23, eq23, hh⟩ := bi_bd hh
    refine go_ivI (pc := 10) rfl rfl (gX11_wrong eq23) (Nat.le_of_ble_eq_true rfl) (bi_up (sX11_wrong eq23) (Nat.le_of_ble_eq_true rfl)) ?_
    obtain ⟨_, ez, hh⟩ := bi_bd hh
    exact go_rz (pc := 13) rfl ez hh
def fX11_walkLine (n : Nat) (h : ai_H) (a0 : Nat) : Option (Int32 × ai_H) :=
  (kO n h a0 11).bind fun _ =>
  (pI n h a0 11 21).bind fun x1 =>
  if ¬ x1 = (12 : Int32) then (
    (fX11_token n h a0).bind fun q2 =>
    (pI n q2.2 a0 11 21).bind fun x3 =>
    (pR n q2.2 a0 11 33).bind fun x4 =>
    (pI n q2.2 a0 11 20).bind fun x5 =>
    (fX11_thereIn n q2.2 a0 x4 (4 : Int32) x5).bind fun q6 =>
    if ¬ q6.1 = 0 then (
      (pR n q6.2 a0 11 37).bind fun x7 =>
      (pI n q6.2 a0 11 11).bind fun x8 =>
      (wX 1 (fun x => x) n q6.2 x7 ((12 : Int32) + x3) x8).bind fun h9 =>
      (pR n h9 a0 11 27).bind fun x10 =>
      (pI n h9 a0 11 19).bind fun x11 =>
      (fX11_thereIn n h9 a0 x10 (9 : Int32) x11).bind fun q12 =>
      if ¬ q12.1 = 0 then (
        (pR n q12.2 a0 11 38).bind fun x13 =>
        (pI n q12.2 a0 11 11).bind fun x14 =>
        (wX 1 (fun x => x) n q12.2 x13 ((12 : Int32) + x3) x14).bind fun h15 =>
        (fX11_number n h15 a0 (0 : Int32) (99 : Int32)).bind fun q16 =>
        if ¬ q16.1 = 0 then (
          (pR n q16.2 a0 11 39).bind fun x17 =>
          (pI n q16.2 a0 11 11).bind fun x18 =>
          (wX 1 (fun x => x) n q16.2 x17 ((12 : Int32) + x3) x18).bind fun h19 =>
          (pI n h19 a0 11 21).bind fun x20 =>
          (sF n h19 a0 11 21 (.int) (.int (x20 + (1 : Int32)))).bind fun h21 =>
          some ((1 : Int32), h21))
        else (
          some ((0 : Int32), q16.2)))
      else (
        some ((0 : Int32), q12.2)))
    else (
      some ((0 : Int32), q6.2)))
  else (
    (fX11_wrong n h a0 (2 : Int32)).bind fun q22 =>
    (gZ q22.1).bind fun _ =>
    some (q22.1, q22.2))
theorem gX11_walkLine {n : Nat} {h : ai_H} {a0 : Nat} {q : Int32 × ai_H} (hh : fX11_walkLine n h a0 = some q) : kO n h a0 11 = some () := by
  obtain ⟨_, e, -⟩ := bi_bd hh
  exact e
theorem sX11_walkLine {n : Nat} {h : ai_H} {a0 : Nat} {q : Int32 × ai_H} (hh : fX11_walkLine n h a0 = some q) : bi_sp 4 164 [.ref a0] h n (fI n q) := by
  refine bi_en (D := 3) (T := tX11_walkLine) (funext fun pc => rfl) rfl (Nat.le_of_ble_eq_true rfl) ?_
  unfold fX11_walkLine at hh
  obtain ⟨_, eO, hh⟩ := bi_bd hh
  refine go_al (pc := 0) rfl (rfl : ai_ld 0 (lv_args 0 [.ref a0]) = some (.ref a0)) ?_
  obtain ⟨x1, ex1, hh⟩ := bi_bd hh
  refine go_gfI (pc := 1) rfl ex1 ?_
  refine go_pi (pc := 4) rfl ?_
  refine bi_ite hh (fun hc hh => ?_) (fun hc hh => ?_)
  · refine go_cmpneT (pc := 6) rfl hc ?_
    refine go_al (pc := 15) rfl (rfl : ai_ld 0 (lv_args 0 [.ref a0]) = some (.ref a0)) ?_
    obtain ⟨q2, eq2, hh⟩ := bi_bd hh
    refine go_ivV (pc := 16) rfl rfl (gX11_token eq2) (Nat.le_of_ble_eq_true rfl) (bi_up (sX11_token eq2) (Nat.le_of_ble_eq_true rfl)) ?_
    refine go_pi (pc := 19) rfl ?_
    refine go_al (pc := 21) rfl (rfl : ai_ld 0 (lv_args 0 [.ref a0]) = some (.ref a0)) ?_
    obtain ⟨x3, ex3, hh⟩ := bi_bd hh
    refine go_gfI (pc := 22) rfl ex3 ?_
    refine go_iadd (pc := 25) rfl ?_
    refine go_is (pc := 26) rfl ?_
    refine go_al (pc := 27) rfl (bi_k1 (rfl : ai_ld 0 (lv_args 0 [.ref a0]) = some (.ref a0)) rfl rfl) ?_
    refine go_al (pc := 28) rfl (bi_k1 (rfl : ai_ld 0 (lv_args 0 [.ref a0]) = some (.ref a0)) rfl rfl) ?_
    obtain ⟨x4, ex4, hh⟩ := bi_bd hh
    refine go_gfR (pc := 29) rfl ex4 ?_
    refine go_pi (pc := 32) rfl ?_
    refine go_al (pc := 33) rfl (bi_k1 (rfl : ai_ld 0 (lv_args 0 [.ref a0]) = some (.ref a0)) rfl rfl) ?_
    obtain ⟨x5, ex5, hh⟩ := bi_bd hh
    refine go_gfI (pc := 34) rfl ex5 ?_
    obtain ⟨q6, eq6, hh⟩ := bi_bd hh
    refine go_ivI (pc := 37) rfl rfl (gX11_thereIn eq6) (Nat.le_of_ble_eq_true rfl) (bi_up (sX11_thereIn eq6) (Nat.le_of_ble_eq_true rfl)) ?_
    refine bi_ite hh (fun hc hh => ?_) (fun hc hh => ?_)
    · refine go_ifneT (pc := 40) rfl hc ?_
      refine go_al (pc := 45) rfl (bi_k1 (rfl : ai_ld 0 (lv_args 0 [.ref a0]) = some (.ref a0)) rfl rfl) ?_
      obtain ⟨x7, ex7, hh⟩ := bi_bd hh
      refine go_gfR (pc := 46) rfl ex7 ?_
      refine go_il (pc := 49) rfl bi_e1 ?_
      refine go_al (pc := 50) rfl (bi_k1 (rfl : ai_ld 0 (lv_args 0 [.ref a0]) = some (.ref a0)) rfl rfl) ?_
      obtain ⟨x8, ex8, hh⟩ := bi_bd hh
      refine go_gfI (pc := 51) rfl ex8 ?_
      obtain ⟨h9, eh9, hh⟩ := bi_bd hh
      refine go_iast (pc := 54) rfl eh9 ?_
      refine go_al (pc := 55) rfl (bi_k1 (rfl : ai_ld 0 (lv_args 0 [.ref a0]) = some (.ref a0)) rfl rfl) ?_
      refine go_al (pc := 56) rfl (bi_k1 (rfl : ai_ld 0 (lv_args 0 [.ref a0]) = some (.ref a0)) rfl rfl) ?_
      obtain ⟨x10, ex10, hh⟩ := bi_bd hh
      refine go_gfR (pc := 57) rfl ex10 ?_
      refine go_pi (pc := 60) rfl ?_
      refine go_al (pc := 62) rfl (bi_k1 (rfl : ai_ld 0 (lv_args 0 [.ref a0]) = some (.ref a0)) rfl rfl) ?_
      obtain ⟨x11, ex11, hh⟩ := bi_bd hh
      refine go_gfI (pc := 63) rfl ex11 ?_
      obtain ⟨q12, eq12, hh⟩ := bi_bd hh
      refine go_ivI (pc := 66) rfl rfl (gX11_thereIn eq12) (Nat.le_of_ble_eq_true rfl) (bi_up (sX11_thereIn eq12) (Nat.le_of_ble_eq_true rfl)) ?_
      refine bi_ite hh (fun hc hh => ?_) (fun hc hh => ?_)
      · refine go_ifneT (pc := 69) rfl hc ?_
        refine go_al (pc := 74) rfl (bi_k1 (rfl : ai_ld 0 (lv_args 0 [.ref a0]) = some (.ref a0)) rfl rfl) ?_
        obtain ⟨x13, ex13, hh⟩ := bi_bd hh
        refine go_gfR (pc := 75) rfl ex13 ?_
        refine go_il (pc := 78) rfl bi_e1 ?_
        refine go_al (pc := 79) rfl (bi_k1 (rfl : ai_ld 0 (lv_args 0 [.ref a0]) = some (.ref a0)) rfl rfl) ?_
        obtain ⟨x14, ex14, hh⟩ := bi_bd hh
        refine go_gfI (pc := 80) rfl ex14 ?_
        obtain ⟨h15, eh15, hh⟩ := bi_bd hh
        refine go_iast (pc := 83) rfl eh15 ?_
        refine go_al (pc := 84) rfl (bi_k1 (rfl : ai_ld 0 (lv_args 0 [.ref a0]) = some (.ref a0)) rfl rfl) ?_
        refine go_pi (pc := 85) rfl ?_
        refine go_pi (pc := 86) rfl ?_
        obtain ⟨q16, eq16, hh⟩ := bi_bd hh
        refine go_ivI (pc := 88) rfl rfl (gX11_number eq16) (Nat.le_of_ble_eq_true rfl) (bi_up (sX11_number eq16) (Nat.le_of_ble_eq_true rfl)) ?_
        refine bi_ite hh (fun hc hh => ?_) (fun hc hh => ?_)
        · refine go_ifneT (pc := 91) rfl hc ?_
          refine go_al (pc := 96) rfl (bi_k1 (rfl : ai_ld 0 (lv_args 0 [.ref a0]) = some (.ref a0)) rfl rfl) ?_
          obtain ⟨x17, ex17, hh⟩ := bi_bd hh
          refine go_gfR (pc := 97) rfl ex17 ?_
          refine go_il (pc := 100) rfl bi_e1 ?_
          refine go_al (pc := 101) rfl (bi_k1 (rfl : ai_ld 0 (lv_args 0 [.ref a0]) = some (.ref a0)) rfl rfl) ?_
          obtain ⟨x18, ex18, hh⟩ := bi_bd hh
          refine go_gfI (pc := 102) rfl ex18 ?_
          obtain ⟨h19, eh19, hh⟩ := bi_bd hh
          refine go_iast (pc := 105) rfl eh19 ?_
          refine go_al (pc := 106) rfl (bi_k1 (rfl : ai_ld 0 (lv_args 0 [.ref a0]) = some (.ref a0)) rfl rfl) ?_
          refine go_dup (pc := 107) rfl rfl ?_
          obtain ⟨x20, ex20, hh⟩ := bi_bd hh
          refine go_gfI (pc := 108) rfl ex20 ?_
          refine go_pi (pc := 111) rfl ?_
          refine go_iadd (pc := 112) rfl ?_
          obtain ⟨h21, eh21, hh⟩ := bi_bd hh
          refine go_pf (pc := 113) rfl eh21 ?_
          refine go_pi (pc := 116) rfl ?_
          exact go_rz (pc := 117) rfl bi_z1 hh
        · refine go_ifneF (pc := 91) rfl hc ?_
          refine go_pi (pc := 94) rfl ?_
          exact go_rz (pc := 95) rfl bi_z0 hh
      · refine go_ifneF (pc := 69) rfl hc ?_
        refine go_pi (pc := 72) rfl ?_
        exact go_rz (pc := 73) rfl bi_z0 hh
    · refine go_ifneF (pc := 40) rfl hc ?_
      refine go_pi (pc := 43) rfl ?_
      exact go_rz (pc := 44) rfl bi_z0 hh
  · refine go_cmpneF (pc := 6) rfl hc ?_
    refine go_al (pc := 9) rfl (rfl : ai_ld 0 (lv_args 0 [.ref a0]) = some (.ref a0)) ?_
    refine go_pi (pc := 10) rfl ?_
    obtain ⟨q22, eq22, hh⟩ := bi_bd hh
    refine go_ivI (pc := 11) rfl rfl (gX11_wrong eq22) (Nat.le_of_ble_eq_true rfl) (bi_up (sX11_wrong eq22) (Nat.le_of_ble_eq_true rfl)) ?_
    obtain ⟨_, ez, hh⟩ := bi_bd hh
    exact go_rz (pc := 14) rfl ez hh
