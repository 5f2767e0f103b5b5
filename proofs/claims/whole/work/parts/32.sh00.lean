/-! ===== methods as functions, part 0 ===== -/
def fX2_isTold (n : Nat) (h : ai_H) (a0 : Nat) (a1 : Int32) : Option (Int32 × ai_H) :=
  (kO n h a0 2).bind fun _ =>
  (pR n h a0 2 1).bind fun x1 =>
  (gX 1 n h x1 a1).bind fun x2 =>
  (pR n h a0 2 0).bind fun x3 =>
  (gX 1 n h x3 a1).bind fun x4 =>
  if x2 ≤ x4 then (
    some ((0 : Int32), h))
  else (
    some ((1 : Int32), h))
theorem gX2_isTold {n : Nat} {h : ai_H} {a0 : Nat} {a1 : Int32} {q : Int32 × ai_H} (hh : fX2_isTold n h a0 a1 = some q) : kO n h a0 2 = some () := by
  obtain ⟨_, e, -⟩ := bi_bd hh
  exact e
theorem sX2_isTold {n : Nat} {h : ai_H} {a0 : Nat} {a1 : Int32} {q : Int32 × ai_H} (hh : fX2_isTold n h a0 a1 = some q) : bi_sp 1 19 [.ref a0, .int a1] h n (fI n q) := by
  refine bi_en (D := 0) (T := tX2_isTold) (funext fun pc => rfl) rfl (Nat.le_of_ble_eq_true rfl) ?_
  unfold fX2_isTold at hh
  obtain ⟨_, eO, hh⟩ := bi_bd hh
  refine go_al (pc := 0) rfl (rfl : ai_ld 0 (lv_args 0 [.ref a0, .int a1]) = some (.ref a0)) ?_
  obtain ⟨x1, ex1, hh⟩ := bi_bd hh
  refine go_gfR (pc := 1) rfl ex1 ?_
  refine go_il (pc := 4) rfl (rfl : ai_ld 1 (lv_args 0 [.ref a0, .int a1]) = some (.int a1)) ?_
  obtain ⟨x2, ex2, hh⟩ := bi_bd hh
  refine go_iald (pc := 5) rfl ex2 ?_
  refine go_al (pc := 6) rfl (rfl : ai_ld 0 (lv_args 0 [.ref a0, .int a1]) = some (.ref a0)) ?_
  obtain ⟨x3, ex3, hh⟩ := bi_bd hh
  refine go_gfR (pc := 7) rfl ex3 ?_
  refine go_il (pc := 10) rfl (rfl : ai_ld 1 (lv_args 0 [.ref a0, .int a1]) = some (.int a1)) ?_
  obtain ⟨x4, ex4, hh⟩ := bi_bd hh
  refine go_iald (pc := 11) rfl ex4 ?_
  refine bi_ite hh (fun hc hh => ?_) (fun hc hh => ?_)
  · refine go_cmpleT (pc := 12) rfl hc ?_
    refine go_pi (pc := 19) rfl ?_
    exact go_rz (pc := 20) rfl bi_z0 hh
  · refine go_cmpleF (pc := 12) rfl hc ?_
    refine go_pi (pc := 15) rfl ?_
    refine go_goto (pc := 16) rfl ?_
    exact go_rz (pc := 20) rfl bi_z1 hh
def fX6_cell (n : Nat) (h : ai_H) (a0 : Nat) (a1 : Int32) (a2 : Int32) : Option (Int32 × ai_H) :=
  (kO n h a0 6).bind fun _ =>
  if a1 < 0 then (
    some ((0 : Int32), h))
  else (
    (pI n h a0 6 4).bind fun x1 =>
    if x1 ≤ a1 then (
      some ((0 : Int32), h))
    else (
      if a2 < 0 then (
        some ((0 : Int32), h))
      else (
        (pI n h a0 6 1).bind fun x2 =>
        if a2 < x2 then (
          (pR n h a0 6 3).bind fun x3 =>
          (pI n h a0 6 1).bind fun x4 =>
          (gX 1 n h x3 ((a1 * x4) + a2)).bind fun x5 =>
          some (x5, h))
        else (
          some ((0 : Int32), h)))))
theorem gX6_cell {n : Nat} {h : ai_H} {a0 : Nat} {a1 : Int32} {a2 : Int32} {q : Int32 × ai_H} (hh : fX6_cell n h a0 a1 a2 = some q) : kO n h a0 6 = some () := by
  obtain ⟨_, e, -⟩ := bi_bd hh
  exact e
theorem sX6_cell {n : Nat} {h : ai_H} {a0 : Nat} {a1 : Int32} {a2 : Int32} {q : Int32 × ai_H} (hh : fX6_cell n h a0 a1 a2 = some q) : bi_sp 1 55 [.ref a0, .int a1, .int a2] h n (fI n q) := by
  refine bi_en (D := 0) (T := tX6_cell) (funext fun pc => rfl) rfl (Nat.le_of_ble_eq_true rfl) ?_
  unfold fX6_cell at hh
  obtain ⟨_, eO, hh⟩ := bi_bd hh
  refine go_il (pc := 0) rfl (rfl : ai_ld 1 (lv_args 0 [.ref a0, .int a1, .int a2]) = some (.int a1)) ?_
  refine bi_ite hh (fun hc hh => ?_) (fun hc hh => ?_)
  · refine go_ifltT (pc := 1) rfl hc ?_
    refine go_pi (pc := 24) rfl ?_
    exact go_ri (pc := 25) rfl hh
  · refine go_ifltF (pc := 1) rfl hc ?_
    refine go_il (pc := 4) rfl (rfl : ai_ld 1 (lv_args 0 [.ref a0, .int a1, .int a2]) = some (.int a1)) ?_
    refine go_al (pc := 5) rfl (rfl : ai_ld 0 (lv_args 0 [.ref a0, .int a1, .int a2]) = some (.ref a0)) ?_
    obtain ⟨x1, ex1, hh⟩ := bi_bd hh
    refine go_gfI (pc := 6) rfl ex1 ?_
    refine bi_ite hh (fun hc hh => ?_) (fun hc hh => ?_)
    · refine go_cmpgeT (pc := 9) rfl hc ?_
      refine go_pi (pc := 24) rfl ?_
      exact go_ri (pc := 25) rfl hh
    · refine go_cmpgeF (pc := 9) rfl hc ?_
      refine go_il (pc := 12) rfl (rfl : ai_ld 2 (lv_args 0 [.ref a0, .int a1, .int a2]) = some (.int a2)) ?_
      refine bi_ite hh (fun hc hh => ?_) (fun hc hh => ?_)
      · refine go_ifltT (pc := 13) rfl hc ?_
        refine go_pi (pc := 24) rfl ?_
        exact go_ri (pc := 25) rfl hh
      · refine go_ifltF (pc := 13) rfl hc ?_
        refine go_il (pc := 16) rfl (rfl : ai_ld 2 (lv_args 0 [.ref a0, .int a1, .int a2]) = some (.int a2)) ?_
        refine go_al (pc := 17) rfl (rfl : ai_ld 0 (lv_args 0 [.ref a0, .int a1, .int a2]) = some (.ref a0)) ?_
        obtain ⟨x2, ex2, hh⟩ := bi_bd hh
        refine go_gfI (pc := 18) rfl ex2 ?_
        refine bi_ite hh (fun hc hh => ?_) (fun hc hh => ?_)
        · refine go_cmpltT (pc := 21) rfl hc ?_
          refine go_al (pc := 26) rfl (rfl : ai_ld 0 (lv_args 0 [.ref a0, .int a1, .int a2]) = some (.ref a0)) ?_
          obtain ⟨x3, ex3, hh⟩ := bi_bd hh
          refine go_gfR (pc := 27) rfl ex3 ?_
          refine go_il (pc := 30) rfl (rfl : ai_ld 1 (lv_args 0 [.ref a0, .int a1, .int a2]) = some (.int a1)) ?_
          refine go_al (pc := 31) rfl (rfl : ai_ld 0 (lv_args 0 [.ref a0, .int a1, .int a2]) = some (.ref a0)) ?_
          obtain ⟨x4, ex4, hh⟩ := bi_bd hh
          refine go_gfI (pc := 32) rfl ex4 ?_
          refine go_imul (pc := 35) rfl ?_
          refine go_il (pc := 36) rfl (rfl : ai_ld 2 (lv_args 0 [.ref a0, .int a1, .int a2]) = some (.int a2)) ?_
          refine go_iadd (pc := 37) rfl ?_
          obtain ⟨x5, ex5, hh⟩ := bi_bd hh
          refine go_iald (pc := 38) rfl ex5 ?_
          exact go_ri (pc := 39) rfl hh
        · refine go_cmpltF (pc := 21) rfl hc ?_
          refine go_pi (pc := 24) rfl ?_
          exact go_ri (pc := 25) rfl hh
def fX0_begin_54b (n : Nat) (r54 : ai_H → Nat → Int32 → Option (Unit × ai_H)) (h : ai_H) (v0 : Nat) (v4 : Int32) : Option (Unit × ai_H) :=
  if (4 : Int32) ≤ v4 then (
    some ((), h))
  else (
    (pR n h v0 0 7).bind fun x1 =>
    (pR n h v0 0 0).bind fun x2 =>
    (pR n h x2 8 2).bind fun x3 =>
    (fX6_cell n h x3 v4 (1 : Int32)).bind fun q4 =>
    (wX 1 (fun x => x) n q4.2 x1 v4 q4.1).bind fun h5 =>
    r54 h5 v0 (v4 + 1))
theorem sX0_begin_54b {n : Nat} {r54 : ai_H → Nat → Int32 → Option (Unit × ai_H)} {q : Unit × ai_H} {h : ai_H} {v0 : Nat} {v4 : Int32} {lv : ai_L} (R54 : ∀ (h : ai_H) (v0 : Nat) (v4 : Int32) (lv : ai_L), ai_ld 0 lv = some (.ref v0) → ai_ld 4 lv = some (.int v4) → r54 h v0 v4 = some q → bi_go 1 tX0_begin n (fV n q) 54 lv [] h) (l0 : ai_ld 0 lv = some (.ref v0)) (l4 : ai_ld 4 lv = some (.int v4)) (hh : fX0_begin_54b n r54 h v0 v4 = some q) : bi_go 1 tX0_begin n (fV n q) 54 lv [] h := by
  unfold fX0_begin_54b at hh
  refine go_il (pc := 54) rfl l4 ?_
  refine go_pi (pc := 56) rfl ?_
  refine bi_ite hh (fun hc hh => ?_) (fun hc hh => ?_)
  · refine go_cmpgeT (pc := 57) rfl hc ?_
    exact go_rv (pc := 86) rfl hh
  · refine go_cmpgeF (pc := 57) rfl hc ?_
    refine go_al (pc := 60) rfl l0 ?_
    obtain ⟨x1, ex1, hh⟩ := bi_bd hh
    refine go_gfR (pc := 61) rfl ex1 ?_
    refine go_il (pc := 64) rfl l4 ?_
    refine go_al (pc := 66) rfl l0 ?_
    obtain ⟨x2, ex2, hh⟩ := bi_bd hh
    refine go_gfR (pc := 67) rfl ex2 ?_
    obtain ⟨x3, ex3, hh⟩ := bi_bd hh
    refine go_gfR (pc := 70) rfl ex3 ?_
    refine go_il (pc := 73) rfl l4 ?_
    refine go_pi (pc := 75) rfl ?_
    obtain ⟨q4, eq4, hh⟩ := bi_bd hh
    refine go_ivI (pc := 76) rfl rfl (gX6_cell eq4) (Nat.le_of_ble_eq_true rfl) (bi_up (sX6_cell eq4) (Nat.le_of_ble_eq_true rfl)) ?_
    obtain ⟨h5, eh5, hh⟩ := bi_bd hh
    refine go_iast (pc := 79) rfl eh5 ?_
    refine go_inc (pc := 80) rfl l4 ?_
    refine go_goto (pc := 83) rfl ?_
    exact R54 _ _ _ _ (bi_k1 l0 rfl rfl) bi_e1 hh
def fX0_begin_54 (n : Nat) : Nat → ai_H → Nat → Int32 → Option (Unit × ai_H)
  | 0 => fun _ _ _ => none
  | k + 1 => fun h v0 v4 => fX0_begin_54b n (fX0_begin_54 n k) h v0 v4
theorem sX0_begin_54 {n : Nat} {q : Unit × ai_H} : ∀ (k : Nat) (h : ai_H) (v0 : Nat) (v4 : Int32) (lv : ai_L), ai_ld 0 lv = some (.ref v0) → ai_ld 4 lv = some (.int v4) → fX0_begin_54 n k h v0 v4 = some q → bi_go 1 tX0_begin n (fV n q) 54 lv [] h
  | 0 => fun _ _ _ _ _ _ hh => by cases hh
  | k + 1 => fun h v0 v4 lv l0 l4 hh => sX0_begin_54b  (sX0_begin_54  k) l0 l4 hh
def fX0_begin (n : Nat) (h : ai_H) (a0 : Nat) (a1 : Nat) (a2 : Nat) (a3 : Int32) : Option (Unit × ai_H) :=
  (kO n h a0 0).bind fun _ =>
  (sF n h a0 0 0 (.object "PathsKept$Told") (.ref a1)).bind fun h1 =>
  (sF n h1 a0 0 1 (.object "PathsKept$Standing") (.ref a2)).bind fun h2 =>
  (sF n h2 a0 0 2 (.int) (.int a3)).bind fun h3 =>
  (sF n h3 a0 0 3 (.boolean) (.int (1 : Int32))).bind fun h4 =>
  (pR n h4 a0 0 0).bind fun x5 =>
  (pR n h4 x5 8 5).bind fun x6 =>
  (fX2_isTold n h4 x6 (0 : Int32)).bind fun q7 =>
  (sF n q7.2 a0 0 4 (.boolean) (.int q7.1)).bind fun h8 =>
  (pR n h8 a0 0 0).bind fun x9 =>
  (pI n h8 x9 8 6).bind fun x10 =>
  (sF n h8 a0 0 5 (.int) (.int x10)).bind fun h11 =>
  (sF n h11 a0 0 6 (.int) (.int (-1 : Int32))).bind fun h12 =>
  fX0_begin_54 n bi_K h12 a0 (0 : Int32)
theorem gX0_begin {n : Nat} {h : ai_H} {a0 : Nat} {a1 : Nat} {a2 : Nat} {a3 : Int32} {q : Unit × ai_H} (hh : fX0_begin n h a0 a1 a2 a3 = some q) : kO n h a0 0 = some () := by
  obtain ⟨_, e, -⟩ := bi_bd hh
  exact e
theorem sX0_begin {n : Nat} {h : ai_H} {a0 : Nat} {a1 : Nat} {a2 : Nat} {a3 : Int32} {q : Unit × ai_H} (hh : fX0_begin n h a0 a1 a2 a3 = some q) : bi_sp 2 1 [.ref a0, .ref a1, .ref a2, .int a3] h n (fV n q) := by
  refine bi_en (D := 1) (T := tX0_begin) (funext fun pc => rfl) rfl (Nat.le_of_ble_eq_true rfl) ?_
  unfold fX0_begin at hh
  obtain ⟨_, eO, hh⟩ := bi_bd hh
  refine go_al (pc := 0) rfl (rfl : ai_ld 0 (lv_args 0 [.ref a0, .ref a1, .ref a2, .int a3]) = some (.ref a0)) ?_
  refine go_al (pc := 1) rfl (rfl : ai_ld 1 (lv_args 0 [.ref a0, .ref a1, .ref a2, .int a3]) = some (.ref a1)) ?_
  obtain ⟨h1, eh1, hh⟩ := bi_bd hh
  refine go_pf (pc := 2) rfl eh1 ?_
  refine go_al (pc := 5) rfl (rfl : ai_ld 0 (lv_args 0 [.ref a0, .ref a1, .ref a2, .int a3]) = some (.ref a0)) ?_
  refine go_al (pc := 6) rfl (rfl : ai_ld 2 (lv_args 0 [.ref a0, .ref a1, .ref a2, .int a3]) = some (.ref a2)) ?_
  obtain ⟨h2, eh2, hh⟩ := bi_bd hh
  refine go_pf (pc := 7) rfl eh2 ?_
  refine go_al (pc := 10) rfl (rfl : ai_ld 0 (lv_args 0 [.ref a0, .ref a1, .ref a2, .int a3]) = some (.ref a0)) ?_
  refine go_il (pc := 11) rfl (rfl : ai_ld 3 (lv_args 0 [.ref a0, .ref a1, .ref a2, .int a3]) = some (.int a3)) ?_
  obtain ⟨h3, eh3, hh⟩ := bi_bd hh
  refine go_pf (pc := 12) rfl eh3 ?_
  refine go_al (pc := 15) rfl (rfl : ai_ld 0 (lv_args 0 [.ref a0, .ref a1, .ref a2, .int a3]) = some (.ref a0)) ?_
  refine go_pi (pc := 16) rfl ?_
  obtain ⟨h4, eh4, hh⟩ := bi_bd hh
  refine go_pf (pc := 17) rfl eh4 ?_
  refine go_al (pc := 20) rfl (rfl : ai_ld 0 (lv_args 0 [.ref a0, .ref a1, .ref a2, .int a3]) = some (.ref a0)) ?_
  refine go_al (pc := 21) rfl (rfl : ai_ld 0 (lv_args 0 [.ref a0, .ref a1, .ref a2, .int a3]) = some (.ref a0)) ?_
  obtain ⟨x5, ex5, hh⟩ := bi_bd hh
  refine go_gfR (pc := 22) rfl ex5 ?_
  obtain ⟨x6, ex6, hh⟩ := bi_bd hh
  refine go_gfR (pc := 25) rfl ex6 ?_
  refine go_pi (pc := 28) rfl ?_
  obtain ⟨q7, eq7, hh⟩ := bi_bd hh
  refine go_ivI (pc := 29) rfl rfl (gX2_isTold eq7) (Nat.le_of_ble_eq_true rfl) (bi_up (sX2_isTold eq7) (Nat.le_of_ble_eq_true rfl)) ?_
  obtain ⟨h8, eh8, hh⟩ := bi_bd hh
  refine go_pf (pc := 32) rfl eh8 ?_
  refine go_al (pc := 35) rfl (rfl : ai_ld 0 (lv_args 0 [.ref a0, .ref a1, .ref a2, .int a3]) = some (.ref a0)) ?_
  refine go_al (pc := 36) rfl (rfl : ai_ld 0 (lv_args 0 [.ref a0, .ref a1, .ref a2, .int a3]) = some (.ref a0)) ?_
  obtain ⟨x9, ex9, hh⟩ := bi_bd hh
  refine go_gfR (pc := 37) rfl ex9 ?_
  obtain ⟨x10, ex10, hh⟩ := bi_bd hh
  refine go_gfI (pc := 40) rfl ex10 ?_
  obtain ⟨h11, eh11, hh⟩ := bi_bd hh
  refine go_pf (pc := 43) rfl eh11 ?_
  refine go_al (pc := 46) rfl (rfl : ai_ld 0 (lv_args 0 [.ref a0, .ref a1, .ref a2, .int a3]) = some (.ref a0)) ?_
  refine go_pi (pc := 47) rfl ?_
  obtain ⟨h12, eh12, hh⟩ := bi_bd hh
  refine go_pf (pc := 48) rfl eh12 ?_
  refine go_pi (pc := 51) rfl ?_
  refine go_is (pc := 52) rfl ?_
  exact sX0_begin_54  _ _ _ _ _ (bi_k1 (rfl : ai_ld 0 (lv_args 0 [.ref a0, .ref a1, .ref a2, .int a3]) = some (.ref a0)) rfl rfl) bi_e1 hh
def fJ7_fill_53178_5b (n : Nat) (r5 : ai_H → Nat → Int32 → Int32 → Int32 → Option (Unit × ai_H)) (h : ai_H) (v0 : Nat) (v1 : Int32) (v2 : Int32) (v3 : Int32) : Option (Unit × ai_H) :=
  if v3 ≤ v2 then (
    some ((), h))
  else (
    (wX 1 (fun x => x) n h v0 v2 v1).bind fun h1 =>
    r5 h1 v0 v1 (v2 + 1) v3)
theorem sJ7_fill_53178_5b {n : Nat} {r5 : ai_H → Nat → Int32 → Int32 → Int32 → Option (Unit × ai_H)} {q : Unit × ai_H} {h : ai_H} {v0 : Nat} {v1 : Int32} {v2 : Int32} {v3 : Int32} {lv : ai_L} (R5 : ∀ (h : ai_H) (v0 : Nat) (v1 : Int32) (v2 : Int32) (v3 : Int32) (lv : ai_L), ai_ld 0 lv = some (.ref v0) → ai_ld 1 lv = some (.int v1) → ai_ld 2 lv = some (.int v2) → ai_ld 3 lv = some (.int v3) → r5 h v0 v1 v2 v3 = some q → bi_go 0 tJ7_fill_53178 n (fV n q) 5 lv [] h) (l0 : ai_ld 0 lv = some (.ref v0)) (l1 : ai_ld 1 lv = some (.int v1)) (l2 : ai_ld 2 lv = some (.int v2)) (l3 : ai_ld 3 lv = some (.int v3)) (hh : fJ7_fill_53178_5b n r5 h v0 v1 v2 v3 = some q) : bi_go 0 tJ7_fill_53178 n (fV n q) 5 lv [] h := by
  unfold fJ7_fill_53178_5b at hh
  refine go_il (pc := 5) rfl l2 ?_
  refine go_il (pc := 6) rfl l3 ?_
  refine bi_ite hh (fun hc hh => ?_) (fun hc hh => ?_)
  · refine go_cmpgeT (pc := 7) rfl hc ?_
    exact go_rv (pc := 20) rfl hh
  · refine go_cmpgeF (pc := 7) rfl hc ?_
    refine go_al (pc := 10) rfl l0 ?_
    refine go_il (pc := 11) rfl l2 ?_
    refine go_il (pc := 12) rfl l1 ?_
    obtain ⟨h1, eh1, hh⟩ := bi_bd hh
    refine go_iast (pc := 13) rfl eh1 ?_
    refine go_inc (pc := 14) rfl l2 ?_
    refine go_goto (pc := 17) rfl ?_
    exact R5 _ _ _ _ _ _ (bi_k1 l0 rfl rfl) (bi_k1 l1 rfl rfl) bi_e1 (bi_k1 l3 rfl rfl) hh
def fJ7_fill_53178_5 (n : Nat) : Nat → ai_H → Nat → Int32 → Int32 → Int32 → Option (Unit × ai_H)
  | 0 => fun _ _ _ _ _ => none
  | k + 1 => fun h v0 v1 v2 v3 => fJ7_fill_53178_5b n (fJ7_fill_53178_5 n k) h v0 v1 v2 v3
theorem sJ7_fill_53178_5 {n : Nat} {q : Unit × ai_H} : ∀ (k : Nat) (h : ai_H) (v0 : Nat) (v1 : Int32) (v2 : Int32) (v3 : Int32) (lv : ai_L), ai_ld 0 lv = some (.ref v0) → ai_ld 1 lv = some (.int v1) → ai_ld 2 lv = some (.int v2) → ai_ld 3 lv = some (.int v3) → fJ7_fill_53178_5 n k h v0 v1 v2 v3 = some q → bi_go 0 tJ7_fill_53178 n (fV n q) 5 lv [] h
  | 0 => fun _ _ _ _ _ _ _ _ _ _ hh => by cases hh
  | k + 1 => fun h v0 v1 v2 v3 lv l0 l1 l2 l3 hh => sJ7_fill_53178_5b  (sJ7_fill_53178_5  k) l0 l1 l2 l3 hh
def fJ7_fill_53178 (n : Nat) (h : ai_H) (a0 : Nat) (a1 : Int32) : Option (Unit × ai_H) :=
  (lA n h a0).bind fun x1 =>
  fJ7_fill_53178_5 n bi_K h a0 a1 (0 : Int32) x1
theorem sJ7_fill_53178 {n : Nat} {h : ai_H} {a0 : Nat} {a1 : Int32} {q : Unit × ai_H} (hh : fJ7_fill_53178 n h a0 a1 = some q) : bi_sp 1 268 [.ref a0, .int a1] h n (fV n q) := by
  refine bi_en (D := 0) (T := tJ7_fill_53178) (funext fun pc => rfl) rfl (Nat.le_of_ble_eq_true rfl) ?_
  unfold fJ7_fill_53178 at hh
  refine go_pi (pc := 0) rfl ?_
  refine go_is (pc := 1) rfl ?_
  refine go_al (pc := 2) rfl (bi_k1 (rfl : ai_ld 0 (lv_args 0 [.ref a0, .int a1]) = some (.ref a0)) rfl rfl) ?_
  obtain ⟨x1, ex1, hh⟩ := bi_bd hh
  refine go_len (pc := 3) rfl ex1 ?_
  refine go_is (pc := 4) rfl ?_
  exact sJ7_fill_53178_5  _ _ _ _ _ _ _ (bi_k1 (bi_k1 (rfl : ai_ld 0 (lv_args 0 [.ref a0, .int a1]) = some (.ref a0)) rfl rfl) rfl rfl) (bi_k1 (bi_k1 (rfl : ai_ld 1 (lv_args 0 [.ref a0, .int a1]) = some (.int a1)) rfl rfl) rfl rfl) (bi_k1 bi_e1 rfl rfl) bi_e1 hh
def fX0_tryOtherwise (n : Nat) (h : ai_H) (a0 : Nat) (a1 : Int32) (a2 : Int32) : Option (Unit × ai_H) :=
  (kO n h a0 0).bind fun _ =>
  if a1 = 0 then (
    (sF n h a0 0 2 (.int) (.int (2 : Int32))).bind fun h1 =>
    some ((), h1))
  else (
    if a1 = 1 then (
      (sF n h a0 0 3 (.boolean) (.int (0 : Int32))).bind fun h2 =>
      some ((), h2))
    else (
      if a1 = 2 then (
        (sF n h a0 0 6 (.int) (.int a2)).bind fun h3 =>
        some ((), h3))
      else (
        if a1 = 3 then (
          (pR n h a0 0 7).bind fun x4 =>
          (fJ7_fill_53178 n h x4 (9 : Int32)).bind fun q5 =>
          some ((), q5.2))
        else (
          (sF n h a0 0 4 (.boolean) (.int (0 : Int32))).bind fun h6 =>
          (sF n h6 a0 0 5 (.int) (.int (400 : Int32))).bind fun h7 =>
          some ((), h7)))))
theorem gX0_tryOtherwise {n : Nat} {h : ai_H} {a0 : Nat} {a1 : Int32} {a2 : Int32} {q : Unit × ai_H} (hh : fX0_tryOtherwise n h a0 a1 a2 = some q) : kO n h a0 0 = some () := by
  obtain ⟨_, e, -⟩ := bi_bd hh
  exact e
theorem sX0_tryOtherwise {n : Nat} {h : ai_H} {a0 : Nat} {a1 : Int32} {a2 : Int32} {q : Unit × ai_H} (hh : fX0_tryOtherwise n h a0 a1 a2 = some q) : bi_sp 2 2 [.ref a0, .int a1, .int a2] h n (fV n q) := by
  refine bi_en (D := 1) (T := tX0_tryOtherwise) (funext fun pc => rfl) rfl (Nat.le_of_ble_eq_true rfl) ?_
  unfold fX0_tryOtherwise at hh
  obtain ⟨_, eO, hh⟩ := bi_bd hh
  refine go_il (pc := 0) rfl (rfl : ai_ld 1 (lv_args 0 [.ref a0, .int a1, .int a2]) = some (.int a1)) ?_
  refine bi_ite hh (fun hc0 hh => ?_) (fun hc0 hh => ?_)
  · refine go_swc (t := 32) 0 (pc := 1) rfl hc0 (by decide) ?_
    refine go_al (pc := 32) rfl (rfl : ai_ld 0 (lv_args 0 [.ref a0, .int a1, .int a2]) = some (.ref a0)) ?_
    refine go_pi (pc := 33) rfl ?_
    obtain ⟨h1, eh1, hh⟩ := bi_bd hh
    refine go_pf (pc := 34) rfl eh1 ?_
    refine go_goto (pc := 37) rfl ?_
    exact go_rv (pc := 80) rfl hh
  · skip
    refine bi_ite hh (fun hc1 hh => ?_) (fun hc1 hh => ?_)
    · refine go_swc (t := 40) 1 (pc := 1) rfl hc1 (by decide) ?_
      refine go_al (pc := 40) rfl (rfl : ai_ld 0 (lv_args 0 [.ref a0, .int a1, .int a2]) = some (.ref a0)) ?_
      refine go_pi (pc := 41) rfl ?_
      obtain ⟨h2, eh2, hh⟩ := bi_bd hh
      refine go_pf (pc := 42) rfl eh2 ?_
      refine go_goto (pc := 45) rfl ?_
      exact go_rv (pc := 80) rfl hh
    · skip
      refine bi_ite hh (fun hc2 hh => ?_) (fun hc2 hh => ?_)
      · refine go_swc (t := 48) 2 (pc := 1) rfl hc2 (by decide) ?_
        refine go_al (pc := 48) rfl (rfl : ai_ld 0 (lv_args 0 [.ref a0, .int a1, .int a2]) = some (.ref a0)) ?_
        refine go_il (pc := 49) rfl (rfl : ai_ld 2 (lv_args 0 [.ref a0, .int a1, .int a2]) = some (.int a2)) ?_
        obtain ⟨h3, eh3, hh⟩ := bi_bd hh
        refine go_pf (pc := 50) rfl eh3 ?_
        refine go_goto (pc := 53) rfl ?_
        exact go_rv (pc := 80) rfl hh
      · skip
        refine bi_ite hh (fun hc3 hh => ?_) (fun hc3 hh => ?_)
        · refine go_swc (t := 56) 3 (pc := 1) rfl hc3 (by decide) ?_
          refine go_al (pc := 56) rfl (rfl : ai_ld 0 (lv_args 0 [.ref a0, .int a1, .int a2]) = some (.ref a0)) ?_
          obtain ⟨x4, ex4, hh⟩ := bi_bd hh
          refine go_gfR (pc := 57) rfl ex4 ?_
          refine go_pi (pc := 60) rfl ?_
          obtain ⟨q5, eq5, hh⟩ := bi_bd hh
          refine go_iSV (pc := 62) rfl (Nat.le_of_ble_eq_true rfl) rfl (Nat.le_of_ble_eq_true rfl) (bi_up (sJ7_fill_53178 eq5) (Nat.le_of_ble_eq_true rfl)) ?_
          refine go_goto (pc := 65) rfl ?_
          exact go_rv (pc := 80) rfl hh
        · skip
          refine go_swd (pc := 1) rfl (fun i hi => match i, hi with | 0, _ => Or.inr (lv_neT hc0 (by decide)) | 1, _ => Or.inr (lv_neT hc1 (by decide)) | 2, _ => Or.inr (lv_neT hc2 (by decide)) | 3, _ => Or.inr (lv_neT hc3 (by decide)) | i + 4, hi => absurd hi (Nat.not_lt.mpr (Nat.le_add_left _ _))) ?_
          refine go_al (pc := 68) rfl (rfl : ai_ld 0 (lv_args 0 [.ref a0, .int a1, .int a2]) = some (.ref a0)) ?_
          refine go_pi (pc := 69) rfl ?_
          obtain ⟨h6, eh6, hh⟩ := bi_bd hh
          refine go_pf (pc := 70) rfl eh6 ?_
          refine go_al (pc := 73) rfl (rfl : ai_ld 0 (lv_args 0 [.ref a0, .int a1, .int a2]) = some (.ref a0)) ?_
          refine go_pi (pc := 74) rfl ?_
          obtain ⟨h7, eh7, hh⟩ := bi_bd hh
          refine go_pf (pc := 77) rfl eh7 ?_
          exact go_rv (pc := 80) rfl hh
def fX0_isSnowing_36 (n : Nat) (h : ai_H) (v1 : Int32) : Option (Int32 × ai_H) :=
  if v1 < (50 : Int32) then (
    some ((0 : Int32), h))
  else (
    some ((1 : Int32), h))
theorem sX0_isSnowing_36 {n : Nat} {q : Int32 × ai_H} {h : ai_H} {v1 : Int32} {lv : ai_L} (l1 : ai_ld 1 lv = some (.int v1)) (hh : fX0_isSnowing_36 n h v1 = some q) : bi_go 0 tX0_isSnowing n (fI n q) 36 lv [] h := by
  unfold fX0_isSnowing_36 at hh
  refine go_il (pc := 36) rfl l1 ?_
  refine go_pi (pc := 37) rfl ?_
  refine bi_ite hh (fun hc hh => ?_) (fun hc hh => ?_)
  · refine go_cmpltT (pc := 39) rfl hc ?_
    refine go_pi (pc := 46) rfl ?_
    exact go_rz (pc := 47) rfl bi_z0 hh
  · refine go_cmpltF (pc := 39) rfl hc ?_
    refine go_pi (pc := 42) rfl ?_
    refine go_goto (pc := 43) rfl ?_
    exact go_rz (pc := 47) rfl bi_z1 hh
def fX0_isSnowing (n : Nat) (h : ai_H) (a0 : Nat) : Option (Int32 × ai_H) :=
  (kO n h a0 0).bind fun _ =>
  (pR n h a0 0 0).bind fun x1 =>
  (pI n h x1 8 7).bind fun x2 =>
  (pI n h a0 0 2).bind fun x3 =>
  if x3 = (2 : Int32) then (
    some ((0 : Int32), h))
  else (
    if ¬ x2 = 0 then (
      (pI n h a0 0 2).bind fun x4 =>
      if x4 = (1 : Int32) then (
        fX0_isSnowing_36 n h x2)
      else (
        if ¬ x2 = (100 : Int32) then (
          (pR n h a0 0 1).bind fun x5 =>
          (pR n h a0 0 1).bind fun x6 =>
          (pI n h x6 5 1).bind fun x7 =>
          (sF n h x5 5 1 (.int) (.int (((x7 * (1103515245 : Int32)) + (12345 : Int32)) &&& (2147483647 : Int32)))).bind fun h8 =>
          (pR n h8 a0 0 1).bind fun x9 =>
          (pI n h8 x9 5 1).bind fun x10 =>
          (dI x10 (65536 : Int32)).bind fun x11 =>
          (rI x11 (100 : Int32)).bind fun x12 =>
          if x2 ≤ x12 then (
            some ((0 : Int32), h8))
          else (
            some ((1 : Int32), h8)))
        else (
          fX0_isSnowing_36 n h x2)))
    else (
      some ((0 : Int32), h)))
theorem gX0_isSnowing {n : Nat} {h : ai_H} {a0 : Nat} {q : Int32 × ai_H} (hh : fX0_isSnowing n h a0 = some q) : kO n h a0 0 = some () := by
  obtain ⟨_, e, -⟩ := bi_bd hh
  exact e
theorem sX0_isSnowing {n : Nat} {h : ai_H} {a0 : Nat} {q : Int32 × ai_H} (hh : fX0_isSnowing n h a0 = some q) : bi_sp 1 4 [.ref a0] h n (fI n q) := by
  refine bi_en (D := 0) (T := tX0_isSnowing) (funext fun pc => rfl) rfl (Nat.le_of_ble_eq_true rfl) ?_
  unfold fX0_isSnowing at hh
  obtain ⟨_, eO, hh⟩ := bi_bd hh
  refine go_al (pc := 0) rfl (rfl : ai_ld 0 (lv_args 0 [.ref a0]) = some (.ref a0)) ?_
  obtain ⟨x1, ex1, hh⟩ := bi_bd hh
  refine go_gfR (pc := 1) rfl ex1 ?_
  obtain ⟨x2, ex2, hh⟩ := bi_bd hh
  refine go_gfI (pc := 4) rfl ex2 ?_
  refine go_is (pc := 7) rfl ?_
  refine go_al (pc := 8) rfl (bi_k1 (rfl : ai_ld 0 (lv_args 0 [.ref a0]) = some (.ref a0)) rfl rfl) ?_
  obtain ⟨x3, ex3, hh⟩ := bi_bd hh
  refine go_gfI (pc := 9) rfl ex3 ?_
  refine go_pi (pc := 12) rfl ?_
  refine bi_ite hh (fun hc hh => ?_) (fun hc hh => ?_)
  · refine go_cmpeqT (pc := 13) rfl hc ?_
    refine go_pi (pc := 20) rfl ?_
    exact go_rz (pc := 21) rfl bi_z0 hh
  · refine go_cmpeqF (pc := 13) rfl hc ?_
    refine go_il (pc := 16) rfl bi_e1 ?_
    refine bi_ite hh (fun hc hh => ?_) (fun hc hh => ?_)
    · refine go_ifneT (pc := 17) rfl hc ?_
      refine go_al (pc := 22) rfl (bi_k1 (rfl : ai_ld 0 (lv_args 0 [.ref a0]) = some (.ref a0)) rfl rfl) ?_
      obtain ⟨x4, ex4, hh⟩ := bi_bd hh
      refine go_gfI (pc := 23) rfl ex4 ?_
      refine go_pi (pc := 26) rfl ?_
      refine bi_ite hh (fun hc hh => ?_) (fun hc hh => ?_)
      · refine go_cmpeqT (pc := 27) rfl hc ?_
        exact sX0_isSnowing_36  bi_e1 hh
      · refine go_cmpeqF (pc := 27) rfl hc ?_
        refine go_il (pc := 30) rfl bi_e1 ?_
        refine go_pi (pc := 31) rfl ?_
        refine bi_ite hh (fun hc hh => ?_) (fun hc hh => ?_)
        · refine go_cmpneT (pc := 33) rfl hc ?_
          refine go_al (pc := 48) rfl (bi_k1 (rfl : ai_ld 0 (lv_args 0 [.ref a0]) = some (.ref a0)) rfl rfl) ?_
          obtain ⟨x5, ex5, hh⟩ := bi_bd hh
          refine go_gfR (pc := 49) rfl ex5 ?_
          refine go_al (pc := 52) rfl (bi_k1 (rfl : ai_ld 0 (lv_args 0 [.ref a0]) = some (.ref a0)) rfl rfl) ?_
          obtain ⟨x6, ex6, hh⟩ := bi_bd hh
          refine go_gfR (pc := 53) rfl ex6 ?_
          obtain ⟨x7, ex7, hh⟩ := bi_bd hh
          refine go_gfI (pc := 56) rfl ex7 ?_
          refine go_pi (pc := 59) rfl ?_
          refine go_imul (pc := 61) rfl ?_
          refine go_pi (pc := 62) rfl ?_
          refine go_iadd (pc := 65) rfl ?_
          refine go_pi (pc := 66) rfl ?_
          refine go_iand (pc := 68) rfl ?_
          obtain ⟨h8, eh8, hh⟩ := bi_bd hh
          refine go_pf (pc := 69) rfl eh8 ?_
          refine go_al (pc := 72) rfl (bi_k1 (rfl : ai_ld 0 (lv_args 0 [.ref a0]) = some (.ref a0)) rfl rfl) ?_
          obtain ⟨x9, ex9, hh⟩ := bi_bd hh
          refine go_gfR (pc := 73) rfl ex9 ?_
          obtain ⟨x10, ex10, hh⟩ := bi_bd hh
          refine go_gfI (pc := 76) rfl ex10 ?_
          refine go_pi (pc := 79) rfl ?_
          obtain ⟨x11, ex11, hh⟩ := bi_bd hh
          refine go_idiv (pc := 81) rfl ex11 ?_
          refine go_pi (pc := 82) rfl ?_
          obtain ⟨x12, ex12, hh⟩ := bi_bd hh
          refine go_irem (pc := 84) rfl ex12 ?_
          refine go_il (pc := 85) rfl bi_e1 ?_
          refine bi_ite hh (fun hc hh => ?_) (fun hc hh => ?_)
          · refine go_cmpgeT (pc := 86) rfl hc ?_
            refine go_pi (pc := 93) rfl ?_
            exact go_rz (pc := 94) rfl bi_z0 hh
          · refine go_cmpgeF (pc := 86) rfl hc ?_
            refine go_pi (pc := 89) rfl ?_
            refine go_goto (pc := 90) rfl ?_
            exact go_rz (pc := 94) rfl bi_z1 hh
        · refine go_cmpneF (pc := 33) rfl hc ?_
          exact sX0_isSnowing_36  bi_e1 hh
    · refine go_ifneF (pc := 17) rfl hc ?_
      refine go_pi (pc := 20) rfl ?_
      exact go_rz (pc := 21) rfl bi_z0 hh
def fX8_ends (n : Nat) (h : ai_H) (a0 : Nat) (a1 : Int32) : Option (Int32 × ai_H) :=
  (kO n h a0 8).bind fun _ =>
  (pR n h a0 8 1).bind fun x1 =>
  (fX6_cell n h x1 a1 (0 : Int32)).bind fun q2 =>
  (pR n q2.2 a0 8 1).bind fun x3 =>
  (fX6_cell n q2.2 x3 a1 (1 : Int32)).bind fun q4 =>
  some (((1 : Int32) <<< (q2.1 &&& 31)) ||| ((1 : Int32) <<< (q4.1 &&& 31)), q4.2)
theorem gX8_ends {n : Nat} {h : ai_H} {a0 : Nat} {a1 : Int32} {q : Int32 × ai_H} (hh : fX8_ends n h a0 a1 = some q) : kO n h a0 8 = some () := by
  obtain ⟨_, e, -⟩ := bi_bd hh
  exact e
theorem sX8_ends {n : Nat} {h : ai_H} {a0 : Nat} {a1 : Int32} {q : Int32 × ai_H} (hh : fX8_ends n h a0 a1 = some q) : bi_sp 2 70 [.ref a0, .int a1] h n (fI n q) := by
  refine bi_en (D := 1) (T := tX8_ends) (funext fun pc => rfl) rfl (Nat.le_of_ble_eq_true rfl) ?_
  unfold fX8_ends at hh
  obtain ⟨_, eO, hh⟩ := bi_bd hh
  refine go_pi (pc := 0) rfl ?_
  refine go_al (pc := 1) rfl (rfl : ai_ld 0 (lv_args 0 [.ref a0, .int a1]) = some (.ref a0)) ?_
  obtain ⟨x1, ex1, hh⟩ := bi_bd hh
  refine go_gfR (pc := 2) rfl ex1 ?_
  refine go_il (pc := 5) rfl (rfl : ai_ld 1 (lv_args 0 [.ref a0, .int a1]) = some (.int a1)) ?_
  refine go_pi (pc := 6) rfl ?_
  obtain ⟨q2, eq2, hh⟩ := bi_bd hh
  refine go_ivI (pc := 7) rfl rfl (gX6_cell eq2) (Nat.le_of_ble_eq_true rfl) (bi_up (sX6_cell eq2) (Nat.le_of_ble_eq_true rfl)) ?_
  refine go_ishl (pc := 10) rfl ?_
  refine go_pi (pc := 11) rfl ?_
  refine go_al (pc := 12) rfl (rfl : ai_ld 0 (lv_args 0 [.ref a0, .int a1]) = some (.ref a0)) ?_
  obtain ⟨x3, ex3, hh⟩ := bi_bd hh
  refine go_gfR (pc := 13) rfl ex3 ?_
  refine go_il (pc := 16) rfl (rfl : ai_ld 1 (lv_args 0 [.ref a0, .int a1]) = some (.int a1)) ?_
  refine go_pi (pc := 17) rfl ?_
  obtain ⟨q4, eq4, hh⟩ := bi_bd hh
  refine go_ivI (pc := 18) rfl rfl (gX6_cell eq4) (Nat.le_of_ble_eq_true rfl) (bi_up (sX6_cell eq4) (Nat.le_of_ble_eq_true rfl)) ?_
  refine go_ishl (pc := 21) rfl ?_
  refine go_ior (pc := 22) rfl ?_
  exact go_ri (pc := 23) rfl hh
def fX5_isKept (n : Nat) (h : ai_H) (a0 : Nat) (a1 : Int32) : Option (Int32 × ai_H) :=
  (kO n h a0 5).bind fun _ =>
  (pI n h a0 5 4).bind fun x1 =>
  if ((x1 >>> (a1 &&& 31)) &&& (1 : Int32)) = 0 then (
    some ((0 : Int32), h))
  else (
    some ((1 : Int32), h))
theorem gX5_isKept {n : Nat} {h : ai_H} {a0 : Nat} {a1 : Int32} {q : Int32 × ai_H} (hh : fX5_isKept n h a0 a1 = some q) : kO n h a0 5 = some () := by
  obtain ⟨_, e, -⟩ := bi_bd hh
  exact e
theorem sX5_isKept {n : Nat} {h : ai_H} {a0 : Nat} {a1 : Int32} {q : Int32 × ai_H} (hh : fX5_isKept n h a0 a1 = some q) : bi_sp 1 51 [.ref a0, .int a1] h n (fI n q) := by
  refine bi_en (D := 0) (T := tX5_isKept) (funext fun pc => rfl) rfl (Nat.le_of_ble_eq_true rfl) ?_
  unfold fX5_isKept at hh
  obtain ⟨_, eO, hh⟩ := bi_bd hh
  refine go_al (pc := 0) rfl (rfl : ai_ld 0 (lv_args 0 [.ref a0, .int a1]) = some (.ref a0)) ?_
  obtain ⟨x1, ex1, hh⟩ := bi_bd hh
  refine go_gfI (pc := 1) rfl ex1 ?_
  refine go_il (pc := 4) rfl (rfl : ai_ld 1 (lv_args 0 [.ref a0, .int a1]) = some (.int a1)) ?_
  refine go_ishr (pc := 5) rfl ?_
  refine go_pi (pc := 6) rfl ?_
  refine go_iand (pc := 7) rfl ?_
  refine bi_ite hh (fun hc hh => ?_) (fun hc hh => ?_)
  · refine go_ifeqT (pc := 8) rfl hc ?_
    refine go_pi (pc := 15) rfl ?_
    exact go_rz (pc := 16) rfl bi_z0 hh
  · refine go_ifeqF (pc := 8) rfl hc ?_
    refine go_pi (pc := 11) rfl ?_
    refine go_goto (pc := 12) rfl ?_
    exact go_rz (pc := 16) rfl bi_z1 hh
def fX10_isWithin (n : Nat) (h : ai_H) (a0 : Int32) (a1 : Int32) (a2 : Int32) : Option (Int32 × ai_H) :=
  if a1 < a0 then (
    some ((0 : Int32), h))
  else (
    if a2 < a1 then (
      some ((0 : Int32), h))
    else (
      some ((1 : Int32), h)))
theorem sX10_isWithin {n : Nat} {h : ai_H} {a0 : Int32} {a1 : Int32} {a2 : Int32} {q : Int32 × ai_H} (hh : fX10_isWithin n h a0 a1 a2 = some q) : bi_sp 1 97 [.int a0, .int a1, .int a2] h n (fI n q) := by
  refine bi_en (D := 0) (T := tX10_isWithin) (funext fun pc => rfl) rfl (Nat.le_of_ble_eq_true rfl) ?_
  unfold fX10_isWithin at hh
  refine go_il (pc := 0) rfl (rfl : ai_ld 1 (lv_args 0 [.int a0, .int a1, .int a2]) = some (.int a1)) ?_
  refine go_il (pc := 1) rfl (rfl : ai_ld 0 (lv_args 0 [.int a0, .int a1, .int a2]) = some (.int a0)) ?_
  refine bi_ite hh (fun hc hh => ?_) (fun hc hh => ?_)
  · refine go_cmpltT (pc := 2) rfl hc ?_
    refine go_pi (pc := 14) rfl ?_
    exact go_rz (pc := 15) rfl bi_z0 hh
  · refine go_cmpltF (pc := 2) rfl hc ?_
    refine go_il (pc := 5) rfl (rfl : ai_ld 1 (lv_args 0 [.int a0, .int a1, .int a2]) = some (.int a1)) ?_
    refine go_il (pc := 6) rfl (rfl : ai_ld 2 (lv_args 0 [.int a0, .int a1, .int a2]) = some (.int a2)) ?_
    refine bi_ite hh (fun hc hh => ?_) (fun hc hh => ?_)
    · refine go_cmpgtT (pc := 7) rfl hc ?_
      refine go_pi (pc := 14) rfl ?_
      exact go_rz (pc := 15) rfl bi_z0 hh
    · refine go_cmpgtF (pc := 7) rfl hc ?_
      refine go_pi (pc := 10) rfl ?_
      refine go_goto (pc := 11) rfl ?_
      exact go_rz (pc := 15) rfl bi_z1 hh
def fX8_isBullOn_53 (n : Nat) (r2 : ai_H → Nat → Int32 → Int32 → Int32 → Option (Int32 × ai_H)) (h : ai_H) (v0 : Nat) (v1 : Int32) (v2 : Int32) (v3 : Int32) : Option (Int32 × ai_H) :=
  r2 h v0 v1 v2 (v3 + 1)
theorem sX8_isBullOn_53 {n : Nat} {r2 : ai_H → Nat → Int32 → Int32 → Int32 → Option (Int32 × ai_H)} {q : Int32 × ai_H} {h : ai_H} {v0 : Nat} {v1 : Int32} {v2 : Int32} {v3 : Int32} {lv : ai_L} (R2 : ∀ (h : ai_H) (v0 : Nat) (v1 : Int32) (v2 : Int32) (v3 : Int32) (lv : ai_L), ai_ld 0 lv = some (.ref v0) → ai_ld 1 lv = some (.int v1) → ai_ld 2 lv = some (.int v2) → ai_ld 3 lv = some (.int v3) → r2 h v0 v1 v2 v3 = some q → bi_go 1 tX8_isBullOn n (fI n q) 2 lv [] h) (l0 : ai_ld 0 lv = some (.ref v0)) (l1 : ai_ld 1 lv = some (.int v1)) (l2 : ai_ld 2 lv = some (.int v2)) (l3 : ai_ld 3 lv = some (.int v3)) (hh : fX8_isBullOn_53 n r2 h v0 v1 v2 v3 = some q) : bi_go 1 tX8_isBullOn n (fI n q) 53 lv [] h := by
  unfold fX8_isBullOn_53 at hh
  refine go_inc (pc := 53) rfl l3 ?_
  refine go_goto (pc := 56) rfl ?_
  exact R2 _ _ _ _ _ _ (bi_k1 l0 rfl rfl) (bi_k1 l1 rfl rfl) (bi_k1 l2 rfl rfl) bi_e1 hh
def fX8_isBullOn_2b (n : Nat) (r2 : ai_H → Nat → Int32 → Int32 → Int32 → Option (Int32 × ai_H)) (h : ai_H) (v0 : Nat) (v1 : Int32) (v2 : Int32) (v3 : Int32) : Option (Int32 × ai_H) :=
  (pR n h v0 8 4).bind fun x1 =>
  (pI n h x1 6 4).bind fun x2 =>
  if x2 ≤ v3 then (
    some ((0 : Int32), h))
  else (
    (pR n h v0 8 4).bind fun x3 =>
    (fX6_cell n h x3 v3 (0 : Int32)).bind fun q4 =>
    if ¬ q4.1 = v1 then (
      fX8_isBullOn_53 n r2 q4.2 v0 v1 v2 v3)
    else (
      (pR n q4.2 v0 8 4).bind fun x5 =>
      (fX6_cell n q4.2 x5 v3 (1 : Int32)).bind fun q6 =>
      (pR n q6.2 v0 8 4).bind fun x7 =>
      (fX6_cell n q6.2 x7 v3 (2 : Int32)).bind fun q8 =>
      (fX10_isWithin n q8.2 q6.1 v2 q8.1).bind fun q9 =>
      if q9.1 = 0 then (
        fX8_isBullOn_53 n r2 q9.2 v0 v1 v2 v3)
      else (
        some ((1 : Int32), q9.2))))
theorem sX8_isBullOn_2b {n : Nat} {r2 : ai_H → Nat → Int32 → Int32 → Int32 → Option (Int32 × ai_H)} {q : Int32 × ai_H} {h : ai_H} {v0 : Nat} {v1 : Int32} {v2 : Int32} {v3 : Int32} {lv : ai_L} (R2 : ∀ (h : ai_H) (v0 : Nat) (v1 : Int32) (v2 : Int32) (v3 : Int32) (lv : ai_L), ai_ld 0 lv = some (.ref v0) → ai_ld 1 lv = some (.int v1) → ai_ld 2 lv = some (.int v2) → ai_ld 3 lv = some (.int v3) → r2 h v0 v1 v2 v3 = some q → bi_go 1 tX8_isBullOn n (fI n q) 2 lv [] h) (l0 : ai_ld 0 lv = some (.ref v0)) (l1 : ai_ld 1 lv = some (.int v1)) (l2 : ai_ld 2 lv = some (.int v2)) (l3 : ai_ld 3 lv = some (.int v3)) (hh : fX8_isBullOn_2b n r2 h v0 v1 v2 v3 = some q) : bi_go 1 tX8_isBullOn n (fI n q) 2 lv [] h := by
  unfold fX8_isBullOn_2b at hh
  refine go_il (pc := 2) rfl l3 ?_
  refine go_al (pc := 3) rfl l0 ?_
  obtain ⟨x1, ex1, hh⟩ := bi_bd hh
  refine go_gfR (pc := 4) rfl ex1 ?_
  obtain ⟨x2, ex2, hh⟩ := bi_bd hh
  refine go_gfI (pc := 7) rfl ex2 ?_
  refine bi_ite hh (fun hc hh => ?_) (fun hc hh => ?_)
  · refine go_cmpgeT (pc := 10) rfl hc ?_
    refine go_pi (pc := 59) rfl ?_
    exact go_rz (pc := 60) rfl bi_z0 hh
  · refine go_cmpgeF (pc := 10) rfl hc ?_
    refine go_al (pc := 13) rfl l0 ?_
    obtain ⟨x3, ex3, hh⟩ := bi_bd hh
    refine go_gfR (pc := 14) rfl ex3 ?_
    refine go_il (pc := 17) rfl l3 ?_
    refine go_pi (pc := 18) rfl ?_
    obtain ⟨q4, eq4, hh⟩ := bi_bd hh
    refine go_ivI (pc := 19) rfl rfl (gX6_cell eq4) (Nat.le_of_ble_eq_true rfl) (bi_up (sX6_cell eq4) (Nat.le_of_ble_eq_true rfl)) ?_
    refine go_il (pc := 22) rfl l1 ?_
    refine bi_ite hh (fun hc hh => ?_) (fun hc hh => ?_)
    · refine go_cmpneT (pc := 23) rfl hc ?_
      exact sX8_isBullOn_53 R2 l0 l1 l2 l3 hh
    · refine go_cmpneF (pc := 23) rfl hc ?_
      refine go_al (pc := 26) rfl l0 ?_
      obtain ⟨x5, ex5, hh⟩ := bi_bd hh
      refine go_gfR (pc := 27) rfl ex5 ?_
      refine go_il (pc := 30) rfl l3 ?_
      refine go_pi (pc := 31) rfl ?_
      obtain ⟨q6, eq6, hh⟩ := bi_bd hh
      refine go_ivI (pc := 32) rfl rfl (gX6_cell eq6) (Nat.le_of_ble_eq_true rfl) (bi_up (sX6_cell eq6) (Nat.le_of_ble_eq_true rfl)) ?_
      refine go_il (pc := 35) rfl l2 ?_
      refine go_al (pc := 36) rfl l0 ?_
      obtain ⟨x7, ex7, hh⟩ := bi_bd hh
      refine go_gfR (pc := 37) rfl ex7 ?_
      refine go_il (pc := 40) rfl l3 ?_
      refine go_pi (pc := 41) rfl ?_
      obtain ⟨q8, eq8, hh⟩ := bi_bd hh
      refine go_ivI (pc := 42) rfl rfl (gX6_cell eq8) (Nat.le_of_ble_eq_true rfl) (bi_up (sX6_cell eq8) (Nat.le_of_ble_eq_true rfl)) ?_
      obtain ⟨q9, eq9, hh⟩ := bi_bd hh
      refine go_iSI (pc := 45) rfl (Nat.le_of_ble_eq_true rfl) rfl (Nat.le_of_ble_eq_true rfl) (bi_up (sX10_isWithin eq9) (Nat.le_of_ble_eq_true rfl)) ?_
      refine bi_ite hh (fun hc hh => ?_) (fun hc hh => ?_)
      · refine go_ifeqT (pc := 48) rfl hc ?_
        exact sX8_isBullOn_53 R2 l0 l1 l2 l3 hh
      · refine go_ifeqF (pc := 48) rfl hc ?_
        refine go_pi (pc := 51) rfl ?_
        exact go_rz (pc := 52) rfl bi_z1 hh
def fX8_isBullOn_2 (n : Nat) : Nat → ai_H → Nat → Int32 → Int32 → Int32 → Option (Int32 × ai_H)
  | 0 => fun _ _ _ _ _ => none
  | k + 1 => fun h v0 v1 v2 v3 => fX8_isBullOn_2b n (fX8_isBullOn_2 n k) h v0 v1 v2 v3
theorem sX8_isBullOn_2 {n : Nat} {q : Int32 × ai_H} : ∀ (k : Nat) (h : ai_H) (v0 : Nat) (v1 : Int32) (v2 : Int32) (v3 : Int32) (lv : ai_L), ai_ld 0 lv = some (.ref v0) → ai_ld 1 lv = some (.int v1) → ai_ld 2 lv = some (.int v2) → ai_ld 3 lv = some (.int v3) → fX8_isBullOn_2 n k h v0 v1 v2 v3 = some q → bi_go 1 tX8_isBullOn n (fI n q) 2 lv [] h
  | 0 => fun _ _ _ _ _ _ _ _ _ _ hh => by cases hh
  | k + 1 => fun h v0 v1 v2 v3 lv l0 l1 l2 l3 hh => sX8_isBullOn_2b  (sX8_isBullOn_2  k) l0 l1 l2 l3 hh
def fX8_isBullOn (n : Nat) (h : ai_H) (a0 : Nat) (a1 : Int32) (a2 : Int32) : Option (Int32 × ai_H) :=
  (kO n h a0 8).bind fun _ =>
  fX8_isBullOn_2 n bi_K h a0 a1 a2 (0 : Int32)
theorem gX8_isBullOn {n : Nat} {h : ai_H} {a0 : Nat} {a1 : Int32} {a2 : Int32} {q : Int32 × ai_H} (hh : fX8_isBullOn n h a0 a1 a2 = some q) : kO n h a0 8 = some () := by
  obtain ⟨_, e, -⟩ := bi_bd hh
  exact e
theorem sX8_isBullOn {n : Nat} {h : ai_H} {a0 : Nat} {a1 : Int32} {a2 : Int32} {q : Int32 × ai_H} (hh : fX8_isBullOn n h a0 a1 a2 = some q) : bi_sp 2 71 [.ref a0, .int a1, .int a2] h n (fI n q) := by
  refine bi_en (D := 1) (T := tX8_isBullOn) (funext fun pc => rfl) rfl (Nat.le_of_ble_eq_true rfl) ?_
  unfold fX8_isBullOn at hh
  obtain ⟨_, eO, hh⟩ := bi_bd hh
  refine go_pi (pc := 0) rfl ?_
  refine go_is (pc := 1) rfl ?_
  exact sX8_isBullOn_2  _ _ _ _ _ _ _ (bi_k1 (rfl : ai_ld 0 (lv_args 0 [.ref a0, .int a1, .int a2]) = some (.ref a0)) rfl rfl) (bi_k1 (rfl : ai_ld 1 (lv_args 0 [.ref a0, .int a1, .int a2]) = some (.int a1)) rfl rfl) (bi_k1 (rfl : ai_ld 2 (lv_args 0 [.ref a0, .int a1, .int a2]) = some (.int a2)) rfl rfl) bi_e1 hh
def fX0_lookAt_96 (n : Nat) (h : ai_H) (v0 : Nat) (v1 : Int32) (v3 : Nat) (s0 : Int64) (s1 : Int32) (s2 : Nat) : Option (Unit × ai_H) :=
  (wJ n h s2 s1 s0).bind fun h1 =>
  (pR n h1 v0 0 1).bind fun x2 =>
  (pR n h1 x2 5 6).bind fun x3 =>
  (gX 1 n h1 x3 v1).bind fun x4 =>
  (wJ n h1 v3 (5 : Int32) x4.toInt64).bind fun h5 =>
  (pR n h5 v0 0 1).bind fun x6 =>
  (pI n h5 x6 5 0).bind fun x7 =>
  (wJ n h5 v3 (6 : Int32) x7.toInt64).bind fun h8 =>
  some ((), h8)
theorem sX0_lookAt_96 {n : Nat} {q : Unit × ai_H} {h : ai_H} {v0 : Nat} {v1 : Int32} {v3 : Nat} {s0 : Int64} {s1 : Int32} {s2 : Nat} {lv : ai_L} (l0 : ai_ld 0 lv = some (.ref v0)) (l1 : ai_ld 1 lv = some (.int v1)) (l3 : ai_ld 3 lv = some (.ref v3)) (hh : fX0_lookAt_96 n h v0 v1 v3 s0 s1 s2 = some q) : bi_go 1 tX0_lookAt n (fV n q) 96 lv [.long s0, .int s1, .ref s2] h := by
  unfold fX0_lookAt_96 at hh
  obtain ⟨h1, eh1, hh⟩ := bi_bd hh
  refine go_last (pc := 96) rfl eh1 ?_
  refine go_al (pc := 97) rfl l3 ?_
  refine go_pi (pc := 98) rfl ?_
  refine go_al (pc := 99) rfl l0 ?_
  obtain ⟨x2, ex2, hh⟩ := bi_bd hh
  refine go_gfR (pc := 100) rfl ex2 ?_
  obtain ⟨x3, ex3, hh⟩ := bi_bd hh
  refine go_gfR (pc := 103) rfl ex3 ?_
  refine go_il (pc := 106) rfl l1 ?_
  obtain ⟨x4, ex4, hh⟩ := bi_bd hh
  refine go_iald (pc := 107) rfl ex4 ?_
  refine go_i2l (pc := 108) rfl ?_
  obtain ⟨h5, eh5, hh⟩ := bi_bd hh
  refine go_last (pc := 109) rfl eh5 ?_
  refine go_al (pc := 110) rfl l3 ?_
  refine go_pi (pc := 111) rfl ?_
  refine go_al (pc := 113) rfl l0 ?_
  obtain ⟨x6, ex6, hh⟩ := bi_bd hh
  refine go_gfR (pc := 114) rfl ex6 ?_
  obtain ⟨x7, ex7, hh⟩ := bi_bd hh
  refine go_gfI (pc := 117) rfl ex7 ?_
  refine go_i2l (pc := 120) rfl ?_
  obtain ⟨h8, eh8, hh⟩ := bi_bd hh
  refine go_last (pc := 121) rfl eh8 ?_
  exact go_rv (pc := 122) rfl hh
def fX0_lookAt_74 (n : Nat) (h : ai_H) (v0 : Nat) (v1 : Int32) (v2 : Int32) (v3 : Nat) (s0 : Int64) (s1 : Int32) (s2 : Nat) : Option (Unit × ai_H) :=
  (wJ n h s2 s1 s0).bind fun h1 =>
  if ¬ v2 = (-1 : Int32) then (
    (pR n h1 v0 0 1).bind fun x2 =>
    (pR n h1 x2 5 8).bind fun x3 =>
    (gX 1 n h1 x3 v2).bind fun x4 =>
    fX0_lookAt_96 n h1 v0 v1 v3 x4.toInt64 (4 : Int32) v3)
  else (
    fX0_lookAt_96 n h1 v0 v1 v3 (0 : Int64) (4 : Int32) v3)
theorem sX0_lookAt_74 {n : Nat} {q : Unit × ai_H} {h : ai_H} {v0 : Nat} {v1 : Int32} {v2 : Int32} {v3 : Nat} {s0 : Int64} {s1 : Int32} {s2 : Nat} {lv : ai_L} (l0 : ai_ld 0 lv = some (.ref v0)) (l1 : ai_ld 1 lv = some (.int v1)) (l2 : ai_ld 2 lv = some (.int v2)) (l3 : ai_ld 3 lv = some (.ref v3)) (hh : fX0_lookAt_74 n h v0 v1 v2 v3 s0 s1 s2 = some q) : bi_go 1 tX0_lookAt n (fV n q) 74 lv [.long s0, .int s1, .ref s2] h := by
  unfold fX0_lookAt_74 at hh
  obtain ⟨h1, eh1, hh⟩ := bi_bd hh
  refine go_last (pc := 74) rfl eh1 ?_
  refine go_al (pc := 75) rfl l3 ?_
  refine go_pi (pc := 76) rfl ?_
  refine go_il (pc := 77) rfl l2 ?_
  refine go_pi (pc := 78) rfl ?_
  refine bi_ite hh (fun hc hh => ?_) (fun hc hh => ?_)
  · refine go_cmpneT (pc := 79) rfl hc ?_
    refine go_al (pc := 86) rfl l0 ?_
    obtain ⟨x2, ex2, hh⟩ := bi_bd hh
    refine go_gfR (pc := 87) rfl ex2 ?_
    obtain ⟨x3, ex3, hh⟩ := bi_bd hh
    refine go_gfR (pc := 90) rfl ex3 ?_
    refine go_il (pc := 93) rfl l2 ?_
    obtain ⟨x4, ex4, hh⟩ := bi_bd hh
    refine go_iald (pc := 94) rfl ex4 ?_
    refine go_i2l (pc := 95) rfl ?_
    exact sX0_lookAt_96  l0 l1 l3 hh
  · refine go_cmpneF (pc := 79) rfl hc ?_
    refine go_pl (pc := 82) rfl ?_
    refine go_goto (pc := 83) rfl ?_
    exact sX0_lookAt_96  l0 l1 l3 hh
def fX0_lookAt (n : Nat) (h : ai_H) (a0 : Nat) (a1 : Int32) (a2 : Int32) : Option (Unit × ai_H) :=
  (kO n h a0 0).bind fun _ =>
  (pR n h a0 0 0).bind fun x1 =>
  (pR n h x1 8 5).bind fun x2 =>
  (pR n h x2 2 6).bind fun x3 =>
  (pR n h a0 0 0).bind fun x4 =>
  (pR n h x4 8 1).bind fun x5 =>
  (fX6_cell n h x5 a1 (2 : Int32)).bind fun q6 =>
  (wJ n q6.2 x3 (0 : Int32) q6.1.toInt64).bind fun h7 =>
  (pR n h7 a0 0 0).bind fun x8 =>
  (pR n h7 x8 8 1).bind fun x9 =>
  (fX6_cell n h7 x9 a1 (3 : Int32)).bind fun q10 =>
  (wJ n q10.2 x3 (1 : Int32) q10.1.toInt64).bind fun h11 =>
  (pR n h11 a0 0 1).bind fun x12 =>
  (pR n h11 x12 5 5).bind fun x13 =>
  (gX 1 n h11 x13 a1).bind fun x14 =>
  (wJ n h11 x3 (2 : Int32) x14.toInt64).bind fun h15 =>
  if ¬ a2 = (-1 : Int32) then (
    (pR n h15 a0 0 7).bind fun x16 =>
    (gX 1 n h15 x16 a2).bind fun x17 =>
    fX0_lookAt_74 n h15 a0 a1 a2 x3 x17.toInt64 (3 : Int32) x3)
  else (
    fX0_lookAt_74 n h15 a0 a1 a2 x3 (0 : Int64) (3 : Int32) x3)
theorem gX0_lookAt {n : Nat} {h : ai_H} {a0 : Nat} {a1 : Int32} {a2 : Int32} {q : Unit × ai_H} (hh : fX0_lookAt n h a0 a1 a2 = some q) : kO n h a0 0 = some () := by
  obtain ⟨_, e, -⟩ := bi_bd hh
  exact e
theorem sX0_lookAt {n : Nat} {h : ai_H} {a0 : Nat} {a1 : Int32} {a2 : Int32} {q : Unit × ai_H} (hh : fX0_lookAt n h a0 a1 a2 = some q) : bi_sp 2 7 [.ref a0, .int a1, .int a2] h n (fV n q) := by
  refine bi_en (D := 1) (T := tX0_lookAt) (funext fun pc => rfl) rfl (Nat.le_of_ble_eq_true rfl) ?_
  unfold fX0_lookAt at hh
  obtain ⟨_, eO, hh⟩ := bi_bd hh
  refine go_al (pc := 0) rfl (rfl : ai_ld 0 (lv_args 0 [.ref a0, .int a1, .int a2]) = some (.ref a0)) ?_
  obtain ⟨x1, ex1, hh⟩ := bi_bd hh
  refine go_gfR (pc := 1) rfl ex1 ?_
  obtain ⟨x2, ex2, hh⟩ := bi_bd hh
  refine go_gfR (pc := 4) rfl ex2 ?_
  obtain ⟨x3, ex3, hh⟩ := bi_bd hh
  refine go_gfR (pc := 7) rfl ex3 ?_
  refine go_as (pc := 10) rfl ?_
  refine go_al (pc := 11) rfl bi_e1 ?_
  refine go_pi (pc := 12) rfl ?_
  refine go_al (pc := 13) rfl (bi_k1 (rfl : ai_ld 0 (lv_args 0 [.ref a0, .int a1, .int a2]) = some (.ref a0)) rfl rfl) ?_
  obtain ⟨x4, ex4, hh⟩ := bi_bd hh
  refine go_gfR (pc := 14) rfl ex4 ?_
  obtain ⟨x5, ex5, hh⟩ := bi_bd hh
  refine go_gfR (pc := 17) rfl ex5 ?_
  refine go_il (pc := 20) rfl (bi_k1 (rfl : ai_ld 1 (lv_args 0 [.ref a0, .int a1, .int a2]) = some (.int a1)) rfl rfl) ?_
  refine go_pi (pc := 21) rfl ?_
  obtain ⟨q6, eq6, hh⟩ := bi_bd hh
  refine go_ivI (pc := 22) rfl rfl (gX6_cell eq6) (Nat.le_of_ble_eq_true rfl) (bi_up (sX6_cell eq6) (Nat.le_of_ble_eq_true rfl)) ?_
  refine go_i2l (pc := 25) rfl ?_
  obtain ⟨h7, eh7, hh⟩ := bi_bd hh
  refine go_last (pc := 26) rfl eh7 ?_
  refine go_al (pc := 27) rfl bi_e1 ?_
  refine go_pi (pc := 28) rfl ?_
  refine go_al (pc := 29) rfl (bi_k1 (rfl : ai_ld 0 (lv_args 0 [.ref a0, .int a1, .int a2]) = some (.ref a0)) rfl rfl) ?_
  obtain ⟨x8, ex8, hh⟩ := bi_bd hh
  refine go_gfR (pc := 30) rfl ex8 ?_
  obtain ⟨x9, ex9, hh⟩ := bi_bd hh
  refine go_gfR (pc := 33) rfl ex9 ?_
  refine go_il (pc := 36) rfl (bi_k1 (rfl : ai_ld 1 (lv_args 0 [.ref a0, .int a1, .int a2]) = some (.int a1)) rfl rfl) ?_
  refine go_pi (pc := 37) rfl ?_
  obtain ⟨q10, eq10, hh⟩ := bi_bd hh
  refine go_ivI (pc := 38) rfl rfl (gX6_cell eq10) (Nat.le_of_ble_eq_true rfl) (bi_up (sX6_cell eq10) (Nat.le_of_ble_eq_true rfl)) ?_
  refine go_i2l (pc := 41) rfl ?_
  obtain ⟨h11, eh11, hh⟩ := bi_bd hh
  refine go_last (pc := 42) rfl eh11 ?_
  refine go_al (pc := 43) rfl bi_e1 ?_
  refine go_pi (pc := 44) rfl ?_
  refine go_al (pc := 45) rfl (bi_k1 (rfl : ai_ld 0 (lv_args 0 [.ref a0, .int a1, .int a2]) = some (.ref a0)) rfl rfl) ?_
  obtain ⟨x12, ex12, hh⟩ := bi_bd hh
  refine go_gfR (pc := 46) rfl ex12 ?_
  obtain ⟨x13, ex13, hh⟩ := bi_bd hh
  refine go_gfR (pc := 49) rfl ex13 ?_
  refine go_il (pc := 52) rfl (bi_k1 (rfl : ai_ld 1 (lv_args 0 [.ref a0, .int a1, .int a2]) = some (.int a1)) rfl rfl) ?_
  obtain ⟨x14, ex14, hh⟩ := bi_bd hh
  refine go_iald (pc := 53) rfl ex14 ?_
  refine go_i2l (pc := 54) rfl ?_
  obtain ⟨h15, eh15, hh⟩ := bi_bd hh
  refine go_last (pc := 55) rfl eh15 ?_
  refine go_al (pc := 56) rfl bi_e1 ?_
  refine go_pi (pc := 57) rfl ?_
  refine go_il (pc := 58) rfl (bi_k1 (rfl : ai_ld 2 (lv_args 0 [.ref a0, .int a1, .int a2]) = some (.int a2)) rfl rfl) ?_
  refine go_pi (pc := 59) rfl ?_
  refine bi_ite hh (fun hc hh => ?_) (fun hc hh => ?_)
  · refine go_cmpneT (pc := 60) rfl hc ?_
    refine go_al (pc := 67) rfl (bi_k1 (rfl : ai_ld 0 (lv_args 0 [.ref a0, .int a1, .int a2]) = some (.ref a0)) rfl rfl) ?_
    obtain ⟨x16, ex16, hh⟩ := bi_bd hh
    refine go_gfR (pc := 68) rfl ex16 ?_
    refine go_il (pc := 71) rfl (bi_k1 (rfl : ai_ld 2 (lv_args 0 [.ref a0, .int a1, .int a2]) = some (.int a2)) rfl rfl) ?_
    obtain ⟨x17, ex17, hh⟩ := bi_bd hh
    refine go_iald (pc := 72) rfl ex17 ?_
    refine go_i2l (pc := 73) rfl ?_
    exact sX0_lookAt_74  (bi_k1 (rfl : ai_ld 0 (lv_args 0 [.ref a0, .int a1, .int a2]) = some (.ref a0)) rfl rfl) (bi_k1 (rfl : ai_ld 1 (lv_args 0 [.ref a0, .int a1, .int a2]) = some (.int a1)) rfl rfl) (bi_k1 (rfl : ai_ld 2 (lv_args 0 [.ref a0, .int a1, .int a2]) = some (.int a2)) rfl rfl) bi_e1 hh
  · refine go_cmpneF (pc := 60) rfl hc ?_
    refine go_pl (pc := 63) rfl ?_
    refine go_goto (pc := 64) rfl ?_
    exact sX0_lookAt_74  (bi_k1 (rfl : ai_ld 0 (lv_args 0 [.ref a0, .int a1, .int a2]) = some (.ref a0)) rfl rfl) (bi_k1 (rfl : ai_ld 1 (lv_args 0 [.ref a0, .int a1, .int a2]) = some (.int a1)) rfl rfl) (bi_k1 (rfl : ai_ld 2 (lv_args 0 [.ref a0, .int a1, .int a2]) = some (.int a2)) rfl rfl) bi_e1 hh
def fX7_isName (n : Nat) (h : ai_H) (a0 : Int32) : Option (Int32 × ai_H) :=
  if a0 < (15 : Int32) then (
    some ((0 : Int32), h))
  else (
    if (21 : Int32) < a0 then (
      some ((0 : Int32), h))
    else (
      some ((1 : Int32), h)))
theorem sX7_isName {n : Nat} {h : ai_H} {a0 : Int32} {q : Int32 × ai_H} (hh : fX7_isName n h a0 = some q) : bi_sp 1 60 [.int a0] h n (fI n q) := by
  refine bi_en (D := 0) (T := tX7_isName) (funext fun pc => rfl) rfl (Nat.le_of_ble_eq_true rfl) ?_
  unfold fX7_isName at hh
  refine go_il (pc := 0) rfl (rfl : ai_ld 0 (lv_args 0 [.int a0]) = some (.int a0)) ?_
  refine go_pi (pc := 1) rfl ?_
  refine bi_ite hh (fun hc hh => ?_) (fun hc hh => ?_)
  · refine go_cmpltT (pc := 3) rfl hc ?_
    refine go_pi (pc := 16) rfl ?_
    exact go_rz (pc := 17) rfl bi_z0 hh
  · refine go_cmpltF (pc := 3) rfl hc ?_
    refine go_il (pc := 6) rfl (rfl : ai_ld 0 (lv_args 0 [.int a0]) = some (.int a0)) ?_
    refine go_pi (pc := 7) rfl ?_
    refine bi_ite hh (fun hc hh => ?_) (fun hc hh => ?_)
    · refine go_cmpgtT (pc := 9) rfl hc ?_
      refine go_pi (pc := 16) rfl ?_
      exact go_rz (pc := 17) rfl bi_z0 hh
    · refine go_cmpgtF (pc := 9) rfl hc ?_
      refine go_pi (pc := 12) rfl ?_
      refine go_goto (pc := 13) rfl ?_
      exact go_rz (pc := 17) rfl bi_z1 hh
def fX2_join_128 (n : Nat) (h : ai_H) : Option (Int64 × ai_H) :=
  some ((1 : Int64), h)
theorem sX2_join_128 {n : Nat} {q : Int64 × ai_H} {h : ai_H} {lv : ai_L} (hh : fX2_join_128 n h = some q) : bi_go 0 tX2_join n (fJ n q) 128 lv [] h := by
  unfold fX2_join_128 at hh
  refine go_pl (pc := 128) rfl ?_
  refine go_goto (pc := 129) rfl ?_
  exact go_rl (pc := 133) rfl hh
def fX2_join (n : Nat) (h : ai_H) (a0 : Int32) (a1 : Int64) (a2 : Int64) : Option (Int64 × ai_H) :=
  if a0 = 12 then (
    if ¬ (lg_cmp a1 (0 : Int64)) = 0 then (
      fX2_join_128 n h)
    else (
      if (lg_cmp a2 (0 : Int64)) = 0 then (
        some ((0 : Int64), h))
      else (
        fX2_join_128 n h)))
  else (
    if a0 = 13 then (
      if (lg_cmp a1 (0 : Int64)) = 0 then (
        some ((0 : Int64), h))
      else (
        if (lg_cmp a2 (0 : Int64)) = 0 then (
          some ((0 : Int64), h))
        else (
          some ((1 : Int64), h))))
    else (
      if a0 = 27 then (
        if 0 ≤ (lg_cmp a1 a2) then (
          some ((0 : Int64), h))
        else (
          some ((1 : Int64), h)))
      else (
        if a0 = 28 then (
          if 0 < (lg_cmp a1 a2) then (
            some ((0 : Int64), h))
          else (
            some ((1 : Int64), h)))
        else (
          if a0 = 29 then (
            if ¬ (lg_cmp a1 a2) = 0 then (
              some ((0 : Int64), h))
            else (
              some ((1 : Int64), h)))
          else (
            if a0 = 30 then (
              if (lg_cmp a1 a2) = 0 then (
                some ((0 : Int64), h))
              else (
                some ((1 : Int64), h)))
            else (
              if a0 = 31 then (
                if (lg_cmp a1 a2) < 0 then (
                  some ((0 : Int64), h))
                else (
                  some ((1 : Int64), h)))
              else (
                if a0 = 32 then (
                  if (lg_cmp a1 a2) ≤ 0 then (
                    some ((0 : Int64), h))
                  else (
                    some ((1 : Int64), h)))
                else (
                  if a0 = 33 then (
                    some (a1 + a2, h))
                  else (
                    if a0 = 34 then (
                      some (a1 - a2, h))
                    else (
                      if a0 = 35 then (
                        if (lg_cmp a1 (0 : Int64)) = 0 then (
                          some (a1 * a2, h))
                        else (
                          (dJ (1000000000000 : Int64) (if 0 < a1 then a1 else -a1)).bind fun x1 =>
                          if (lg_cmp (if 0 < a2 then a2 else -a2) x1) ≤ 0 then (
                            some (a1 * a2, h))
                          else (
                            some ((-9223372036854775808 : Int64), h))))
                      else (
                        if a0 = 36 then (
                          if ¬ (lg_cmp a2 (0 : Int64)) = 0 then (
                            (dJ a1 a2).bind fun x2 =>
                            some (x2, h))
                          else (
                            some ((-9223372036854775808 : Int64), h)))
                        else (
                          some ((-9223372036854775808 : Int64), h)))))))))))))
theorem sX2_join {n : Nat} {h : ai_H} {a0 : Int32} {a1 : Int64} {a2 : Int64} {q : Int64 × ai_H} (hh : fX2_join n h a0 a1 a2 = some q) : bi_sp 1 21 [.int a0, .long a1, .long a2] h n (fJ n q) := by
  refine bi_en (D := 0) (T := tX2_join) (funext fun pc => rfl) rfl (Nat.le_of_ble_eq_true rfl) ?_
  unfold fX2_join at hh
  refine go_il (pc := 0) rfl (rfl : ai_ld 0 (lv_args 0 [.int a0, .long a1, .long a2]) = some (.int a0)) ?_
  refine bi_ite hh (fun hc0 hh => ?_) (fun hc0 hh => ?_)
  · refine go_swc (t := 116) 12 (pc := 1) rfl hc0 (by decide) ?_
    refine go_ll (pc := 116) rfl (rfl : ai_ld 1 (lv_args 0 [.int a0, .long a1, .long a2]) = some (.long a1)) ?_
    refine go_pl (pc := 117) rfl ?_
    refine go_lcmp (pc := 118) rfl ?_
    refine bi_ite hh (fun hc hh => ?_) (fun hc hh => ?_)
    · refine go_ifneT (pc := 119) rfl hc ?_
      exact sX2_join_128   hh
    · refine go_ifneF (pc := 119) rfl hc ?_
      refine go_ll (pc := 122) rfl (rfl : ai_ld 3 (lv_args 0 [.int a0, .long a1, .long a2]) = some (.long a2)) ?_
      refine go_pl (pc := 123) rfl ?_
      refine go_lcmp (pc := 124) rfl ?_
      refine bi_ite hh (fun hc hh => ?_) (fun hc hh => ?_)
      · refine go_ifeqT (pc := 125) rfl hc ?_
        refine go_pl (pc := 132) rfl ?_
        exact go_rl (pc := 133) rfl hh
      · refine go_ifeqF (pc := 125) rfl hc ?_
        exact sX2_join_128   hh
  · skip
    refine bi_ite hh (fun hc1 hh => ?_) (fun hc1 hh => ?_)
    · refine go_swc (t := 134) 13 (pc := 1) rfl hc1 (by decide) ?_
      refine go_ll (pc := 134) rfl (rfl : ai_ld 1 (lv_args 0 [.int a0, .long a1, .long a2]) = some (.long a1)) ?_
      refine go_pl (pc := 135) rfl ?_
      refine go_lcmp (pc := 136) rfl ?_
      refine bi_ite hh (fun hc hh => ?_) (fun hc hh => ?_)
      · refine go_ifeqT (pc := 137) rfl hc ?_
        refine go_pl (pc := 150) rfl ?_
        exact go_rl (pc := 151) rfl hh
      · refine go_ifeqF (pc := 137) rfl hc ?_
        refine go_ll (pc := 140) rfl (rfl : ai_ld 3 (lv_args 0 [.int a0, .long a1, .long a2]) = some (.long a2)) ?_
        refine go_pl (pc := 141) rfl ?_
        refine go_lcmp (pc := 142) rfl ?_
        refine bi_ite hh (fun hc hh => ?_) (fun hc hh => ?_)
        · refine go_ifeqT (pc := 143) rfl hc ?_
          refine go_pl (pc := 150) rfl ?_
          exact go_rl (pc := 151) rfl hh
        · refine go_ifeqF (pc := 143) rfl hc ?_
          refine go_pl (pc := 146) rfl ?_
          refine go_goto (pc := 147) rfl ?_
          exact go_rl (pc := 151) rfl hh
    · skip
      refine bi_ite hh (fun hc15 hh => ?_) (fun hc15 hh => ?_)
      · refine go_swc (t := 152) 27 (pc := 1) rfl hc15 (by decide) ?_
        refine go_ll (pc := 152) rfl (rfl : ai_ld 1 (lv_args 0 [.int a0, .long a1, .long a2]) = some (.long a1)) ?_
        refine go_ll (pc := 153) rfl (rfl : ai_ld 3 (lv_args 0 [.int a0, .long a1, .long a2]) = some (.long a2)) ?_
        refine go_lcmp (pc := 154) rfl ?_
        refine bi_ite hh (fun hc hh => ?_) (fun hc hh => ?_)
        · refine go_ifgeT (pc := 155) rfl hc ?_
          refine go_pl (pc := 162) rfl ?_
          exact go_rl (pc := 163) rfl hh
        · refine go_ifgeF (pc := 155) rfl hc ?_
          refine go_pl (pc := 158) rfl ?_
          refine go_goto (pc := 159) rfl ?_
          exact go_rl (pc := 163) rfl hh
      · skip
        refine bi_ite hh (fun hc16 hh => ?_) (fun hc16 hh => ?_)
        · refine go_swc (t := 164) 28 (pc := 1) rfl hc16 (by decide) ?_
          refine go_ll (pc := 164) rfl (rfl : ai_ld 1 (lv_args 0 [.int a0, .long a1, .long a2]) = some (.long a1)) ?_
          refine go_ll (pc := 165) rfl (rfl : ai_ld 3 (lv_args 0 [.int a0, .long a1, .long a2]) = some (.long a2)) ?_
          refine go_lcmp (pc := 166) rfl ?_
          refine bi_ite hh (fun hc hh => ?_) (fun hc hh => ?_)
          · refine go_ifgtT (pc := 167) rfl hc ?_
            refine go_pl (pc := 174) rfl ?_
            exact go_rl (pc := 175) rfl hh
          · refine go_ifgtF (pc := 167) rfl hc ?_
            refine go_pl (pc := 170) rfl ?_
            refine go_goto (pc := 171) rfl ?_
            exact go_rl (pc := 175) rfl hh
        · skip
          refine bi_ite hh (fun hc17 hh => ?_) (fun hc17 hh => ?_)
          · refine go_swc (t := 176) 29 (pc := 1) rfl hc17 (by decide) ?_
            refine go_ll (pc := 176) rfl (rfl : ai_ld 1 (lv_args 0 [.int a0, .long a1, .long a2]) = some (.long a1)) ?_
            refine go_ll (pc := 177) rfl (rfl : ai_ld 3 (lv_args 0 [.int a0, .long a1, .long a2]) = some (.long a2)) ?_
            refine go_lcmp (pc := 178) rfl ?_
            refine bi_ite hh (fun hc hh => ?_) (fun hc hh => ?_)
            · refine go_ifneT (pc := 179) rfl hc ?_
              refine go_pl (pc := 186) rfl ?_
              exact go_rl (pc := 187) rfl hh
            · refine go_ifneF (pc := 179) rfl hc ?_
              refine go_pl (pc := 182) rfl ?_
              refine go_goto (pc := 183) rfl ?_
              exact go_rl (pc := 187) rfl hh
          · skip
            refine bi_ite hh (fun hc18 hh => ?_) (fun hc18 hh => ?_)
            · refine go_swc (t := 188) 30 (pc := 1) rfl hc18 (by decide) ?_
              refine go_ll (pc := 188) rfl (rfl : ai_ld 1 (lv_args 0 [.int a0, .long a1, .long a2]) = some (.long a1)) ?_
              refine go_ll (pc := 189) rfl (rfl : ai_ld 3 (lv_args 0 [.int a0, .long a1, .long a2]) = some (.long a2)) ?_
              refine go_lcmp (pc := 190) rfl ?_
              refine bi_ite hh (fun hc hh => ?_) (fun hc hh => ?_)
              · refine go_ifeqT (pc := 191) rfl hc ?_
                refine go_pl (pc := 198) rfl ?_
                exact go_rl (pc := 199) rfl hh
              · refine go_ifeqF (pc := 191) rfl hc ?_
                refine go_pl (pc := 194) rfl ?_
                refine go_goto (pc := 195) rfl ?_
                exact go_rl (pc := 199) rfl hh
            · skip
              refine bi_ite hh (fun hc19 hh => ?_) (fun hc19 hh => ?_)
              · refine go_swc (t := 200) 31 (pc := 1) rfl hc19 (by decide) ?_
                refine go_ll (pc := 200) rfl (rfl : ai_ld 1 (lv_args 0 [.int a0, .long a1, .long a2]) = some (.long a1)) ?_
                refine go_ll (pc := 201) rfl (rfl : ai_ld 3 (lv_args 0 [.int a0, .long a1, .long a2]) = some (.long a2)) ?_
                refine go_lcmp (pc := 202) rfl ?_
                refine bi_ite hh (fun hc hh => ?_) (fun hc hh => ?_)
                · refine go_ifltT (pc := 203) rfl hc ?_
                  refine go_pl (pc := 210) rfl ?_
                  exact go_rl (pc := 211) rfl hh
                · refine go_ifltF (pc := 203) rfl hc ?_
                  refine go_pl (pc := 206) rfl ?_
                  refine go_goto (pc := 207) rfl ?_
                  exact go_rl (pc := 211) rfl hh
              · skip
                refine bi_ite hh (fun hc20 hh => ?_) (fun hc20 hh => ?_)
                · refine go_swc (t := 212) 32 (pc := 1) rfl hc20 (by decide) ?_
                  refine go_ll (pc := 212) rfl (rfl : ai_ld 1 (lv_args 0 [.int a0, .long a1, .long a2]) = some (.long a1)) ?_
                  refine go_ll (pc := 213) rfl (rfl : ai_ld 3 (lv_args 0 [.int a0, .long a1, .long a2]) = some (.long a2)) ?_
                  refine go_lcmp (pc := 214) rfl ?_
                  refine bi_ite hh (fun hc hh => ?_) (fun hc hh => ?_)
                  · refine go_ifleT (pc := 215) rfl hc ?_
                    refine go_pl (pc := 222) rfl ?_
                    exact go_rl (pc := 223) rfl hh
                  · refine go_ifleF (pc := 215) rfl hc ?_
                    refine go_pl (pc := 218) rfl ?_
                    refine go_goto (pc := 219) rfl ?_
                    exact go_rl (pc := 223) rfl hh
                · skip
                  refine bi_ite hh (fun hc21 hh => ?_) (fun hc21 hh => ?_)
                  · refine go_swc (t := 224) 33 (pc := 1) rfl hc21 (by decide) ?_
                    refine go_ll (pc := 224) rfl (rfl : ai_ld 1 (lv_args 0 [.int a0, .long a1, .long a2]) = some (.long a1)) ?_
                    refine go_ll (pc := 225) rfl (rfl : ai_ld 3 (lv_args 0 [.int a0, .long a1, .long a2]) = some (.long a2)) ?_
                    refine go_ladd (pc := 226) rfl ?_
                    exact go_rl (pc := 227) rfl hh
                  · skip
                    refine bi_ite hh (fun hc22 hh => ?_) (fun hc22 hh => ?_)
                    · refine go_swc (t := 228) 34 (pc := 1) rfl hc22 (by decide) ?_
                      refine go_ll (pc := 228) rfl (rfl : ai_ld 1 (lv_args 0 [.int a0, .long a1, .long a2]) = some (.long a1)) ?_
                      refine go_ll (pc := 229) rfl (rfl : ai_ld 3 (lv_args 0 [.int a0, .long a1, .long a2]) = some (.long a2)) ?_
                      refine go_lsub (pc := 230) rfl ?_
                      exact go_rl (pc := 231) rfl hh
                    · skip
                      refine bi_ite hh (fun hc23 hh => ?_) (fun hc23 hh => ?_)
                      · refine go_swc (t := 232) 35 (pc := 1) rfl hc23 (by decide) ?_
                        refine go_ll (pc := 232) rfl (rfl : ai_ld 1 (lv_args 0 [.int a0, .long a1, .long a2]) = some (.long a1)) ?_
                        refine go_pl (pc := 233) rfl ?_
                        refine go_lcmp (pc := 234) rfl ?_
                        refine bi_ite hh (fun hc hh => ?_) (fun hc hh => ?_)
                        · refine go_ifeqT (pc := 235) rfl hc ?_
                          refine go_ll (pc := 260) rfl (rfl : ai_ld 1 (lv_args 0 [.int a0, .long a1, .long a2]) = some (.long a1)) ?_
                          refine go_ll (pc := 261) rfl (rfl : ai_ld 3 (lv_args 0 [.int a0, .long a1, .long a2]) = some (.long a2)) ?_
                          refine go_lmul (pc := 262) rfl ?_
                          exact go_rl (pc := 263) rfl hh
                        · refine go_ifeqF (pc := 235) rfl hc ?_
                          refine go_ll (pc := 238) rfl (rfl : ai_ld 3 (lv_args 0 [.int a0, .long a1, .long a2]) = some (.long a2)) ?_
                          refine go_labs (pc := 239) rfl (Nat.le_of_ble_eq_true rfl) ?_
                          refine go_pl (pc := 242) rfl ?_
                          refine go_ll (pc := 245) rfl (rfl : ai_ld 1 (lv_args 0 [.int a0, .long a1, .long a2]) = some (.long a1)) ?_
                          refine go_labs (pc := 246) rfl (Nat.le_of_ble_eq_true rfl) ?_
                          obtain ⟨x1, ex1, hh⟩ := bi_bd hh
                          refine go_ldiv (pc := 249) rfl ex1 ?_
                          refine go_lcmp (pc := 250) rfl ?_
                          refine bi_ite hh (fun hc hh => ?_) (fun hc hh => ?_)
                          · refine go_ifleT (pc := 251) rfl hc ?_
                            refine go_ll (pc := 260) rfl (rfl : ai_ld 1 (lv_args 0 [.int a0, .long a1, .long a2]) = some (.long a1)) ?_
                            refine go_ll (pc := 261) rfl (rfl : ai_ld 3 (lv_args 0 [.int a0, .long a1, .long a2]) = some (.long a2)) ?_
                            refine go_lmul (pc := 262) rfl ?_
                            exact go_rl (pc := 263) rfl hh
                          · refine go_ifleF (pc := 251) rfl hc ?_
                            refine go_pl (pc := 254) rfl ?_
                            refine go_goto (pc := 257) rfl ?_
                            exact go_rl (pc := 263) rfl hh
                      · skip
                        refine bi_ite hh (fun hc24 hh => ?_) (fun hc24 hh => ?_)
                        · refine go_swc (t := 264) 36 (pc := 1) rfl hc24 (by decide) ?_
                          refine go_ll (pc := 264) rfl (rfl : ai_ld 3 (lv_args 0 [.int a0, .long a1, .long a2]) = some (.long a2)) ?_
                          refine go_pl (pc := 265) rfl ?_
                          refine go_lcmp (pc := 266) rfl ?_
                          refine bi_ite hh (fun hc hh => ?_) (fun hc hh => ?_)
                          · refine go_ifneT (pc := 267) rfl hc ?_
                            refine go_ll (pc := 276) rfl (rfl : ai_ld 1 (lv_args 0 [.int a0, .long a1, .long a2]) = some (.long a1)) ?_
                            refine go_ll (pc := 277) rfl (rfl : ai_ld 3 (lv_args 0 [.int a0, .long a1, .long a2]) = some (.long a2)) ?_
                            obtain ⟨x2, ex2, hh⟩ := bi_bd hh
                            refine go_ldiv (pc := 278) rfl ex2 ?_
                            exact go_rl (pc := 279) rfl hh
                          · refine go_ifneF (pc := 267) rfl hc ?_
                            refine go_pl (pc := 270) rfl ?_
                            refine go_goto (pc := 273) rfl ?_
                            exact go_rl (pc := 279) rfl hh
                        · skip
                          refine go_swd (pc := 1) rfl (fun i hi => match i, hi with | 0, _ => Or.inr (lv_neT hc0 (by decide)) | 1, _ => Or.inr (lv_neT hc1 (by decide)) | 2, _ => Or.inl rfl | 3, _ => Or.inl rfl | 4, _ => Or.inl rfl | 5, _ => Or.inl rfl | 6, _ => Or.inl rfl | 7, _ => Or.inl rfl | 8, _ => Or.inl rfl | 9, _ => Or.inl rfl | 10, _ => Or.inl rfl | 11, _ => Or.inl rfl | 12, _ => Or.inl rfl | 13, _ => Or.inl rfl | 14, _ => Or.inl rfl | 15, _ => Or.inr (lv_neT hc15 (by decide)) | 16, _ => Or.inr (lv_neT hc16 (by decide)) | 17, _ => Or.inr (lv_neT hc17 (by decide)) | 18, _ => Or.inr (lv_neT hc18 (by decide)) | 19, _ => Or.inr (lv_neT hc19 (by decide)) | 20, _ => Or.inr (lv_neT hc20 (by decide)) | 21, _ => Or.inr (lv_neT hc21 (by decide)) | 22, _ => Or.inr (lv_neT hc22 (by decide)) | 23, _ => Or.inr (lv_neT hc23 (by decide)) | 24, _ => Or.inr (lv_neT hc24 (by decide)) | i + 25, hi => absurd hi (Nat.not_lt.mpr (Nat.le_add_left _ _))) ?_
                          refine go_pl (pc := 280) rfl ?_
                          exact go_rl (pc := 283) rfl hh
