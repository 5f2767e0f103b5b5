/-! ===== methods as functions, part 4 ===== -/
def fX3_readTold_38 (n : Nat) (h : ai_H) (v0 : Nat) (v2 : Int32) : Option ((Int32 ⊕ Nat) × ai_H) :=
  (pR n h v0 3 0).bind fun x1 =>
  (fX7_advance n h x1).bind fun q2 =>
  some (.inl v2, q2.2)
theorem sX3_readTold_38 {n : Nat} {q : (Int32 ⊕ Nat) × ai_H} {h : ai_H} {v0 : Nat} {v2 : Int32} {lv : ai_L} (l0 : ai_ld 0 lv = some (.ref v0)) (l2 : ai_ld 2 lv = some (.int v2)) (hh : fX3_readTold_38 n h v0 v2 = some q) : bi_go 2 tX3_readTold n (tI n q) 38 lv [] h := by
  unfold fX3_readTold_38 at hh
  refine go_al (pc := 38) rfl l0 ?_
  obtain ⟨x1, ex1, hh⟩ := bi_bd hh
  refine go_gfR (pc := 39) rfl ex1 ?_
  obtain ⟨q2, eq2, hh⟩ := bi_bd hh
  refine go_ivV (pc := 42) rfl rfl (gX7_advance eq2) (Nat.le_of_ble_eq_true rfl) (bi_up (sX7_advance eq2) (Nat.le_of_ble_eq_true rfl)) ?_
  refine go_il (pc := 45) rfl l2 ?_
  exact go_tri (pc := 46) rfl hh
def fX3_readTold_17 (n : Nat) (h : ai_H) (v0 : Nat) (v1 : Nat) : Option ((Int32 ⊕ Nat) × ai_H) :=
  (pR n h v0 3 0).bind fun x1 =>
  (pI n h x1 7 6).bind fun x2 =>
  (fX6_find n h v1 x2).bind fun q3 =>
  if 0 ≤ q3.1 then (
    fX3_readTold_38 n q3.2 v0 q3.1)
  else (
    bt (fX3_fail n q3.2 v0 (4 : Int32)) fun x4 h5 =>
    fX3_readTold_38 n h5 v0 q3.1)
theorem sX3_readTold_17 {n : Nat} {q : (Int32 ⊕ Nat) × ai_H} {h : ai_H} {v0 : Nat} {v1 : Nat} {lv : ai_L} (l0 : ai_ld 0 lv = some (.ref v0)) (l1 : ai_ld 1 lv = some (.ref v1)) (hh : fX3_readTold_17 n h v0 v1 = some q) : bi_go 2 tX3_readTold n (tI n q) 17 lv [] h := by
  unfold fX3_readTold_17 at hh
  refine go_al (pc := 17) rfl l1 ?_
  refine go_al (pc := 18) rfl l0 ?_
  obtain ⟨x1, ex1, hh⟩ := bi_bd hh
  refine go_gfR (pc := 19) rfl ex1 ?_
  obtain ⟨x2, ex2, hh⟩ := bi_bd hh
  refine go_gfI (pc := 22) rfl ex2 ?_
  obtain ⟨q3, eq3, hh⟩ := bi_bd hh
  refine go_ivI (pc := 25) rfl rfl (gX6_find eq3) (Nat.le_of_ble_eq_true rfl) (bi_up (sX6_find eq3) (Nat.le_of_ble_eq_true rfl)) ?_
  refine go_is (pc := 28) rfl ?_
  refine go_il (pc := 29) rfl bi_e1 ?_
  refine bi_ite hh (fun hc hh => ?_) (fun hc hh => ?_)
  · refine go_ifgeT (pc := 30) rfl hc ?_
    exact sX3_readTold_38  (bi_k1 l0 rfl rfl) bi_e1 hh
  · refine go_ifgeF (pc := 30) rfl hc ?_
    refine go_al (pc := 33) rfl (bi_k1 l0 rfl rfl) ?_
    refine go_pi (pc := 34) rfl ?_
    refine bt_c hh (fun E hE ee hh => go_ivX (pc := 35) rfl rfl (gX3_fail ee) (Nat.le_of_ble_eq_true rfl) (bi_up (sX3_fail ee) (Nat.le_of_ble_eq_true rfl)) (bi_xI hh)) ?_
    intro x4 h5 ex4 hh
    refine go_ivV (pc := 35) rfl rfl (gX3_fail ex4) (Nat.le_of_ble_eq_true rfl) (bi_up (sX3_fail ex4) (Nat.le_of_ble_eq_true rfl)) ?_
    exact sX3_readTold_38  (bi_k1 l0 rfl rfl) bi_e1 hh
def fX3_readTold (n : Nat) (h : ai_H) (a0 : Nat) (a1 : Nat) : Option ((Int32 ⊕ Nat) × ai_H) :=
  (kO n h a0 3).bind fun _ =>
  (pR n h a0 3 0).bind fun x1 =>
  (pI n h x1 7 4).bind fun x2 =>
  if x2 = (22 : Int32) then (
    fX3_readTold_17 n h a0 a1)
  else (
    bt (fX3_fail n h a0 (1 : Int32)) fun x3 h4 =>
    fX3_readTold_17 n h4 a0 a1)
theorem gX3_readTold {n : Nat} {h : ai_H} {a0 : Nat} {a1 : Nat} {q : (Int32 ⊕ Nat) × ai_H} (hh : fX3_readTold n h a0 a1 = some q) : kO n h a0 3 = some () := by
  obtain ⟨_, e, -⟩ := bi_bd hh
  exact e
theorem sX3_readTold {n : Nat} {h : ai_H} {a0 : Nat} {a1 : Nat} {q : (Int32 ⊕ Nat) × ai_H} (hh : fX3_readTold n h a0 a1 = some q) : bi_sp 3 34 [.ref a0, .ref a1] h n (tI n q) := by
  refine bi_en (D := 2) (T := tX3_readTold) (funext fun pc => rfl) rfl (Nat.le_of_ble_eq_true rfl) ?_
  unfold fX3_readTold at hh
  obtain ⟨_, eO, hh⟩ := bi_bd hh
  refine go_al (pc := 0) rfl (rfl : ai_ld 0 (lv_args 0 [.ref a0, .ref a1]) = some (.ref a0)) ?_
  obtain ⟨x1, ex1, hh⟩ := bi_bd hh
  refine go_gfR (pc := 1) rfl ex1 ?_
  obtain ⟨x2, ex2, hh⟩ := bi_bd hh
  refine go_gfI (pc := 4) rfl ex2 ?_
  refine go_pi (pc := 7) rfl ?_
  refine bi_ite hh (fun hc hh => ?_) (fun hc hh => ?_)
  · refine go_cmpeqT (pc := 9) rfl hc ?_
    exact sX3_readTold_17  (rfl : ai_ld 0 (lv_args 0 [.ref a0, .ref a1]) = some (.ref a0)) (rfl : ai_ld 1 (lv_args 0 [.ref a0, .ref a1]) = some (.ref a1)) hh
  · refine go_cmpeqF (pc := 9) rfl hc ?_
    refine go_al (pc := 12) rfl (rfl : ai_ld 0 (lv_args 0 [.ref a0, .ref a1]) = some (.ref a0)) ?_
    refine go_pi (pc := 13) rfl ?_
    refine bt_c hh (fun E hE ee hh => go_ivX (pc := 14) rfl rfl (gX3_fail ee) (Nat.le_of_ble_eq_true rfl) (bi_up (sX3_fail ee) (Nat.le_of_ble_eq_true rfl)) (bi_xI hh)) ?_
    intro x3 h4 ex3 hh
    refine go_ivV (pc := 14) rfl rfl (gX3_fail ex3) (Nat.le_of_ble_eq_true rfl) (bi_up (sX3_fail ex3) (Nat.le_of_ble_eq_true rfl)) ?_
    exact sX3_readTold_17  (rfl : ai_ld 0 (lv_args 0 [.ref a0, .ref a1]) = some (.ref a0)) (rfl : ai_ld 1 (lv_args 0 [.ref a0, .ref a1]) = some (.ref a1)) hh
def fX6_put (n : Nat) (h : ai_H) (a0 : Nat) (a1 : Int32) (a2 : Int32) : Option (Unit × ai_H) :=
  (kO n h a0 6).bind fun _ =>
  (fX6_isFull n h a0).bind fun q1 =>
  if ¬ q1.1 = 0 then (
    some ((), q1.2))
  else (
    if a1 < 0 then (
      some ((), q1.2))
    else (
      (pI n q1.2 a0 6 1).bind fun x2 =>
      if x2 ≤ a1 then (
        some ((), q1.2))
      else (
        (pR n q1.2 a0 6 3).bind fun x3 =>
        (pI n q1.2 a0 6 4).bind fun x4 =>
        (pI n q1.2 a0 6 1).bind fun x5 =>
        (wX 1 (fun x => x) n q1.2 x3 ((x4 * x5) + a1) a2).bind fun h6 =>
        some ((), h6))))
theorem gX6_put {n : Nat} {h : ai_H} {a0 : Nat} {a1 : Int32} {a2 : Int32} {q : Unit × ai_H} (hh : fX6_put n h a0 a1 a2 = some q) : kO n h a0 6 = some () := by
  obtain ⟨_, e, -⟩ := bi_bd hh
  exact e
theorem sX6_put {n : Nat} {h : ai_H} {a0 : Nat} {a1 : Int32} {a2 : Int32} {q : Unit × ai_H} (hh : fX6_put n h a0 a1 a2 = some q) : bi_sp 2 56 [.ref a0, .int a1, .int a2] h n (fV n q) := by
  refine bi_en (D := 1) (T := tX6_put) (funext fun pc => rfl) rfl (Nat.le_of_ble_eq_true rfl) ?_
  unfold fX6_put at hh
  obtain ⟨_, eO, hh⟩ := bi_bd hh
  refine go_al (pc := 0) rfl (rfl : ai_ld 0 (lv_args 0 [.ref a0, .int a1, .int a2]) = some (.ref a0)) ?_
  obtain ⟨q1, eq1, hh⟩ := bi_bd hh
  refine go_ivI (pc := 1) rfl rfl (gX6_isFull eq1) (Nat.le_of_ble_eq_true rfl) (bi_up (sX6_isFull eq1) (Nat.le_of_ble_eq_true rfl)) ?_
  refine bi_ite hh (fun hc hh => ?_) (fun hc hh => ?_)
  · refine go_ifneT (pc := 4) rfl hc ?_
    exact go_rv (pc := 36) rfl hh
  · refine go_ifneF (pc := 4) rfl hc ?_
    refine go_il (pc := 7) rfl (rfl : ai_ld 1 (lv_args 0 [.ref a0, .int a1, .int a2]) = some (.int a1)) ?_
    refine bi_ite hh (fun hc hh => ?_) (fun hc hh => ?_)
    · refine go_ifltT (pc := 8) rfl hc ?_
      exact go_rv (pc := 36) rfl hh
    · refine go_ifltF (pc := 8) rfl hc ?_
      refine go_il (pc := 11) rfl (rfl : ai_ld 1 (lv_args 0 [.ref a0, .int a1, .int a2]) = some (.int a1)) ?_
      refine go_al (pc := 12) rfl (rfl : ai_ld 0 (lv_args 0 [.ref a0, .int a1, .int a2]) = some (.ref a0)) ?_
      obtain ⟨x2, ex2, hh⟩ := bi_bd hh
      refine go_gfI (pc := 13) rfl ex2 ?_
      refine bi_ite hh (fun hc hh => ?_) (fun hc hh => ?_)
      · refine go_cmpgeT (pc := 16) rfl hc ?_
        exact go_rv (pc := 36) rfl hh
      · refine go_cmpgeF (pc := 16) rfl hc ?_
        refine go_al (pc := 19) rfl (rfl : ai_ld 0 (lv_args 0 [.ref a0, .int a1, .int a2]) = some (.ref a0)) ?_
        obtain ⟨x3, ex3, hh⟩ := bi_bd hh
        refine go_gfR (pc := 20) rfl ex3 ?_
        refine go_al (pc := 23) rfl (rfl : ai_ld 0 (lv_args 0 [.ref a0, .int a1, .int a2]) = some (.ref a0)) ?_
        obtain ⟨x4, ex4, hh⟩ := bi_bd hh
        refine go_gfI (pc := 24) rfl ex4 ?_
        refine go_al (pc := 27) rfl (rfl : ai_ld 0 (lv_args 0 [.ref a0, .int a1, .int a2]) = some (.ref a0)) ?_
        obtain ⟨x5, ex5, hh⟩ := bi_bd hh
        refine go_gfI (pc := 28) rfl ex5 ?_
        refine go_imul (pc := 31) rfl ?_
        refine go_il (pc := 32) rfl (rfl : ai_ld 1 (lv_args 0 [.ref a0, .int a1, .int a2]) = some (.int a1)) ?_
        refine go_iadd (pc := 33) rfl ?_
        refine go_il (pc := 34) rfl (rfl : ai_ld 2 (lv_args 0 [.ref a0, .int a1, .int a2]) = some (.int a2)) ?_
        obtain ⟨h6, eh6, hh⟩ := bi_bd hh
        refine go_iast (pc := 35) rfl eh6 ?_
        exact go_rv (pc := 36) rfl hh
def fX3_readNumber_39 (n : Nat) (h : ai_H) (v0 : Nat) (v3 : Int32) : Option ((Int32 ⊕ Nat) × ai_H) :=
  (pR n h v0 3 0).bind fun x1 =>
  (fX7_advance n h x1).bind fun q2 =>
  some (.inl v3, q2.2)
theorem sX3_readNumber_39 {n : Nat} {q : (Int32 ⊕ Nat) × ai_H} {h : ai_H} {v0 : Nat} {v3 : Int32} {lv : ai_L} (l0 : ai_ld 0 lv = some (.ref v0)) (l3 : ai_ld 3 lv = some (.int v3)) (hh : fX3_readNumber_39 n h v0 v3 = some q) : bi_go 2 tX3_readNumber n (tI n q) 39 lv [] h := by
  unfold fX3_readNumber_39 at hh
  refine go_al (pc := 39) rfl l0 ?_
  obtain ⟨x1, ex1, hh⟩ := bi_bd hh
  refine go_gfR (pc := 40) rfl ex1 ?_
  obtain ⟨q2, eq2, hh⟩ := bi_bd hh
  refine go_ivV (pc := 43) rfl rfl (gX7_advance eq2) (Nat.le_of_ble_eq_true rfl) (bi_up (sX7_advance eq2) (Nat.le_of_ble_eq_true rfl)) ?_
  refine go_il (pc := 46) rfl l3 ?_
  exact go_tri (pc := 47) rfl hh
def fX3_readNumber_17 (n : Nat) (h : ai_H) (v0 : Nat) (v1 : Int32) (v2 : Int32) : Option ((Int32 ⊕ Nat) × ai_H) :=
  (pR n h v0 3 0).bind fun x1 =>
  (pI n h x1 7 6).bind fun x2 =>
  (fX10_isWithin n h v1 x2 v2).bind fun q3 =>
  if ¬ q3.1 = 0 then (
    fX3_readNumber_39 n q3.2 v0 x2)
  else (
    bt (fX3_fail n q3.2 v0 (2 : Int32)) fun x4 h5 =>
    fX3_readNumber_39 n h5 v0 x2)
theorem sX3_readNumber_17 {n : Nat} {q : (Int32 ⊕ Nat) × ai_H} {h : ai_H} {v0 : Nat} {v1 : Int32} {v2 : Int32} {lv : ai_L} (l0 : ai_ld 0 lv = some (.ref v0)) (l1 : ai_ld 1 lv = some (.int v1)) (l2 : ai_ld 2 lv = some (.int v2)) (hh : fX3_readNumber_17 n h v0 v1 v2 = some q) : bi_go 2 tX3_readNumber n (tI n q) 17 lv [] h := by
  unfold fX3_readNumber_17 at hh
  refine go_al (pc := 17) rfl l0 ?_
  obtain ⟨x1, ex1, hh⟩ := bi_bd hh
  refine go_gfR (pc := 18) rfl ex1 ?_
  obtain ⟨x2, ex2, hh⟩ := bi_bd hh
  refine go_gfI (pc := 21) rfl ex2 ?_
  refine go_is (pc := 24) rfl ?_
  refine go_il (pc := 25) rfl (bi_k1 l1 rfl rfl) ?_
  refine go_il (pc := 26) rfl bi_e1 ?_
  refine go_il (pc := 27) rfl (bi_k1 l2 rfl rfl) ?_
  obtain ⟨q3, eq3, hh⟩ := bi_bd hh
  refine go_iSI (pc := 28) rfl (Nat.le_of_ble_eq_true rfl) rfl (Nat.le_of_ble_eq_true rfl) (bi_up (sX10_isWithin eq3) (Nat.le_of_ble_eq_true rfl)) ?_
  refine bi_ite hh (fun hc hh => ?_) (fun hc hh => ?_)
  · refine go_ifneT (pc := 31) rfl hc ?_
    exact sX3_readNumber_39  (bi_k1 l0 rfl rfl) bi_e1 hh
  · refine go_ifneF (pc := 31) rfl hc ?_
    refine go_al (pc := 34) rfl (bi_k1 l0 rfl rfl) ?_
    refine go_pi (pc := 35) rfl ?_
    refine bt_c hh (fun E hE ee hh => go_ivX (pc := 36) rfl rfl (gX3_fail ee) (Nat.le_of_ble_eq_true rfl) (bi_up (sX3_fail ee) (Nat.le_of_ble_eq_true rfl)) (bi_xI hh)) ?_
    intro x4 h5 ex4 hh
    refine go_ivV (pc := 36) rfl rfl (gX3_fail ex4) (Nat.le_of_ble_eq_true rfl) (bi_up (sX3_fail ex4) (Nat.le_of_ble_eq_true rfl)) ?_
    exact sX3_readNumber_39  (bi_k1 l0 rfl rfl) bi_e1 hh
def fX3_readNumber (n : Nat) (h : ai_H) (a0 : Nat) (a1 : Int32) (a2 : Int32) : Option ((Int32 ⊕ Nat) × ai_H) :=
  (kO n h a0 3).bind fun _ =>
  (pR n h a0 3 0).bind fun x1 =>
  (pI n h x1 7 4).bind fun x2 =>
  if x2 = (23 : Int32) then (
    fX3_readNumber_17 n h a0 a1 a2)
  else (
    bt (fX3_fail n h a0 (1 : Int32)) fun x3 h4 =>
    fX3_readNumber_17 n h4 a0 a1 a2)
theorem gX3_readNumber {n : Nat} {h : ai_H} {a0 : Nat} {a1 : Int32} {a2 : Int32} {q : (Int32 ⊕ Nat) × ai_H} (hh : fX3_readNumber n h a0 a1 a2 = some q) : kO n h a0 3 = some () := by
  obtain ⟨_, e, -⟩ := bi_bd hh
  exact e
theorem sX3_readNumber {n : Nat} {h : ai_H} {a0 : Nat} {a1 : Int32} {a2 : Int32} {q : (Int32 ⊕ Nat) × ai_H} (hh : fX3_readNumber n h a0 a1 a2 = some q) : bi_sp 3 35 [.ref a0, .int a1, .int a2] h n (tI n q) := by
  refine bi_en (D := 2) (T := tX3_readNumber) (funext fun pc => rfl) rfl (Nat.le_of_ble_eq_true rfl) ?_
  unfold fX3_readNumber at hh
  obtain ⟨_, eO, hh⟩ := bi_bd hh
  refine go_al (pc := 0) rfl (rfl : ai_ld 0 (lv_args 0 [.ref a0, .int a1, .int a2]) = some (.ref a0)) ?_
  obtain ⟨x1, ex1, hh⟩ := bi_bd hh
  refine go_gfR (pc := 1) rfl ex1 ?_
  obtain ⟨x2, ex2, hh⟩ := bi_bd hh
  refine go_gfI (pc := 4) rfl ex2 ?_
  refine go_pi (pc := 7) rfl ?_
  refine bi_ite hh (fun hc hh => ?_) (fun hc hh => ?_)
  · refine go_cmpeqT (pc := 9) rfl hc ?_
    exact sX3_readNumber_17  (rfl : ai_ld 0 (lv_args 0 [.ref a0, .int a1, .int a2]) = some (.ref a0)) (rfl : ai_ld 1 (lv_args 0 [.ref a0, .int a1, .int a2]) = some (.int a1)) (rfl : ai_ld 2 (lv_args 0 [.ref a0, .int a1, .int a2]) = some (.int a2)) hh
  · refine go_cmpeqF (pc := 9) rfl hc ?_
    refine go_al (pc := 12) rfl (rfl : ai_ld 0 (lv_args 0 [.ref a0, .int a1, .int a2]) = some (.ref a0)) ?_
    refine go_pi (pc := 13) rfl ?_
    refine bt_c hh (fun E hE ee hh => go_ivX (pc := 14) rfl rfl (gX3_fail ee) (Nat.le_of_ble_eq_true rfl) (bi_up (sX3_fail ee) (Nat.le_of_ble_eq_true rfl)) (bi_xI hh)) ?_
    intro x3 h4 ex3 hh
    refine go_ivV (pc := 14) rfl rfl (gX3_fail ex3) (Nat.le_of_ble_eq_true rfl) (bi_up (sX3_fail ex3) (Nat.le_of_ble_eq_true rfl)) ?_
    exact sX3_readNumber_17  (rfl : ai_ld 0 (lv_args 0 [.ref a0, .int a1, .int a2]) = some (.ref a0)) (rfl : ai_ld 1 (lv_args 0 [.ref a0, .int a1, .int a2]) = some (.int a1)) (rfl : ai_ld 2 (lv_args 0 [.ref a0, .int a1, .int a2]) = some (.int a2)) hh
def fX3_readPath_74 (n : Nat) (h : ai_H) (v0 : Nat) (v1 : Nat) : Option ((Unit ⊕ Nat) × ai_H) :=
  (pR n h v0 3 1).bind fun x1 =>
  (pR n h x1 8 0).bind fun x2 =>
  bt (fX3_readTold n h v0 x2) fun x3 h4 =>
  (fX6_put n h4 v1 (1 : Int32) x3).bind fun q5 =>
  bt (fX3_readNumber n q5.2 v0 (1 : Int32) (99 : Int32)) fun x6 h7 =>
  (fX6_put n h7 v1 (2 : Int32) x6).bind fun q8 =>
  bt (fX3_readNumber n q8.2 v0 (0 : Int32) (9 : Int32)) fun x9 h10 =>
  (fX6_put n h10 v1 (3 : Int32) x9).bind fun q11 =>
  bt (fX3_readNumber n q11.2 v0 (0 : Int32) (399 : Int32)) fun x12 h13 =>
  (fX6_put n h13 v1 (4 : Int32) x12).bind fun q14 =>
  (fX6_endRow n q14.2 v1).bind fun q15 =>
  some (.inl (), q15.2)
theorem sX3_readPath_74 {n : Nat} {q : (Unit ⊕ Nat) × ai_H} {h : ai_H} {v0 : Nat} {v1 : Nat} {lv : ai_L} (l0 : ai_ld 0 lv = some (.ref v0)) (l1 : ai_ld 1 lv = some (.ref v1)) (hh : fX3_readPath_74 n h v0 v1 = some q) : bi_go 3 tX3_readPath n (tV n q) 74 lv [] h := by
  unfold fX3_readPath_74 at hh
  refine go_al (pc := 74) rfl l1 ?_
  refine go_pi (pc := 75) rfl ?_
  refine go_al (pc := 76) rfl l0 ?_
  refine go_al (pc := 77) rfl l0 ?_
  obtain ⟨x1, ex1, hh⟩ := bi_bd hh
  refine go_gfR (pc := 78) rfl ex1 ?_
  obtain ⟨x2, ex2, hh⟩ := bi_bd hh
  refine go_gfR (pc := 81) rfl ex2 ?_
  refine bt_c hh (fun E hE ee hh => go_ivX (pc := 84) rfl rfl (gX3_readTold ee) (Nat.le_of_ble_eq_true rfl) (bi_up (sX3_readTold ee) (Nat.le_of_ble_eq_true rfl)) (bi_xV hh)) ?_
  intro x3 h4 ex3 hh
  refine go_ivI (pc := 84) rfl rfl (gX3_readTold ex3) (Nat.le_of_ble_eq_true rfl) (bi_up (sX3_readTold ex3) (Nat.le_of_ble_eq_true rfl)) ?_
  obtain ⟨q5, eq5, hh⟩ := bi_bd hh
  refine go_ivV (pc := 87) rfl rfl (gX6_put eq5) (Nat.le_of_ble_eq_true rfl) (bi_up (sX6_put eq5) (Nat.le_of_ble_eq_true rfl)) ?_
  refine go_al (pc := 90) rfl l1 ?_
  refine go_pi (pc := 91) rfl ?_
  refine go_al (pc := 92) rfl l0 ?_
  refine go_pi (pc := 93) rfl ?_
  refine go_pi (pc := 94) rfl ?_
  refine bt_c hh (fun E hE ee hh => go_ivX (pc := 96) rfl rfl (gX3_readNumber ee) (Nat.le_of_ble_eq_true rfl) (bi_up (sX3_readNumber ee) (Nat.le_of_ble_eq_true rfl)) (bi_xV hh)) ?_
  intro x6 h7 ex6 hh
  refine go_ivI (pc := 96) rfl rfl (gX3_readNumber ex6) (Nat.le_of_ble_eq_true rfl) (bi_up (sX3_readNumber ex6) (Nat.le_of_ble_eq_true rfl)) ?_
  obtain ⟨q8, eq8, hh⟩ := bi_bd hh
  refine go_ivV (pc := 99) rfl rfl (gX6_put eq8) (Nat.le_of_ble_eq_true rfl) (bi_up (sX6_put eq8) (Nat.le_of_ble_eq_true rfl)) ?_
  refine go_al (pc := 102) rfl l1 ?_
  refine go_pi (pc := 103) rfl ?_
  refine go_al (pc := 104) rfl l0 ?_
  refine go_pi (pc := 105) rfl ?_
  refine go_pi (pc := 106) rfl ?_
  refine bt_c hh (fun E hE ee hh => go_ivX (pc := 108) rfl rfl (gX3_readNumber ee) (Nat.le_of_ble_eq_true rfl) (bi_up (sX3_readNumber ee) (Nat.le_of_ble_eq_true rfl)) (bi_xV hh)) ?_
  intro x9 h10 ex9 hh
  refine go_ivI (pc := 108) rfl rfl (gX3_readNumber ex9) (Nat.le_of_ble_eq_true rfl) (bi_up (sX3_readNumber ex9) (Nat.le_of_ble_eq_true rfl)) ?_
  obtain ⟨q11, eq11, hh⟩ := bi_bd hh
  refine go_ivV (pc := 111) rfl rfl (gX6_put eq11) (Nat.le_of_ble_eq_true rfl) (bi_up (sX6_put eq11) (Nat.le_of_ble_eq_true rfl)) ?_
  refine go_al (pc := 114) rfl l1 ?_
  refine go_pi (pc := 115) rfl ?_
  refine go_al (pc := 116) rfl l0 ?_
  refine go_pi (pc := 117) rfl ?_
  refine go_pi (pc := 118) rfl ?_
  refine bt_c hh (fun E hE ee hh => go_ivX (pc := 121) rfl rfl (gX3_readNumber ee) (Nat.le_of_ble_eq_true rfl) (bi_up (sX3_readNumber ee) (Nat.le_of_ble_eq_true rfl)) (bi_xV hh)) ?_
  intro x12 h13 ex12 hh
  refine go_ivI (pc := 121) rfl rfl (gX3_readNumber ex12) (Nat.le_of_ble_eq_true rfl) (bi_up (sX3_readNumber ex12) (Nat.le_of_ble_eq_true rfl)) ?_
  obtain ⟨q14, eq14, hh⟩ := bi_bd hh
  refine go_ivV (pc := 124) rfl rfl (gX6_put eq14) (Nat.le_of_ble_eq_true rfl) (bi_up (sX6_put eq14) (Nat.le_of_ble_eq_true rfl)) ?_
  refine go_al (pc := 127) rfl l1 ?_
  obtain ⟨q15, eq15, hh⟩ := bi_bd hh
  refine go_ivV (pc := 128) rfl rfl (gX6_endRow eq15) (Nat.le_of_ble_eq_true rfl) (bi_up (sX6_endRow eq15) (Nat.le_of_ble_eq_true rfl)) ?_
  exact go_trv (pc := 131) rfl hh
def fX3_readPath (n : Nat) (h : ai_H) (a0 : Nat) : Option ((Unit ⊕ Nat) × ai_H) :=
  (kO n h a0 3).bind fun _ =>
  (pR n h a0 3 1).bind fun x1 =>
  (pR n h x1 8 1).bind fun x2 =>
  bt (fX3_beginRow n h a0 x2) fun x3 h4 =>
  bt (fX3_readNewName n h4 a0 x2) fun x5 h6 =>
  (pR n h6 a0 3 1).bind fun x7 =>
  (pR n h6 x7 8 0).bind fun x8 =>
  bt (fX3_readTold n h6 a0 x8) fun x9 h10 =>
  (fX6_put n h10 x2 (0 : Int32) x9).bind fun q11 =>
  (pR n q11.2 a0 3 0).bind fun x12 =>
  (pI n q11.2 x12 7 4).bind fun x13 =>
  if ¬ x13 = (22 : Int32) then (
    fX3_readPath_74 n q11.2 a0 x2)
  else (
    (pR n q11.2 a0 3 1).bind fun x14 =>
    (pR n q11.2 x14 8 0).bind fun x15 =>
    (pR n q11.2 a0 3 0).bind fun x16 =>
    (pI n q11.2 x16 7 6).bind fun x17 =>
    (fX6_find n q11.2 x15 x17).bind fun q18 =>
    if ¬ q18.1 = x9 then (
      fX3_readPath_74 n q18.2 a0 x2)
    else (
      bt (fX3_fail n q18.2 a0 (5 : Int32)) fun x19 h20 =>
      fX3_readPath_74 n h20 a0 x2))
theorem gX3_readPath {n : Nat} {h : ai_H} {a0 : Nat} {q : (Unit ⊕ Nat) × ai_H} (hh : fX3_readPath n h a0 = some q) : kO n h a0 3 = some () := by
  obtain ⟨_, e, -⟩ := bi_bd hh
  exact e
theorem sX3_readPath {n : Nat} {h : ai_H} {a0 : Nat} {q : (Unit ⊕ Nat) × ai_H} (hh : fX3_readPath n h a0 = some q) : bi_sp 4 29 [.ref a0] h n (tV n q) := by
  refine bi_en (D := 3) (T := tX3_readPath) (funext fun pc => rfl) rfl (Nat.le_of_ble_eq_true rfl) ?_
  unfold fX3_readPath at hh
  obtain ⟨_, eO, hh⟩ := bi_bd hh
  refine go_al (pc := 0) rfl (rfl : ai_ld 0 (lv_args 0 [.ref a0]) = some (.ref a0)) ?_
  obtain ⟨x1, ex1, hh⟩ := bi_bd hh
  refine go_gfR (pc := 1) rfl ex1 ?_
  obtain ⟨x2, ex2, hh⟩ := bi_bd hh
  refine go_gfR (pc := 4) rfl ex2 ?_
  refine go_as (pc := 7) rfl ?_
  refine go_al (pc := 8) rfl (bi_k1 (rfl : ai_ld 0 (lv_args 0 [.ref a0]) = some (.ref a0)) rfl rfl) ?_
  refine go_al (pc := 9) rfl bi_e1 ?_
  refine bt_c hh (fun E hE ee hh => go_ivX (pc := 10) rfl rfl (gX3_beginRow ee) (Nat.le_of_ble_eq_true rfl) (bi_up (sX3_beginRow ee) (Nat.le_of_ble_eq_true rfl)) (bi_xV hh)) ?_
  intro x3 h4 ex3 hh
  refine go_ivV (pc := 10) rfl rfl (gX3_beginRow ex3) (Nat.le_of_ble_eq_true rfl) (bi_up (sX3_beginRow ex3) (Nat.le_of_ble_eq_true rfl)) ?_
  refine go_al (pc := 13) rfl (bi_k1 (rfl : ai_ld 0 (lv_args 0 [.ref a0]) = some (.ref a0)) rfl rfl) ?_
  refine go_al (pc := 14) rfl bi_e1 ?_
  refine bt_c hh (fun E hE ee hh => go_ivX (pc := 15) rfl rfl (gX3_readNewName ee) (Nat.le_of_ble_eq_true rfl) (bi_up (sX3_readNewName ee) (Nat.le_of_ble_eq_true rfl)) (bi_xV hh)) ?_
  intro x5 h6 ex5 hh
  refine go_ivV (pc := 15) rfl rfl (gX3_readNewName ex5) (Nat.le_of_ble_eq_true rfl) (bi_up (sX3_readNewName ex5) (Nat.le_of_ble_eq_true rfl)) ?_
  refine go_al (pc := 18) rfl (bi_k1 (rfl : ai_ld 0 (lv_args 0 [.ref a0]) = some (.ref a0)) rfl rfl) ?_
  refine go_al (pc := 19) rfl (bi_k1 (rfl : ai_ld 0 (lv_args 0 [.ref a0]) = some (.ref a0)) rfl rfl) ?_
  obtain ⟨x7, ex7, hh⟩ := bi_bd hh
  refine go_gfR (pc := 20) rfl ex7 ?_
  obtain ⟨x8, ex8, hh⟩ := bi_bd hh
  refine go_gfR (pc := 23) rfl ex8 ?_
  refine bt_c hh (fun E hE ee hh => go_ivX (pc := 26) rfl rfl (gX3_readTold ee) (Nat.le_of_ble_eq_true rfl) (bi_up (sX3_readTold ee) (Nat.le_of_ble_eq_true rfl)) (bi_xV hh)) ?_
  intro x9 h10 ex9 hh
  refine go_ivI (pc := 26) rfl rfl (gX3_readTold ex9) (Nat.le_of_ble_eq_true rfl) (bi_up (sX3_readTold ex9) (Nat.le_of_ble_eq_true rfl)) ?_
  refine go_is (pc := 29) rfl ?_
  refine go_al (pc := 30) rfl (bi_k1 bi_e1 rfl rfl) ?_
  refine go_pi (pc := 31) rfl ?_
  refine go_il (pc := 32) rfl bi_e1 ?_
  obtain ⟨q11, eq11, hh⟩ := bi_bd hh
  refine go_ivV (pc := 33) rfl rfl (gX6_put eq11) (Nat.le_of_ble_eq_true rfl) (bi_up (sX6_put eq11) (Nat.le_of_ble_eq_true rfl)) ?_
  refine go_al (pc := 36) rfl (bi_k1 (bi_k1 (rfl : ai_ld 0 (lv_args 0 [.ref a0]) = some (.ref a0)) rfl rfl) rfl rfl) ?_
  obtain ⟨x12, ex12, hh⟩ := bi_bd hh
  refine go_gfR (pc := 37) rfl ex12 ?_
  obtain ⟨x13, ex13, hh⟩ := bi_bd hh
  refine go_gfI (pc := 40) rfl ex13 ?_
  refine go_pi (pc := 43) rfl ?_
  refine bi_ite hh (fun hc hh => ?_) (fun hc hh => ?_)
  · refine go_cmpneT (pc := 45) rfl hc ?_
    exact sX3_readPath_74  (bi_k1 (bi_k1 (rfl : ai_ld 0 (lv_args 0 [.ref a0]) = some (.ref a0)) rfl rfl) rfl rfl) (bi_k1 bi_e1 rfl rfl) hh
  · refine go_cmpneF (pc := 45) rfl hc ?_
    refine go_al (pc := 48) rfl (bi_k1 (bi_k1 (rfl : ai_ld 0 (lv_args 0 [.ref a0]) = some (.ref a0)) rfl rfl) rfl rfl) ?_
    obtain ⟨x14, ex14, hh⟩ := bi_bd hh
    refine go_gfR (pc := 49) rfl ex14 ?_
    obtain ⟨x15, ex15, hh⟩ := bi_bd hh
    refine go_gfR (pc := 52) rfl ex15 ?_
    refine go_al (pc := 55) rfl (bi_k1 (bi_k1 (rfl : ai_ld 0 (lv_args 0 [.ref a0]) = some (.ref a0)) rfl rfl) rfl rfl) ?_
    obtain ⟨x16, ex16, hh⟩ := bi_bd hh
    refine go_gfR (pc := 56) rfl ex16 ?_
    obtain ⟨x17, ex17, hh⟩ := bi_bd hh
    refine go_gfI (pc := 59) rfl ex17 ?_
    obtain ⟨q18, eq18, hh⟩ := bi_bd hh
    refine go_ivI (pc := 62) rfl rfl (gX6_find eq18) (Nat.le_of_ble_eq_true rfl) (bi_up (sX6_find eq18) (Nat.le_of_ble_eq_true rfl)) ?_
    refine go_il (pc := 65) rfl bi_e1 ?_
    refine bi_ite hh (fun hc hh => ?_) (fun hc hh => ?_)
    · refine go_cmpneT (pc := 66) rfl hc ?_
      exact sX3_readPath_74  (bi_k1 (bi_k1 (rfl : ai_ld 0 (lv_args 0 [.ref a0]) = some (.ref a0)) rfl rfl) rfl rfl) (bi_k1 bi_e1 rfl rfl) hh
    · refine go_cmpneF (pc := 66) rfl hc ?_
      refine go_al (pc := 69) rfl (bi_k1 (bi_k1 (rfl : ai_ld 0 (lv_args 0 [.ref a0]) = some (.ref a0)) rfl rfl) rfl rfl) ?_
      refine go_pi (pc := 70) rfl ?_
      refine bt_c hh (fun E hE ee hh => go_ivX (pc := 71) rfl rfl (gX3_fail ee) (Nat.le_of_ble_eq_true rfl) (bi_up (sX3_fail ee) (Nat.le_of_ble_eq_true rfl)) (bi_xV hh)) ?_
      intro x19 h20 ex19 hh
      refine go_ivV (pc := 71) rfl rfl (gX3_fail ex19) (Nat.le_of_ble_eq_true rfl) (bi_up (sX3_fail ex19) (Nat.le_of_ble_eq_true rfl)) ?_
      exact sX3_readPath_74  (bi_k1 (bi_k1 (rfl : ai_ld 0 (lv_args 0 [.ref a0]) = some (.ref a0)) rfl rfl) rfl rfl) (bi_k1 bi_e1 rfl rfl) hh
def fX3_readWalker (n : Nat) (h : ai_H) (a0 : Nat) : Option ((Unit ⊕ Nat) × ai_H) :=
  (kO n h a0 3).bind fun _ =>
  (pR n h a0 3 1).bind fun x1 =>
  (pR n h x1 8 2).bind fun x2 =>
  bt (fX3_beginRow n h a0 x2) fun x3 h4 =>
  bt (fX3_readNewName n h4 a0 x2) fun x5 h6 =>
  (pR n h6 a0 3 1).bind fun x7 =>
  (pR n h6 x7 8 0).bind fun x8 =>
  bt (fX3_readTold n h6 a0 x8) fun x9 h10 =>
  (fX6_put n h10 x2 (0 : Int32) x9).bind fun q11 =>
  bt (fX3_readNumber n q11.2 a0 (0 : Int32) (9 : Int32)) fun x12 h13 =>
  (fX6_put n h13 x2 (1 : Int32) x12).bind fun q14 =>
  bt (fX3_readNumber n q14.2 a0 (1 : Int32) (99 : Int32)) fun x15 h16 =>
  (fX6_put n h16 x2 (2 : Int32) x15).bind fun q17 =>
  (fX6_endRow n q17.2 x2).bind fun q18 =>
  some (.inl (), q18.2)
theorem gX3_readWalker {n : Nat} {h : ai_H} {a0 : Nat} {q : (Unit ⊕ Nat) × ai_H} (hh : fX3_readWalker n h a0 = some q) : kO n h a0 3 = some () := by
  obtain ⟨_, e, -⟩ := bi_bd hh
  exact e
theorem sX3_readWalker {n : Nat} {h : ai_H} {a0 : Nat} {q : (Unit ⊕ Nat) × ai_H} (hh : fX3_readWalker n h a0 = some q) : bi_sp 4 30 [.ref a0] h n (tV n q) := by
  refine bi_en (D := 3) (T := tX3_readWalker) (funext fun pc => rfl) rfl (Nat.le_of_ble_eq_true rfl) ?_
  unfold fX3_readWalker at hh
  obtain ⟨_, eO, hh⟩ := bi_bd hh
  refine go_al (pc := 0) rfl (rfl : ai_ld 0 (lv_args 0 [.ref a0]) = some (.ref a0)) ?_
  obtain ⟨x1, ex1, hh⟩ := bi_bd hh
  refine go_gfR (pc := 1) rfl ex1 ?_
  obtain ⟨x2, ex2, hh⟩ := bi_bd hh
  refine go_gfR (pc := 4) rfl ex2 ?_
  refine go_as (pc := 7) rfl ?_
  refine go_al (pc := 8) rfl (bi_k1 (rfl : ai_ld 0 (lv_args 0 [.ref a0]) = some (.ref a0)) rfl rfl) ?_
  refine go_al (pc := 9) rfl bi_e1 ?_
  refine bt_c hh (fun E hE ee hh => go_ivX (pc := 10) rfl rfl (gX3_beginRow ee) (Nat.le_of_ble_eq_true rfl) (bi_up (sX3_beginRow ee) (Nat.le_of_ble_eq_true rfl)) (bi_xV hh)) ?_
  intro x3 h4 ex3 hh
  refine go_ivV (pc := 10) rfl rfl (gX3_beginRow ex3) (Nat.le_of_ble_eq_true rfl) (bi_up (sX3_beginRow ex3) (Nat.le_of_ble_eq_true rfl)) ?_
  refine go_al (pc := 13) rfl (bi_k1 (rfl : ai_ld 0 (lv_args 0 [.ref a0]) = some (.ref a0)) rfl rfl) ?_
  refine go_al (pc := 14) rfl bi_e1 ?_
  refine bt_c hh (fun E hE ee hh => go_ivX (pc := 15) rfl rfl (gX3_readNewName ee) (Nat.le_of_ble_eq_true rfl) (bi_up (sX3_readNewName ee) (Nat.le_of_ble_eq_true rfl)) (bi_xV hh)) ?_
  intro x5 h6 ex5 hh
  refine go_ivV (pc := 15) rfl rfl (gX3_readNewName ex5) (Nat.le_of_ble_eq_true rfl) (bi_up (sX3_readNewName ex5) (Nat.le_of_ble_eq_true rfl)) ?_
  refine go_al (pc := 18) rfl bi_e1 ?_
  refine go_pi (pc := 19) rfl ?_
  refine go_al (pc := 20) rfl (bi_k1 (rfl : ai_ld 0 (lv_args 0 [.ref a0]) = some (.ref a0)) rfl rfl) ?_
  refine go_al (pc := 21) rfl (bi_k1 (rfl : ai_ld 0 (lv_args 0 [.ref a0]) = some (.ref a0)) rfl rfl) ?_
  obtain ⟨x7, ex7, hh⟩ := bi_bd hh
  refine go_gfR (pc := 22) rfl ex7 ?_
  obtain ⟨x8, ex8, hh⟩ := bi_bd hh
  refine go_gfR (pc := 25) rfl ex8 ?_
  refine bt_c hh (fun E hE ee hh => go_ivX (pc := 28) rfl rfl (gX3_readTold ee) (Nat.le_of_ble_eq_true rfl) (bi_up (sX3_readTold ee) (Nat.le_of_ble_eq_true rfl)) (bi_xV hh)) ?_
  intro x9 h10 ex9 hh
  refine go_ivI (pc := 28) rfl rfl (gX3_readTold ex9) (Nat.le_of_ble_eq_true rfl) (bi_up (sX3_readTold ex9) (Nat.le_of_ble_eq_true rfl)) ?_
  obtain ⟨q11, eq11, hh⟩ := bi_bd hh
  refine go_ivV (pc := 31) rfl rfl (gX6_put eq11) (Nat.le_of_ble_eq_true rfl) (bi_up (sX6_put eq11) (Nat.le_of_ble_eq_true rfl)) ?_
  refine go_al (pc := 34) rfl bi_e1 ?_
  refine go_pi (pc := 35) rfl ?_
  refine go_al (pc := 36) rfl (bi_k1 (rfl : ai_ld 0 (lv_args 0 [.ref a0]) = some (.ref a0)) rfl rfl) ?_
  refine go_pi (pc := 37) rfl ?_
  refine go_pi (pc := 38) rfl ?_
  refine bt_c hh (fun E hE ee hh => go_ivX (pc := 40) rfl rfl (gX3_readNumber ee) (Nat.le_of_ble_eq_true rfl) (bi_up (sX3_readNumber ee) (Nat.le_of_ble_eq_true rfl)) (bi_xV hh)) ?_
  intro x12 h13 ex12 hh
  refine go_ivI (pc := 40) rfl rfl (gX3_readNumber ex12) (Nat.le_of_ble_eq_true rfl) (bi_up (sX3_readNumber ex12) (Nat.le_of_ble_eq_true rfl)) ?_
  obtain ⟨q14, eq14, hh⟩ := bi_bd hh
  refine go_ivV (pc := 43) rfl rfl (gX6_put eq14) (Nat.le_of_ble_eq_true rfl) (bi_up (sX6_put eq14) (Nat.le_of_ble_eq_true rfl)) ?_
  refine go_al (pc := 46) rfl bi_e1 ?_
  refine go_pi (pc := 47) rfl ?_
  refine go_al (pc := 48) rfl (bi_k1 (rfl : ai_ld 0 (lv_args 0 [.ref a0]) = some (.ref a0)) rfl rfl) ?_
  refine go_pi (pc := 49) rfl ?_
  refine go_pi (pc := 50) rfl ?_
  refine bt_c hh (fun E hE ee hh => go_ivX (pc := 52) rfl rfl (gX3_readNumber ee) (Nat.le_of_ble_eq_true rfl) (bi_up (sX3_readNumber ee) (Nat.le_of_ble_eq_true rfl)) (bi_xV hh)) ?_
  intro x15 h16 ex15 hh
  refine go_ivI (pc := 52) rfl rfl (gX3_readNumber ex15) (Nat.le_of_ble_eq_true rfl) (bi_up (sX3_readNumber ex15) (Nat.le_of_ble_eq_true rfl)) ?_
  obtain ⟨q17, eq17, hh⟩ := bi_bd hh
  refine go_ivV (pc := 55) rfl rfl (gX6_put eq17) (Nat.le_of_ble_eq_true rfl) (bi_up (sX6_put eq17) (Nat.le_of_ble_eq_true rfl)) ?_
  refine go_al (pc := 58) rfl bi_e1 ?_
  obtain ⟨q18, eq18, hh⟩ := bi_bd hh
  refine go_ivV (pc := 59) rfl rfl (gX6_endRow eq18) (Nat.le_of_ble_eq_true rfl) (bi_up (sX6_endRow eq18) (Nat.le_of_ble_eq_true rfl)) ?_
  exact go_trv (pc := 62) rfl hh
def fX3_readWalk (n : Nat) (h : ai_H) (a0 : Nat) : Option ((Unit ⊕ Nat) × ai_H) :=
  (kO n h a0 3).bind fun _ =>
  (pR n h a0 3 1).bind fun x1 =>
  (pR n h x1 8 3).bind fun x2 =>
  bt (fX3_beginRow n h a0 x2) fun x3 h4 =>
  (pR n h4 a0 3 1).bind fun x5 =>
  (pR n h4 x5 8 2).bind fun x6 =>
  bt (fX3_readTold n h4 a0 x6) fun x7 h8 =>
  (fX6_put n h8 x2 (0 : Int32) x7).bind fun q9 =>
  (pR n q9.2 a0 3 1).bind fun x10 =>
  (pR n q9.2 x10 8 1).bind fun x11 =>
  bt (fX3_readTold n q9.2 a0 x11) fun x12 h13 =>
  (fX6_put n h13 x2 (1 : Int32) x12).bind fun q14 =>
  bt (fX3_readNumber n q14.2 a0 (0 : Int32) (99 : Int32)) fun x15 h16 =>
  (fX6_put n h16 x2 (2 : Int32) x15).bind fun q17 =>
  (fX6_endRow n q17.2 x2).bind fun q18 =>
  some (.inl (), q18.2)
theorem gX3_readWalk {n : Nat} {h : ai_H} {a0 : Nat} {q : (Unit ⊕ Nat) × ai_H} (hh : fX3_readWalk n h a0 = some q) : kO n h a0 3 = some () := by
  obtain ⟨_, e, -⟩ := bi_bd hh
  exact e
theorem sX3_readWalk {n : Nat} {h : ai_H} {a0 : Nat} {q : (Unit ⊕ Nat) × ai_H} (hh : fX3_readWalk n h a0 = some q) : bi_sp 4 31 [.ref a0] h n (tV n q) := by
  refine bi_en (D := 3) (T := tX3_readWalk) (funext fun pc => rfl) rfl (Nat.le_of_ble_eq_true rfl) ?_
  unfold fX3_readWalk at hh
  obtain ⟨_, eO, hh⟩ := bi_bd hh
  refine go_al (pc := 0) rfl (rfl : ai_ld 0 (lv_args 0 [.ref a0]) = some (.ref a0)) ?_
  obtain ⟨x1, ex1, hh⟩ := bi_bd hh
  refine go_gfR (pc := 1) rfl ex1 ?_
  obtain ⟨x2, ex2, hh⟩ := bi_bd hh
  refine go_gfR (pc := 4) rfl ex2 ?_
  refine go_as (pc := 7) rfl ?_
  refine go_al (pc := 8) rfl (bi_k1 (rfl : ai_ld 0 (lv_args 0 [.ref a0]) = some (.ref a0)) rfl rfl) ?_
  refine go_al (pc := 9) rfl bi_e1 ?_
  refine bt_c hh (fun E hE ee hh => go_ivX (pc := 10) rfl rfl (gX3_beginRow ee) (Nat.le_of_ble_eq_true rfl) (bi_up (sX3_beginRow ee) (Nat.le_of_ble_eq_true rfl)) (bi_xV hh)) ?_
  intro x3 h4 ex3 hh
  refine go_ivV (pc := 10) rfl rfl (gX3_beginRow ex3) (Nat.le_of_ble_eq_true rfl) (bi_up (sX3_beginRow ex3) (Nat.le_of_ble_eq_true rfl)) ?_
  refine go_al (pc := 13) rfl bi_e1 ?_
  refine go_pi (pc := 14) rfl ?_
  refine go_al (pc := 15) rfl (bi_k1 (rfl : ai_ld 0 (lv_args 0 [.ref a0]) = some (.ref a0)) rfl rfl) ?_
  refine go_al (pc := 16) rfl (bi_k1 (rfl : ai_ld 0 (lv_args 0 [.ref a0]) = some (.ref a0)) rfl rfl) ?_
  obtain ⟨x5, ex5, hh⟩ := bi_bd hh
  refine go_gfR (pc := 17) rfl ex5 ?_
  obtain ⟨x6, ex6, hh⟩ := bi_bd hh
  refine go_gfR (pc := 20) rfl ex6 ?_
  refine bt_c hh (fun E hE ee hh => go_ivX (pc := 23) rfl rfl (gX3_readTold ee) (Nat.le_of_ble_eq_true rfl) (bi_up (sX3_readTold ee) (Nat.le_of_ble_eq_true rfl)) (bi_xV hh)) ?_
  intro x7 h8 ex7 hh
  refine go_ivI (pc := 23) rfl rfl (gX3_readTold ex7) (Nat.le_of_ble_eq_true rfl) (bi_up (sX3_readTold ex7) (Nat.le_of_ble_eq_true rfl)) ?_
  obtain ⟨q9, eq9, hh⟩ := bi_bd hh
  refine go_ivV (pc := 26) rfl rfl (gX6_put eq9) (Nat.le_of_ble_eq_true rfl) (bi_up (sX6_put eq9) (Nat.le_of_ble_eq_true rfl)) ?_
  refine go_al (pc := 29) rfl bi_e1 ?_
  refine go_pi (pc := 30) rfl ?_
  refine go_al (pc := 31) rfl (bi_k1 (rfl : ai_ld 0 (lv_args 0 [.ref a0]) = some (.ref a0)) rfl rfl) ?_
  refine go_al (pc := 32) rfl (bi_k1 (rfl : ai_ld 0 (lv_args 0 [.ref a0]) = some (.ref a0)) rfl rfl) ?_
  obtain ⟨x10, ex10, hh⟩ := bi_bd hh
  refine go_gfR (pc := 33) rfl ex10 ?_
  obtain ⟨x11, ex11, hh⟩ := bi_bd hh
  refine go_gfR (pc := 36) rfl ex11 ?_
  refine bt_c hh (fun E hE ee hh => go_ivX (pc := 39) rfl rfl (gX3_readTold ee) (Nat.le_of_ble_eq_true rfl) (bi_up (sX3_readTold ee) (Nat.le_of_ble_eq_true rfl)) (bi_xV hh)) ?_
  intro x12 h13 ex12 hh
  refine go_ivI (pc := 39) rfl rfl (gX3_readTold ex12) (Nat.le_of_ble_eq_true rfl) (bi_up (sX3_readTold ex12) (Nat.le_of_ble_eq_true rfl)) ?_
  obtain ⟨q14, eq14, hh⟩ := bi_bd hh
  refine go_ivV (pc := 42) rfl rfl (gX6_put eq14) (Nat.le_of_ble_eq_true rfl) (bi_up (sX6_put eq14) (Nat.le_of_ble_eq_true rfl)) ?_
  refine go_al (pc := 45) rfl bi_e1 ?_
  refine go_pi (pc := 46) rfl ?_
  refine go_al (pc := 47) rfl (bi_k1 (rfl : ai_ld 0 (lv_args 0 [.ref a0]) = some (.ref a0)) rfl rfl) ?_
  refine go_pi (pc := 48) rfl ?_
  refine go_pi (pc := 49) rfl ?_
  refine bt_c hh (fun E hE ee hh => go_ivX (pc := 51) rfl rfl (gX3_readNumber ee) (Nat.le_of_ble_eq_true rfl) (bi_up (sX3_readNumber ee) (Nat.le_of_ble_eq_true rfl)) (bi_xV hh)) ?_
  intro x15 h16 ex15 hh
  refine go_ivI (pc := 51) rfl rfl (gX3_readNumber ex15) (Nat.le_of_ble_eq_true rfl) (bi_up (sX3_readNumber ex15) (Nat.le_of_ble_eq_true rfl)) ?_
  obtain ⟨q17, eq17, hh⟩ := bi_bd hh
  refine go_ivV (pc := 54) rfl rfl (gX6_put eq17) (Nat.le_of_ble_eq_true rfl) (bi_up (sX6_put eq17) (Nat.le_of_ble_eq_true rfl)) ?_
  refine go_al (pc := 57) rfl bi_e1 ?_
  obtain ⟨q18, eq18, hh⟩ := bi_bd hh
  refine go_ivV (pc := 58) rfl rfl (gX6_endRow eq18) (Nat.le_of_ble_eq_true rfl) (bi_up (sX6_endRow eq18) (Nat.le_of_ble_eq_true rfl)) ?_
  exact go_trv (pc := 61) rfl hh
def fX3_readBull (n : Nat) (h : ai_H) (a0 : Nat) : Option ((Unit ⊕ Nat) × ai_H) :=
  (kO n h a0 3).bind fun _ =>
  (pR n h a0 3 1).bind fun x1 =>
  (pR n h x1 8 4).bind fun x2 =>
  bt (fX3_beginRow n h a0 x2) fun x3 h4 =>
  (pR n h4 a0 3 1).bind fun x5 =>
  (pR n h4 x5 8 1).bind fun x6 =>
  bt (fX3_readTold n h4 a0 x6) fun x7 h8 =>
  (fX6_put n h8 x2 (0 : Int32) x7).bind fun q9 =>
  bt (fX3_readNumber n q9.2 a0 (0 : Int32) (99 : Int32)) fun x10 h11 =>
  (fX6_put n h11 x2 (1 : Int32) x10).bind fun q12 =>
  bt (fX3_readNumber n q12.2 a0 (0 : Int32) (99 : Int32)) fun x13 h14 =>
  (fX6_put n h14 x2 (2 : Int32) x13).bind fun q15 =>
  (fX6_endRow n q15.2 x2).bind fun q16 =>
  some (.inl (), q16.2)
theorem gX3_readBull {n : Nat} {h : ai_H} {a0 : Nat} {q : (Unit ⊕ Nat) × ai_H} (hh : fX3_readBull n h a0 = some q) : kO n h a0 3 = some () := by
  obtain ⟨_, e, -⟩ := bi_bd hh
  exact e
theorem sX3_readBull {n : Nat} {h : ai_H} {a0 : Nat} {q : (Unit ⊕ Nat) × ai_H} (hh : fX3_readBull n h a0 = some q) : bi_sp 4 32 [.ref a0] h n (tV n q) := by
  refine bi_en (D := 3) (T := tX3_readBull) (funext fun pc => rfl) rfl (Nat.le_of_ble_eq_true rfl) ?_
  unfold fX3_readBull at hh
  obtain ⟨_, eO, hh⟩ := bi_bd hh
  refine go_al (pc := 0) rfl (rfl : ai_ld 0 (lv_args 0 [.ref a0]) = some (.ref a0)) ?_
  obtain ⟨x1, ex1, hh⟩ := bi_bd hh
  refine go_gfR (pc := 1) rfl ex1 ?_
  obtain ⟨x2, ex2, hh⟩ := bi_bd hh
  refine go_gfR (pc := 4) rfl ex2 ?_
  refine go_as (pc := 7) rfl ?_
  refine go_al (pc := 8) rfl (bi_k1 (rfl : ai_ld 0 (lv_args 0 [.ref a0]) = some (.ref a0)) rfl rfl) ?_
  refine go_al (pc := 9) rfl bi_e1 ?_
  refine bt_c hh (fun E hE ee hh => go_ivX (pc := 10) rfl rfl (gX3_beginRow ee) (Nat.le_of_ble_eq_true rfl) (bi_up (sX3_beginRow ee) (Nat.le_of_ble_eq_true rfl)) (bi_xV hh)) ?_
  intro x3 h4 ex3 hh
  refine go_ivV (pc := 10) rfl rfl (gX3_beginRow ex3) (Nat.le_of_ble_eq_true rfl) (bi_up (sX3_beginRow ex3) (Nat.le_of_ble_eq_true rfl)) ?_
  refine go_al (pc := 13) rfl bi_e1 ?_
  refine go_pi (pc := 14) rfl ?_
  refine go_al (pc := 15) rfl (bi_k1 (rfl : ai_ld 0 (lv_args 0 [.ref a0]) = some (.ref a0)) rfl rfl) ?_
  refine go_al (pc := 16) rfl (bi_k1 (rfl : ai_ld 0 (lv_args 0 [.ref a0]) = some (.ref a0)) rfl rfl) ?_
  obtain ⟨x5, ex5, hh⟩ := bi_bd hh
  refine go_gfR (pc := 17) rfl ex5 ?_
  obtain ⟨x6, ex6, hh⟩ := bi_bd hh
  refine go_gfR (pc := 20) rfl ex6 ?_
  refine bt_c hh (fun E hE ee hh => go_ivX (pc := 23) rfl rfl (gX3_readTold ee) (Nat.le_of_ble_eq_true rfl) (bi_up (sX3_readTold ee) (Nat.le_of_ble_eq_true rfl)) (bi_xV hh)) ?_
  intro x7 h8 ex7 hh
  refine go_ivI (pc := 23) rfl rfl (gX3_readTold ex7) (Nat.le_of_ble_eq_true rfl) (bi_up (sX3_readTold ex7) (Nat.le_of_ble_eq_true rfl)) ?_
  obtain ⟨q9, eq9, hh⟩ := bi_bd hh
  refine go_ivV (pc := 26) rfl rfl (gX6_put eq9) (Nat.le_of_ble_eq_true rfl) (bi_up (sX6_put eq9) (Nat.le_of_ble_eq_true rfl)) ?_
  refine go_al (pc := 29) rfl bi_e1 ?_
  refine go_pi (pc := 30) rfl ?_
  refine go_al (pc := 31) rfl (bi_k1 (rfl : ai_ld 0 (lv_args 0 [.ref a0]) = some (.ref a0)) rfl rfl) ?_
  refine go_pi (pc := 32) rfl ?_
  refine go_pi (pc := 33) rfl ?_
  refine bt_c hh (fun E hE ee hh => go_ivX (pc := 35) rfl rfl (gX3_readNumber ee) (Nat.le_of_ble_eq_true rfl) (bi_up (sX3_readNumber ee) (Nat.le_of_ble_eq_true rfl)) (bi_xV hh)) ?_
  intro x10 h11 ex10 hh
  refine go_ivI (pc := 35) rfl rfl (gX3_readNumber ex10) (Nat.le_of_ble_eq_true rfl) (bi_up (sX3_readNumber ex10) (Nat.le_of_ble_eq_true rfl)) ?_
  obtain ⟨q12, eq12, hh⟩ := bi_bd hh
  refine go_ivV (pc := 38) rfl rfl (gX6_put eq12) (Nat.le_of_ble_eq_true rfl) (bi_up (sX6_put eq12) (Nat.le_of_ble_eq_true rfl)) ?_
  refine go_al (pc := 41) rfl bi_e1 ?_
  refine go_pi (pc := 42) rfl ?_
  refine go_al (pc := 43) rfl (bi_k1 (rfl : ai_ld 0 (lv_args 0 [.ref a0]) = some (.ref a0)) rfl rfl) ?_
  refine go_pi (pc := 44) rfl ?_
  refine go_pi (pc := 45) rfl ?_
  refine bt_c hh (fun E hE ee hh => go_ivX (pc := 47) rfl rfl (gX3_readNumber ee) (Nat.le_of_ble_eq_true rfl) (bi_up (sX3_readNumber ee) (Nat.le_of_ble_eq_true rfl)) (bi_xV hh)) ?_
  intro x13 h14 ex13 hh
  refine go_ivI (pc := 47) rfl rfl (gX3_readNumber ex13) (Nat.le_of_ble_eq_true rfl) (bi_up (sX3_readNumber ex13) (Nat.le_of_ble_eq_true rfl)) ?_
  obtain ⟨q15, eq15, hh⟩ := bi_bd hh
  refine go_ivV (pc := 50) rfl rfl (gX6_put eq15) (Nat.le_of_ble_eq_true rfl) (bi_up (sX6_put eq15) (Nat.le_of_ble_eq_true rfl)) ?_
  refine go_al (pc := 53) rfl bi_e1 ?_
  obtain ⟨q16, eq16, hh⟩ := bi_bd hh
  refine go_ivV (pc := 54) rfl rfl (gX6_endRow eq16) (Nat.le_of_ble_eq_true rfl) (bi_up (sX6_endRow eq16) (Nat.le_of_ble_eq_true rfl)) ?_
  exact go_trv (pc := 57) rfl hh
def fX3_beginOnce_24 (n : Nat) (h : ai_H) (v0 : Nat) (v1 : Int32) : Option ((Unit ⊕ Nat) × ai_H) :=
  (pI n h v0 3 2).bind fun x1 =>
  (sF n h v0 3 2 (.int) (.int (x1 ||| v1))).bind fun h2 =>
  (pR n h2 v0 3 0).bind fun x3 =>
  (fX7_advance n h2 x3).bind fun q4 =>
  some (.inl (), q4.2)
theorem sX3_beginOnce_24 {n : Nat} {q : (Unit ⊕ Nat) × ai_H} {h : ai_H} {v0 : Nat} {v1 : Int32} {lv : ai_L} (l0 : ai_ld 0 lv = some (.ref v0)) (l1 : ai_ld 1 lv = some (.int v1)) (hh : fX3_beginOnce_24 n h v0 v1 = some q) : bi_go 2 tX3_beginOnce n (tV n q) 24 lv [] h := by
  unfold fX3_beginOnce_24 at hh
  refine go_al (pc := 24) rfl l0 ?_
  refine go_dup (pc := 25) rfl rfl ?_
  obtain ⟨x1, ex1, hh⟩ := bi_bd hh
  refine go_gfI (pc := 26) rfl ex1 ?_
  refine go_il (pc := 29) rfl l1 ?_
  refine go_ior (pc := 30) rfl ?_
  obtain ⟨h2, eh2, hh⟩ := bi_bd hh
  refine go_pf (pc := 31) rfl eh2 ?_
  refine go_al (pc := 34) rfl l0 ?_
  obtain ⟨x3, ex3, hh⟩ := bi_bd hh
  refine go_gfR (pc := 35) rfl ex3 ?_
  obtain ⟨q4, eq4, hh⟩ := bi_bd hh
  refine go_ivV (pc := 38) rfl rfl (gX7_advance eq4) (Nat.le_of_ble_eq_true rfl) (bi_up (sX7_advance eq4) (Nat.le_of_ble_eq_true rfl)) ?_
  exact go_trv (pc := 41) rfl hh
def fX3_beginOnce (n : Nat) (h : ai_H) (a0 : Nat) : Option ((Unit ⊕ Nat) × ai_H) :=
  (kO n h a0 3).bind fun _ =>
  (pR n h a0 3 0).bind fun x1 =>
  (pI n h x1 7 4).bind fun x2 =>
  (pI n h a0 3 2).bind fun x3 =>
  if (x3 &&& ((1 : Int32) <<< (x2 &&& 31))) = 0 then (
    fX3_beginOnce_24 n h a0 ((1 : Int32) <<< (x2 &&& 31)))
  else (
    bt (fX3_fail n h a0 (3 : Int32)) fun x4 h5 =>
    fX3_beginOnce_24 n h5 a0 ((1 : Int32) <<< (x2 &&& 31)))
theorem gX3_beginOnce {n : Nat} {h : ai_H} {a0 : Nat} {q : (Unit ⊕ Nat) × ai_H} (hh : fX3_beginOnce n h a0 = some q) : kO n h a0 3 = some () := by
  obtain ⟨_, e, -⟩ := bi_bd hh
  exact e
theorem sX3_beginOnce {n : Nat} {h : ai_H} {a0 : Nat} {q : (Unit ⊕ Nat) × ai_H} (hh : fX3_beginOnce n h a0 = some q) : bi_sp 3 28 [.ref a0] h n (tV n q) := by
  refine bi_en (D := 2) (T := tX3_beginOnce) (funext fun pc => rfl) rfl (Nat.le_of_ble_eq_true rfl) ?_
  unfold fX3_beginOnce at hh
  obtain ⟨_, eO, hh⟩ := bi_bd hh
  refine go_pi (pc := 0) rfl ?_
  refine go_al (pc := 1) rfl (rfl : ai_ld 0 (lv_args 0 [.ref a0]) = some (.ref a0)) ?_
  obtain ⟨x1, ex1, hh⟩ := bi_bd hh
  refine go_gfR (pc := 2) rfl ex1 ?_
  obtain ⟨x2, ex2, hh⟩ := bi_bd hh
  refine go_gfI (pc := 5) rfl ex2 ?_
  refine go_ishl (pc := 8) rfl ?_
  refine go_is (pc := 9) rfl ?_
  refine go_al (pc := 10) rfl (bi_k1 (rfl : ai_ld 0 (lv_args 0 [.ref a0]) = some (.ref a0)) rfl rfl) ?_
  obtain ⟨x3, ex3, hh⟩ := bi_bd hh
  refine go_gfI (pc := 11) rfl ex3 ?_
  refine go_il (pc := 14) rfl bi_e1 ?_
  refine go_iand (pc := 15) rfl ?_
  refine bi_ite hh (fun hc hh => ?_) (fun hc hh => ?_)
  · refine go_ifeqT (pc := 16) rfl hc ?_
    exact sX3_beginOnce_24  (bi_k1 (rfl : ai_ld 0 (lv_args 0 [.ref a0]) = some (.ref a0)) rfl rfl) bi_e1 hh
  · refine go_ifeqF (pc := 16) rfl hc ?_
    refine go_al (pc := 19) rfl (bi_k1 (rfl : ai_ld 0 (lv_args 0 [.ref a0]) = some (.ref a0)) rfl rfl) ?_
    refine go_pi (pc := 20) rfl ?_
    refine bt_c hh (fun E hE ee hh => go_ivX (pc := 21) rfl rfl (gX3_fail ee) (Nat.le_of_ble_eq_true rfl) (bi_up (sX3_fail ee) (Nat.le_of_ble_eq_true rfl)) (bi_xV hh)) ?_
    intro x4 h5 ex4 hh
    refine go_ivV (pc := 21) rfl rfl (gX3_fail ex4) (Nat.le_of_ble_eq_true rfl) (bi_up (sX3_fail ex4) (Nat.le_of_ble_eq_true rfl)) ?_
    exact sX3_beginOnce_24  (bi_k1 (rfl : ai_ld 0 (lv_args 0 [.ref a0]) = some (.ref a0)) rfl rfl) bi_e1 hh
def fX3_expect_16 (n : Nat) (h : ai_H) (v0 : Nat) : Option ((Unit ⊕ Nat) × ai_H) :=
  (pR n h v0 3 0).bind fun x1 =>
  (fX7_advance n h x1).bind fun q2 =>
  some (.inl (), q2.2)
theorem sX3_expect_16 {n : Nat} {q : (Unit ⊕ Nat) × ai_H} {h : ai_H} {v0 : Nat} {lv : ai_L} (l0 : ai_ld 0 lv = some (.ref v0)) (hh : fX3_expect_16 n h v0 = some q) : bi_go 2 tX3_expect n (tV n q) 16 lv [] h := by
  unfold fX3_expect_16 at hh
  refine go_al (pc := 16) rfl l0 ?_
  obtain ⟨x1, ex1, hh⟩ := bi_bd hh
  refine go_gfR (pc := 17) rfl ex1 ?_
  obtain ⟨q2, eq2, hh⟩ := bi_bd hh
  refine go_ivV (pc := 20) rfl rfl (gX7_advance eq2) (Nat.le_of_ble_eq_true rfl) (bi_up (sX7_advance eq2) (Nat.le_of_ble_eq_true rfl)) ?_
  exact go_trv (pc := 23) rfl hh
def fX3_expect (n : Nat) (h : ai_H) (a0 : Nat) (a1 : Int32) : Option ((Unit ⊕ Nat) × ai_H) :=
  (kO n h a0 3).bind fun _ =>
  (pR n h a0 3 0).bind fun x1 =>
  (pI n h x1 7 4).bind fun x2 =>
  if x2 = a1 then (
    fX3_expect_16 n h a0)
  else (
    bt (fX3_fail n h a0 (1 : Int32)) fun x3 h4 =>
    fX3_expect_16 n h4 a0)
theorem gX3_expect {n : Nat} {h : ai_H} {a0 : Nat} {a1 : Int32} {q : (Unit ⊕ Nat) × ai_H} (hh : fX3_expect n h a0 a1 = some q) : kO n h a0 3 = some () := by
  obtain ⟨_, e, -⟩ := bi_bd hh
  exact e
theorem sX3_expect {n : Nat} {h : ai_H} {a0 : Nat} {a1 : Int32} {q : (Unit ⊕ Nat) × ai_H} (hh : fX3_expect n h a0 a1 = some q) : bi_sp 3 25 [.ref a0, .int a1] h n (tV n q) := by
  refine bi_en (D := 2) (T := tX3_expect) (funext fun pc => rfl) rfl (Nat.le_of_ble_eq_true rfl) ?_
  unfold fX3_expect at hh
  obtain ⟨_, eO, hh⟩ := bi_bd hh
  refine go_al (pc := 0) rfl (rfl : ai_ld 0 (lv_args 0 [.ref a0, .int a1]) = some (.ref a0)) ?_
  obtain ⟨x1, ex1, hh⟩ := bi_bd hh
  refine go_gfR (pc := 1) rfl ex1 ?_
  obtain ⟨x2, ex2, hh⟩ := bi_bd hh
  refine go_gfI (pc := 4) rfl ex2 ?_
  refine go_il (pc := 7) rfl (rfl : ai_ld 1 (lv_args 0 [.ref a0, .int a1]) = some (.int a1)) ?_
  refine bi_ite hh (fun hc hh => ?_) (fun hc hh => ?_)
  · refine go_cmpeqT (pc := 8) rfl hc ?_
    exact sX3_expect_16  (rfl : ai_ld 0 (lv_args 0 [.ref a0, .int a1]) = some (.ref a0)) hh
  · refine go_cmpeqF (pc := 8) rfl hc ?_
    refine go_al (pc := 11) rfl (rfl : ai_ld 0 (lv_args 0 [.ref a0, .int a1]) = some (.ref a0)) ?_
    refine go_pi (pc := 12) rfl ?_
    refine bt_c hh (fun E hE ee hh => go_ivX (pc := 13) rfl rfl (gX3_fail ee) (Nat.le_of_ble_eq_true rfl) (bi_up (sX3_fail ee) (Nat.le_of_ble_eq_true rfl)) (bi_xV hh)) ?_
    intro x3 h4 ex3 hh
    refine go_ivV (pc := 13) rfl rfl (gX3_fail ex3) (Nat.le_of_ble_eq_true rfl) (bi_up (sX3_fail ex3) (Nat.le_of_ble_eq_true rfl)) ?_
    exact sX3_expect_16  (rfl : ai_ld 0 (lv_args 0 [.ref a0, .int a1]) = some (.ref a0)) hh
def fX3_takeKnot_20 (n : Nat) (h : ai_H) (v0 : Nat) : Option ((Unit ⊕ Nat) × ai_H) :=
  (pR n h v0 3 1).bind fun x1 =>
  (pR n h x1 8 5).bind fun x2 =>
  (pI n h x2 2 5).bind fun x3 =>
  (sF n h x2 2 5 (.int) (.int (x3 + (1 : Int32)))).bind fun h4 =>
  (pR n h4 v0 3 0).bind fun x5 =>
  (fX7_advance n h4 x5).bind fun q6 =>
  some (.inl (), q6.2)
theorem sX3_takeKnot_20 {n : Nat} {q : (Unit ⊕ Nat) × ai_H} {h : ai_H} {v0 : Nat} {lv : ai_L} (l0 : ai_ld 0 lv = some (.ref v0)) (hh : fX3_takeKnot_20 n h v0 = some q) : bi_go 2 tX3_takeKnot n (tV n q) 20 lv [] h := by
  unfold fX3_takeKnot_20 at hh
  refine go_al (pc := 20) rfl l0 ?_
  obtain ⟨x1, ex1, hh⟩ := bi_bd hh
  refine go_gfR (pc := 21) rfl ex1 ?_
  obtain ⟨x2, ex2, hh⟩ := bi_bd hh
  refine go_gfR (pc := 24) rfl ex2 ?_
  refine go_dup (pc := 27) rfl rfl ?_
  obtain ⟨x3, ex3, hh⟩ := bi_bd hh
  refine go_gfI (pc := 28) rfl ex3 ?_
  refine go_pi (pc := 31) rfl ?_
  refine go_iadd (pc := 32) rfl ?_
  obtain ⟨h4, eh4, hh⟩ := bi_bd hh
  refine go_pf (pc := 33) rfl eh4 ?_
  refine go_al (pc := 36) rfl l0 ?_
  obtain ⟨x5, ex5, hh⟩ := bi_bd hh
  refine go_gfR (pc := 37) rfl ex5 ?_
  obtain ⟨q6, eq6, hh⟩ := bi_bd hh
  refine go_ivV (pc := 40) rfl rfl (gX7_advance eq6) (Nat.le_of_ble_eq_true rfl) (bi_up (sX7_advance eq6) (Nat.le_of_ble_eq_true rfl)) ?_
  exact go_trv (pc := 43) rfl hh
def fX3_takeKnot (n : Nat) (h : ai_H) (a0 : Nat) : Option ((Unit ⊕ Nat) × ai_H) :=
  (kO n h a0 3).bind fun _ =>
  (pR n h a0 3 1).bind fun x1 =>
  (pR n h x1 8 5).bind fun x2 =>
  (pI n h x2 2 5).bind fun x3 =>
  if x3 < (64 : Int32) then (
    fX3_takeKnot_20 n h a0)
  else (
    bt (fX3_fail n h a0 (2 : Int32)) fun x4 h5 =>
    fX3_takeKnot_20 n h5 a0)
theorem gX3_takeKnot {n : Nat} {h : ai_H} {a0 : Nat} {q : (Unit ⊕ Nat) × ai_H} (hh : fX3_takeKnot n h a0 = some q) : kO n h a0 3 = some () := by
  obtain ⟨_, e, -⟩ := bi_bd hh
  exact e
theorem sX3_takeKnot {n : Nat} {h : ai_H} {a0 : Nat} {q : (Unit ⊕ Nat) × ai_H} (hh : fX3_takeKnot n h a0 = some q) : bi_sp 3 40 [.ref a0] h n (tV n q) := by
  refine bi_en (D := 2) (T := tX3_takeKnot) (funext fun pc => rfl) rfl (Nat.le_of_ble_eq_true rfl) ?_
  unfold fX3_takeKnot at hh
  obtain ⟨_, eO, hh⟩ := bi_bd hh
  refine go_al (pc := 0) rfl (rfl : ai_ld 0 (lv_args 0 [.ref a0]) = some (.ref a0)) ?_
  obtain ⟨x1, ex1, hh⟩ := bi_bd hh
  refine go_gfR (pc := 1) rfl ex1 ?_
  obtain ⟨x2, ex2, hh⟩ := bi_bd hh
  refine go_gfR (pc := 4) rfl ex2 ?_
  obtain ⟨x3, ex3, hh⟩ := bi_bd hh
  refine go_gfI (pc := 7) rfl ex3 ?_
  refine go_pi (pc := 10) rfl ?_
  refine bi_ite hh (fun hc hh => ?_) (fun hc hh => ?_)
  · refine go_cmpltT (pc := 12) rfl hc ?_
    exact sX3_takeKnot_20  (rfl : ai_ld 0 (lv_args 0 [.ref a0]) = some (.ref a0)) hh
  · refine go_cmpltF (pc := 12) rfl hc ?_
    refine go_al (pc := 15) rfl (rfl : ai_ld 0 (lv_args 0 [.ref a0]) = some (.ref a0)) ?_
    refine go_pi (pc := 16) rfl ?_
    refine bt_c hh (fun E hE ee hh => go_ivX (pc := 17) rfl rfl (gX3_fail ee) (Nat.le_of_ble_eq_true rfl) (bi_up (sX3_fail ee) (Nat.le_of_ble_eq_true rfl)) (bi_xV hh)) ?_
    intro x4 h5 ex4 hh
    refine go_ivV (pc := 17) rfl rfl (gX3_fail ex4) (Nat.le_of_ble_eq_true rfl) (bi_up (sX3_fail ex4) (Nat.le_of_ble_eq_true rfl)) ?_
    exact sX3_takeKnot_20  (rfl : ai_ld 0 (lv_args 0 [.ref a0]) = some (.ref a0)) hh
def fX3_levelOf_56 (n : Nat) (h : ai_H) : Option (Int32 × ai_H) :=
  some ((5 : Int32), h)
theorem sX3_levelOf_56 {n : Nat} {q : Int32 × ai_H} {h : ai_H} {lv : ai_L} (hh : fX3_levelOf_56 n h = some q) : bi_go 0 tX3_levelOf n (fI n q) 56 lv [] h := by
  unfold fX3_levelOf_56 at hh
  refine go_pi (pc := 56) rfl ?_
  refine go_goto (pc := 57) rfl ?_
  exact go_ri (pc := 61) rfl hh
def fX3_levelOf_30 (n : Nat) (h : ai_H) (v0 : Int32) : Option (Int32 × ai_H) :=
  if v0 = (33 : Int32) then (
    some ((4 : Int32), h))
  else (
    if ¬ v0 = (34 : Int32) then (
      if v0 = (35 : Int32) then (
        fX3_levelOf_56 n h)
      else (
        if ¬ v0 = (36 : Int32) then (
          some ((-1 : Int32), h))
        else (
          fX3_levelOf_56 n h)))
    else (
      some ((4 : Int32), h)))
theorem sX3_levelOf_30 {n : Nat} {q : Int32 × ai_H} {h : ai_H} {v0 : Int32} {lv : ai_L} (l0 : ai_ld 0 lv = some (.int v0)) (hh : fX3_levelOf_30 n h v0 = some q) : bi_go 0 tX3_levelOf n (fI n q) 30 lv [] h := by
  unfold fX3_levelOf_30 at hh
  refine go_il (pc := 30) rfl l0 ?_
  refine go_pi (pc := 31) rfl ?_
  refine bi_ite hh (fun hc hh => ?_) (fun hc hh => ?_)
  · refine go_cmpeqT (pc := 33) rfl hc ?_
    refine go_pi (pc := 42) rfl ?_
    exact go_ri (pc := 43) rfl hh
  · refine go_cmpeqF (pc := 33) rfl hc ?_
    refine go_il (pc := 36) rfl l0 ?_
    refine go_pi (pc := 37) rfl ?_
    refine bi_ite hh (fun hc hh => ?_) (fun hc hh => ?_)
    · refine go_cmpneT (pc := 39) rfl hc ?_
      refine go_il (pc := 44) rfl l0 ?_
      refine go_pi (pc := 45) rfl ?_
      refine bi_ite hh (fun hc hh => ?_) (fun hc hh => ?_)
      · refine go_cmpeqT (pc := 47) rfl hc ?_
        exact sX3_levelOf_56   hh
      · refine go_cmpeqF (pc := 47) rfl hc ?_
        refine go_il (pc := 50) rfl l0 ?_
        refine go_pi (pc := 51) rfl ?_
        refine bi_ite hh (fun hc hh => ?_) (fun hc hh => ?_)
        · refine go_cmpneT (pc := 53) rfl hc ?_
          refine go_pi (pc := 60) rfl ?_
          exact go_ri (pc := 61) rfl hh
        · refine go_cmpneF (pc := 53) rfl hc ?_
          exact sX3_levelOf_56   hh
    · refine go_cmpneF (pc := 39) rfl hc ?_
      refine go_pi (pc := 42) rfl ?_
      exact go_ri (pc := 43) rfl hh
def fX3_levelOf (n : Nat) (h : ai_H) (a0 : Int32) : Option (Int32 × ai_H) :=
  if ¬ a0 = (12 : Int32) then (
    if ¬ a0 = (13 : Int32) then (
      if a0 < (27 : Int32) then (
        fX3_levelOf_30 n h a0)
      else (
        if (32 : Int32) < a0 then (
          fX3_levelOf_30 n h a0)
        else (
          some ((3 : Int32), h))))
    else (
      some ((1 : Int32), h)))
  else (
    some ((0 : Int32), h))
theorem sX3_levelOf {n : Nat} {h : ai_H} {a0 : Int32} {q : Int32 × ai_H} (hh : fX3_levelOf n h a0 = some q) : bi_sp 1 41 [.int a0] h n (fI n q) := by
  refine bi_en (D := 0) (T := tX3_levelOf) (funext fun pc => rfl) rfl (Nat.le_of_ble_eq_true rfl) ?_
  unfold fX3_levelOf at hh
  refine go_il (pc := 0) rfl (rfl : ai_ld 0 (lv_args 0 [.int a0]) = some (.int a0)) ?_
  refine go_pi (pc := 1) rfl ?_
  refine bi_ite hh (fun hc hh => ?_) (fun hc hh => ?_)
  · refine go_cmpneT (pc := 3) rfl hc ?_
    refine go_il (pc := 8) rfl (rfl : ai_ld 0 (lv_args 0 [.int a0]) = some (.int a0)) ?_
    refine go_pi (pc := 9) rfl ?_
    refine bi_ite hh (fun hc hh => ?_) (fun hc hh => ?_)
    · refine go_cmpneT (pc := 11) rfl hc ?_
      refine go_il (pc := 16) rfl (rfl : ai_ld 0 (lv_args 0 [.int a0]) = some (.int a0)) ?_
      refine go_pi (pc := 17) rfl ?_
      refine bi_ite hh (fun hc hh => ?_) (fun hc hh => ?_)
      · refine go_cmpltT (pc := 19) rfl hc ?_
        exact sX3_levelOf_30  (rfl : ai_ld 0 (lv_args 0 [.int a0]) = some (.int a0)) hh
      · refine go_cmpltF (pc := 19) rfl hc ?_
        refine go_il (pc := 22) rfl (rfl : ai_ld 0 (lv_args 0 [.int a0]) = some (.int a0)) ?_
        refine go_pi (pc := 23) rfl ?_
        refine bi_ite hh (fun hc hh => ?_) (fun hc hh => ?_)
        · refine go_cmpgtT (pc := 25) rfl hc ?_
          exact sX3_levelOf_30  (rfl : ai_ld 0 (lv_args 0 [.int a0]) = some (.int a0)) hh
        · refine go_cmpgtF (pc := 25) rfl hc ?_
          refine go_pi (pc := 28) rfl ?_
          exact go_ri (pc := 29) rfl hh
    · refine go_cmpneF (pc := 11) rfl hc ?_
      refine go_pi (pc := 14) rfl ?_
      exact go_ri (pc := 15) rfl hh
  · refine go_cmpneF (pc := 3) rfl hc ?_
    refine go_pi (pc := 6) rfl ?_
    exact go_ri (pc := 7) rfl hh
