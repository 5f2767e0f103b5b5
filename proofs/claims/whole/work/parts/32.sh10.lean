/-! ===== methods as functions, part 10 ===== -/
def fX10_lapse_47 (n : Nat) (h : ai_H) (v0 : Nat) (v1 : Int32) : Option (Int32 × ai_H) :=
  (pR n h v0 10 6).bind fun x1 =>
  (fX5_isKept n h x1 v1).bind fun q2 =>
  if q2.1 = 0 then (
    (pR n q2.2 v0 10 6).bind fun x3 =>
    (pI n q2.2 x3 5 0).bind fun x4 =>
    (pR n q2.2 v0 10 5).bind fun x5 =>
    (pI n q2.2 x5 5 0).bind fun x6 =>
    some (x4 - x6, q2.2))
  else (
    some ((-2 : Int32), q2.2))
theorem sX10_lapse_47 {n : Nat} {q : Int32 × ai_H} {h : ai_H} {v0 : Nat} {v1 : Int32} {lv : ai_L} (l0 : ai_ld 0 lv = some (.ref v0)) (l1 : ai_ld 1 lv = some (.int v1)) (hh : fX10_lapse_47 n h v0 v1 = some q) : bi_go 5 tX10_lapse n (fI n q) 47 lv [] h := by
  unfold fX10_lapse_47 at hh
  refine go_al (pc := 47) rfl l0 ?_
  obtain ⟨x1, ex1, hh⟩ := bi_bd hh
  refine go_gfR (pc := 48) rfl ex1 ?_
  refine go_il (pc := 51) rfl l1 ?_
  obtain ⟨q2, eq2, hh⟩ := bi_bd hh
  refine go_ivI (pc := 52) rfl rfl (gX5_isKept eq2) (Nat.le_of_ble_eq_true rfl) (bi_up (sX5_isKept eq2) (Nat.le_of_ble_eq_true rfl)) ?_
  refine bi_ite hh (fun hc hh => ?_) (fun hc hh => ?_)
  · refine go_ifeqT (pc := 55) rfl hc ?_
    refine go_al (pc := 63) rfl l0 ?_
    obtain ⟨x3, ex3, hh⟩ := bi_bd hh
    refine go_gfR (pc := 64) rfl ex3 ?_
    obtain ⟨x4, ex4, hh⟩ := bi_bd hh
    refine go_gfI (pc := 67) rfl ex4 ?_
    refine go_al (pc := 70) rfl l0 ?_
    obtain ⟨x5, ex5, hh⟩ := bi_bd hh
    refine go_gfR (pc := 71) rfl ex5 ?_
    obtain ⟨x6, ex6, hh⟩ := bi_bd hh
    refine go_gfI (pc := 74) rfl ex6 ?_
    refine go_isub (pc := 77) rfl ?_
    exact go_ri (pc := 78) rfl hh
  · refine go_ifeqF (pc := 55) rfl hc ?_
    refine go_pi (pc := 58) rfl ?_
    refine go_goto (pc := 60) rfl ?_
    exact go_ri (pc := 78) rfl hh
def fX10_lapse_16b (n : Nat) (r16 : ai_H → Nat → Int32 → Int32 → Option (Int32 × ai_H)) (h : ai_H) (v0 : Nat) (v1 : Int32) (v2 : Int32) : Option (Int32 × ai_H) :=
  if (399 : Int32) ≤ v2 then (
    fX10_lapse_47 n h v0 v1)
  else (
    (pR n h v0 10 6).bind fun x1 =>
    (fX5_isKept n h x1 v1).bind fun q2 =>
    if q2.1 = 0 then (
      fX10_lapse_47 n q2.2 v0 v1)
    else (
      (pR n q2.2 v0 10 11).bind fun x3 =>
      (fX0_pass n q2.2 x3).bind fun q4 =>
      r16 q4.2 v0 v1 (v2 + 1)))
theorem sX10_lapse_16b {n : Nat} {r16 : ai_H → Nat → Int32 → Int32 → Option (Int32 × ai_H)} {q : Int32 × ai_H} {h : ai_H} {v0 : Nat} {v1 : Int32} {v2 : Int32} {lv : ai_L} (R16 : ∀ (h : ai_H) (v0 : Nat) (v1 : Int32) (v2 : Int32) (lv : ai_L), ai_ld 0 lv = some (.ref v0) → ai_ld 1 lv = some (.int v1) → ai_ld 2 lv = some (.int v2) → r16 h v0 v1 v2 = some q → bi_go 5 tX10_lapse n (fI n q) 16 lv [] h) (l0 : ai_ld 0 lv = some (.ref v0)) (l1 : ai_ld 1 lv = some (.int v1)) (l2 : ai_ld 2 lv = some (.int v2)) (hh : fX10_lapse_16b n r16 h v0 v1 v2 = some q) : bi_go 5 tX10_lapse n (fI n q) 16 lv [] h := by
  unfold fX10_lapse_16b at hh
  refine go_il (pc := 16) rfl l2 ?_
  refine go_pi (pc := 17) rfl ?_
  refine bi_ite hh (fun hc hh => ?_) (fun hc hh => ?_)
  · refine go_cmpgeT (pc := 20) rfl hc ?_
    exact sX10_lapse_47  l0 l1 hh
  · refine go_cmpgeF (pc := 20) rfl hc ?_
    refine go_al (pc := 23) rfl l0 ?_
    obtain ⟨x1, ex1, hh⟩ := bi_bd hh
    refine go_gfR (pc := 24) rfl ex1 ?_
    refine go_il (pc := 27) rfl l1 ?_
    obtain ⟨q2, eq2, hh⟩ := bi_bd hh
    refine go_ivI (pc := 28) rfl rfl (gX5_isKept eq2) (Nat.le_of_ble_eq_true rfl) (bi_up (sX5_isKept eq2) (Nat.le_of_ble_eq_true rfl)) ?_
    refine bi_ite hh (fun hc hh => ?_) (fun hc hh => ?_)
    · refine go_ifeqT (pc := 31) rfl hc ?_
      exact sX10_lapse_47  l0 l1 hh
    · refine go_ifeqF (pc := 31) rfl hc ?_
      refine go_al (pc := 34) rfl l0 ?_
      obtain ⟨x3, ex3, hh⟩ := bi_bd hh
      refine go_gfR (pc := 35) rfl ex3 ?_
      obtain ⟨q4, eq4, hh⟩ := bi_bd hh
      refine go_ivV (pc := 38) rfl rfl (gX0_pass eq4) (Nat.le_of_ble_eq_true rfl) (bi_up (sX0_pass eq4) (Nat.le_of_ble_eq_true rfl)) ?_
      refine go_inc (pc := 41) rfl l2 ?_
      refine go_goto (pc := 44) rfl ?_
      exact R16 _ _ _ _ _ (bi_k1 l0 rfl rfl) (bi_k1 l1 rfl rfl) bi_e1 hh
def fX10_lapse_16 (n : Nat) : Nat → ai_H → Nat → Int32 → Int32 → Option (Int32 × ai_H)
  | 0 => fun _ _ _ _ => none
  | k + 1 => fun h v0 v1 v2 => fX10_lapse_16b n (fX10_lapse_16 n k) h v0 v1 v2
theorem sX10_lapse_16 {n : Nat} {q : Int32 × ai_H} : ∀ (k : Nat) (h : ai_H) (v0 : Nat) (v1 : Int32) (v2 : Int32) (lv : ai_L), ai_ld 0 lv = some (.ref v0) → ai_ld 1 lv = some (.int v1) → ai_ld 2 lv = some (.int v2) → fX10_lapse_16 n k h v0 v1 v2 = some q → bi_go 5 tX10_lapse n (fI n q) 16 lv [] h
  | 0 => fun _ _ _ _ _ _ _ _ hh => by cases hh
  | k + 1 => fun h v0 v1 v2 lv l0 l1 l2 hh => sX10_lapse_16b  (sX10_lapse_16  k) l0 l1 l2 hh
def fX10_lapse (n : Nat) (h : ai_H) (a0 : Nat) (a1 : Int32) : Option (Int32 × ai_H) :=
  (kO n h a0 10).bind fun _ =>
  (fX10_isPath n h a0 a1).bind fun q1 =>
  if ¬ q1.1 = 0 then (
    (fX10_beginAhead n q1.2 a0).bind fun q2 =>
    fX10_lapse_16 n bi_K q2.2 a0 a1 (0 : Int32))
  else (
    some ((-1 : Int32), q1.2))
theorem gX10_lapse {n : Nat} {h : ai_H} {a0 : Nat} {a1 : Int32} {q : Int32 × ai_H} (hh : fX10_lapse n h a0 a1 = some q) : kO n h a0 10 = some () := by
  obtain ⟨_, e, -⟩ := bi_bd hh
  exact e
theorem sX10_lapse {n : Nat} {h : ai_H} {a0 : Nat} {a1 : Int32} {q : Int32 × ai_H} (hh : fX10_lapse n h a0 a1 = some q) : bi_sp 6 114 [.ref a0, .int a1] h n (fI n q) := by
  refine bi_en (D := 5) (T := tX10_lapse) (funext fun pc => rfl) rfl (Nat.le_of_ble_eq_true rfl) ?_
  unfold fX10_lapse at hh
  obtain ⟨_, eO, hh⟩ := bi_bd hh
  refine go_al (pc := 0) rfl (rfl : ai_ld 0 (lv_args 0 [.ref a0, .int a1]) = some (.ref a0)) ?_
  refine go_il (pc := 1) rfl (rfl : ai_ld 1 (lv_args 0 [.ref a0, .int a1]) = some (.int a1)) ?_
  obtain ⟨q1, eq1, hh⟩ := bi_bd hh
  refine go_ivI (pc := 2) rfl rfl (gX10_isPath eq1) (Nat.le_of_ble_eq_true rfl) (bi_up (sX10_isPath eq1) (Nat.le_of_ble_eq_true rfl)) ?_
  refine bi_ite hh (fun hc hh => ?_) (fun hc hh => ?_)
  · refine go_ifneT (pc := 5) rfl hc ?_
    refine go_al (pc := 10) rfl (rfl : ai_ld 0 (lv_args 0 [.ref a0, .int a1]) = some (.ref a0)) ?_
    obtain ⟨q2, eq2, hh⟩ := bi_bd hh
    refine go_ivV (pc := 11) rfl rfl (gX10_beginAhead eq2) (Nat.le_of_ble_eq_true rfl) (bi_up (sX10_beginAhead eq2) (Nat.le_of_ble_eq_true rfl)) ?_
    refine go_pi (pc := 14) rfl ?_
    refine go_is (pc := 15) rfl ?_
    exact sX10_lapse_16  _ _ _ _ _ _ (bi_k1 (rfl : ai_ld 0 (lv_args 0 [.ref a0, .int a1]) = some (.ref a0)) rfl rfl) (bi_k1 (rfl : ai_ld 1 (lv_args 0 [.ref a0, .int a1]) = some (.int a1)) rfl rfl) bi_e1 hh
  · refine go_ifneF (pc := 5) rfl hc ?_
    refine go_pi (pc := 8) rfl ?_
    exact go_ri (pc := 9) rfl hh
def fX10_tried_60b (n : Nat) (r60 : ai_H → Nat → Int32 → Int32 → Option (Int32 × ai_H)) (h : ai_H) (v0 : Nat) (v3 : Int32) (v4 : Int32) : Option (Int32 × ai_H) :=
  if v3 ≤ v4 then (
    (pR n h v0 10 6).bind fun x1 =>
    (pI n h x1 5 4).bind fun x2 =>
    (fJ6_bitCount_0f7a4 n h x2).bind fun q3 =>
    some (q3.1, q3.2))
  else (
    (pR n h v0 10 11).bind fun x4 =>
    (fX0_pass n h x4).bind fun q5 =>
    r60 q5.2 v0 v3 (v4 + 1))
theorem sX10_tried_60b {n : Nat} {r60 : ai_H → Nat → Int32 → Int32 → Option (Int32 × ai_H)} {q : Int32 × ai_H} {h : ai_H} {v0 : Nat} {v3 : Int32} {v4 : Int32} {lv : ai_L} (R60 : ∀ (h : ai_H) (v0 : Nat) (v3 : Int32) (v4 : Int32) (lv : ai_L), ai_ld 0 lv = some (.ref v0) → ai_ld 3 lv = some (.int v3) → ai_ld 4 lv = some (.int v4) → r60 h v0 v3 v4 = some q → bi_go 5 tX10_tried n (fI n q) 60 lv [] h) (l0 : ai_ld 0 lv = some (.ref v0)) (l3 : ai_ld 3 lv = some (.int v3)) (l4 : ai_ld 4 lv = some (.int v4)) (hh : fX10_tried_60b n r60 h v0 v3 v4 = some q) : bi_go 5 tX10_tried n (fI n q) 60 lv [] h := by
  unfold fX10_tried_60b at hh
  refine go_il (pc := 60) rfl l4 ?_
  refine go_il (pc := 62) rfl l3 ?_
  refine bi_ite hh (fun hc hh => ?_) (fun hc hh => ?_)
  · refine go_cmpgeT (pc := 63) rfl hc ?_
    refine go_al (pc := 79) rfl l0 ?_
    obtain ⟨x1, ex1, hh⟩ := bi_bd hh
    refine go_gfR (pc := 80) rfl ex1 ?_
    obtain ⟨x2, ex2, hh⟩ := bi_bd hh
    refine go_gfI (pc := 83) rfl ex2 ?_
    obtain ⟨q3, eq3, hh⟩ := bi_bd hh
    refine go_iSI (pc := 86) rfl (Nat.le_of_ble_eq_true rfl) rfl (Nat.le_of_ble_eq_true rfl) (bi_up (sJ6_bitCount_0f7a4 eq3) (Nat.le_of_ble_eq_true rfl)) ?_
    exact go_ri (pc := 89) rfl hh
  · refine go_cmpgeF (pc := 63) rfl hc ?_
    refine go_al (pc := 66) rfl l0 ?_
    obtain ⟨x4, ex4, hh⟩ := bi_bd hh
    refine go_gfR (pc := 67) rfl ex4 ?_
    obtain ⟨q5, eq5, hh⟩ := bi_bd hh
    refine go_ivV (pc := 70) rfl rfl (gX0_pass eq5) (Nat.le_of_ble_eq_true rfl) (bi_up (sX0_pass eq5) (Nat.le_of_ble_eq_true rfl)) ?_
    refine go_inc (pc := 73) rfl l4 ?_
    refine go_goto (pc := 76) rfl ?_
    exact R60 _ _ _ _ _ (bi_k1 l0 rfl rfl) (bi_k1 l3 rfl rfl) bi_e1 hh
def fX10_tried_60 (n : Nat) : Nat → ai_H → Nat → Int32 → Int32 → Option (Int32 × ai_H)
  | 0 => fun _ _ _ _ => none
  | k + 1 => fun h v0 v3 v4 => fX10_tried_60b n (fX10_tried_60 n k) h v0 v3 v4
theorem sX10_tried_60 {n : Nat} {q : Int32 × ai_H} : ∀ (k : Nat) (h : ai_H) (v0 : Nat) (v3 : Int32) (v4 : Int32) (lv : ai_L), ai_ld 0 lv = some (.ref v0) → ai_ld 3 lv = some (.int v3) → ai_ld 4 lv = some (.int v4) → fX10_tried_60 n k h v0 v3 v4 = some q → bi_go 5 tX10_tried n (fI n q) 60 lv [] h
  | 0 => fun _ _ _ _ _ _ _ _ hh => by cases hh
  | k + 1 => fun h v0 v3 v4 lv l0 l3 l4 hh => sX10_tried_60b  (sX10_tried_60  k) l0 l3 l4 hh
def fX10_tried_44 (n : Nat) (h : ai_H) (v0 : Nat) (v1 : Int32) (v2 : Int32) (v3 : Int32) : Option (Int32 × ai_H) :=
  (fX10_beginAhead n h v0).bind fun q1 =>
  (pR n q1.2 v0 10 11).bind fun x2 =>
  (fX0_tryOtherwise n q1.2 x2 v1 v2).bind fun q3 =>
  fX10_tried_60 n bi_K q3.2 v0 v3 (0 : Int32)
theorem sX10_tried_44 {n : Nat} {q : Int32 × ai_H} {h : ai_H} {v0 : Nat} {v1 : Int32} {v2 : Int32} {v3 : Int32} {lv : ai_L} (l0 : ai_ld 0 lv = some (.ref v0)) (l1 : ai_ld 1 lv = some (.int v1)) (l2 : ai_ld 2 lv = some (.int v2)) (l3 : ai_ld 3 lv = some (.int v3)) (hh : fX10_tried_44 n h v0 v1 v2 v3 = some q) : bi_go 5 tX10_tried n (fI n q) 44 lv [] h := by
  unfold fX10_tried_44 at hh
  refine go_al (pc := 44) rfl l0 ?_
  obtain ⟨q1, eq1, hh⟩ := bi_bd hh
  refine go_ivV (pc := 45) rfl rfl (gX10_beginAhead eq1) (Nat.le_of_ble_eq_true rfl) (bi_up (sX10_beginAhead eq1) (Nat.le_of_ble_eq_true rfl)) ?_
  refine go_al (pc := 48) rfl l0 ?_
  obtain ⟨x2, ex2, hh⟩ := bi_bd hh
  refine go_gfR (pc := 49) rfl ex2 ?_
  refine go_il (pc := 52) rfl l1 ?_
  refine go_il (pc := 53) rfl l2 ?_
  obtain ⟨q3, eq3, hh⟩ := bi_bd hh
  refine go_ivV (pc := 54) rfl rfl (gX0_tryOtherwise eq3) (Nat.le_of_ble_eq_true rfl) (bi_up (sX0_tryOtherwise eq3) (Nat.le_of_ble_eq_true rfl)) ?_
  refine go_pi (pc := 57) rfl ?_
  refine go_is (pc := 58) rfl ?_
  exact sX10_tried_60  _ _ _ _ _ _ (bi_k1 l0 rfl rfl) (bi_k1 l3 rfl rfl) bi_e1 hh
def fX10_tried (n : Nat) (h : ai_H) (a0 : Nat) (a1 : Int32) (a2 : Int32) (a3 : Int32) : Option (Int32 × ai_H) :=
  (kO n h a0 10).bind fun _ =>
  (fX10_isWithin n h (0 : Int32) a1 (4 : Int32)).bind fun q1 =>
  if q1.1 = 0 then (
    some ((-1 : Int32), q1.2))
  else (
    (fX10_isWithin n q1.2 (0 : Int32) a3 (400 : Int32)).bind fun q2 =>
    if ¬ q2.1 = 0 then (
      if ¬ a1 = (2 : Int32) then (
        if a2 = 0 then (
          fX10_tried_44 n q2.2 a0 a1 a2 a3)
        else (
          some ((-1 : Int32), q2.2)))
      else (
        (fX10_isWalker n q2.2 a0 a2).bind fun q3 =>
        if ¬ q3.1 = 0 then (
          fX10_tried_44 n q3.2 a0 a1 a2 a3)
        else (
          some ((-1 : Int32), q3.2))))
    else (
      some ((-1 : Int32), q2.2)))
theorem gX10_tried {n : Nat} {h : ai_H} {a0 : Nat} {a1 : Int32} {a2 : Int32} {a3 : Int32} {q : Int32 × ai_H} (hh : fX10_tried n h a0 a1 a2 a3 = some q) : kO n h a0 10 = some () := by
  obtain ⟨_, e, -⟩ := bi_bd hh
  exact e
theorem sX10_tried {n : Nat} {h : ai_H} {a0 : Nat} {a1 : Int32} {a2 : Int32} {a3 : Int32} {q : Int32 × ai_H} (hh : fX10_tried n h a0 a1 a2 a3 = some q) : bi_sp 6 115 [.ref a0, .int a1, .int a2, .int a3] h n (fI n q) := by
  refine bi_en (D := 5) (T := tX10_tried) (funext fun pc => rfl) rfl (Nat.le_of_ble_eq_true rfl) ?_
  unfold fX10_tried at hh
  obtain ⟨_, eO, hh⟩ := bi_bd hh
  refine go_pi (pc := 0) rfl ?_
  refine go_il (pc := 1) rfl (rfl : ai_ld 1 (lv_args 0 [.ref a0, .int a1, .int a2, .int a3]) = some (.int a1)) ?_
  refine go_pi (pc := 2) rfl ?_
  obtain ⟨q1, eq1, hh⟩ := bi_bd hh
  refine go_iSI (pc := 3) rfl (Nat.le_of_ble_eq_true rfl) rfl (Nat.le_of_ble_eq_true rfl) (bi_up (sX10_isWithin eq1) (Nat.le_of_ble_eq_true rfl)) ?_
  refine bi_ite hh (fun hc hh => ?_) (fun hc hh => ?_)
  · refine go_ifeqT (pc := 6) rfl hc ?_
    refine go_pi (pc := 20) rfl ?_
    exact go_ri (pc := 21) rfl hh
  · refine go_ifeqF (pc := 6) rfl hc ?_
    refine go_pi (pc := 9) rfl ?_
    refine go_il (pc := 10) rfl (rfl : ai_ld 3 (lv_args 0 [.ref a0, .int a1, .int a2, .int a3]) = some (.int a3)) ?_
    refine go_pi (pc := 11) rfl ?_
    obtain ⟨q2, eq2, hh⟩ := bi_bd hh
    refine go_iSI (pc := 14) rfl (Nat.le_of_ble_eq_true rfl) rfl (Nat.le_of_ble_eq_true rfl) (bi_up (sX10_isWithin eq2) (Nat.le_of_ble_eq_true rfl)) ?_
    refine bi_ite hh (fun hc hh => ?_) (fun hc hh => ?_)
    · refine go_ifneT (pc := 17) rfl hc ?_
      refine go_il (pc := 22) rfl (rfl : ai_ld 1 (lv_args 0 [.ref a0, .int a1, .int a2, .int a3]) = some (.int a1)) ?_
      refine go_pi (pc := 23) rfl ?_
      refine bi_ite hh (fun hc hh => ?_) (fun hc hh => ?_)
      · refine go_cmpneT (pc := 24) rfl hc ?_
        refine go_il (pc := 38) rfl (rfl : ai_ld 2 (lv_args 0 [.ref a0, .int a1, .int a2, .int a3]) = some (.int a2)) ?_
        refine bi_ite hh (fun hc hh => ?_) (fun hc hh => ?_)
        · refine go_ifeqT (pc := 39) rfl hc ?_
          exact sX10_tried_44  (rfl : ai_ld 0 (lv_args 0 [.ref a0, .int a1, .int a2, .int a3]) = some (.ref a0)) (rfl : ai_ld 1 (lv_args 0 [.ref a0, .int a1, .int a2, .int a3]) = some (.int a1)) (rfl : ai_ld 2 (lv_args 0 [.ref a0, .int a1, .int a2, .int a3]) = some (.int a2)) (rfl : ai_ld 3 (lv_args 0 [.ref a0, .int a1, .int a2, .int a3]) = some (.int a3)) hh
        · refine go_ifeqF (pc := 39) rfl hc ?_
          refine go_pi (pc := 42) rfl ?_
          exact go_ri (pc := 43) rfl hh
      · refine go_cmpneF (pc := 24) rfl hc ?_
        refine go_al (pc := 27) rfl (rfl : ai_ld 0 (lv_args 0 [.ref a0, .int a1, .int a2, .int a3]) = some (.ref a0)) ?_
        refine go_il (pc := 28) rfl (rfl : ai_ld 2 (lv_args 0 [.ref a0, .int a1, .int a2, .int a3]) = some (.int a2)) ?_
        obtain ⟨q3, eq3, hh⟩ := bi_bd hh
        refine go_ivI (pc := 29) rfl rfl (gX10_isWalker eq3) (Nat.le_of_ble_eq_true rfl) (bi_up (sX10_isWalker eq3) (Nat.le_of_ble_eq_true rfl)) ?_
        refine bi_ite hh (fun hc hh => ?_) (fun hc hh => ?_)
        · refine go_ifneT (pc := 32) rfl hc ?_
          exact sX10_tried_44  (rfl : ai_ld 0 (lv_args 0 [.ref a0, .int a1, .int a2, .int a3]) = some (.ref a0)) (rfl : ai_ld 1 (lv_args 0 [.ref a0, .int a1, .int a2, .int a3]) = some (.int a1)) (rfl : ai_ld 2 (lv_args 0 [.ref a0, .int a1, .int a2, .int a3]) = some (.int a2)) (rfl : ai_ld 3 (lv_args 0 [.ref a0, .int a1, .int a2, .int a3]) = some (.int a3)) hh
        · refine go_ifneF (pc := 32) rfl hc ?_
          refine go_goto (pc := 35) rfl ?_
          refine go_pi (pc := 42) rfl ?_
          exact go_ri (pc := 43) rfl hh
    · refine go_ifneF (pc := 17) rfl hc ?_
      refine go_pi (pc := 20) rfl ?_
      exact go_ri (pc := 21) rfl hh
def fX10_chance_136 (n : Nat) (r45 : ai_H → Nat → Int32 → Int32 → Int32 → Int32 → Int32 → Int32 → Option (Int32 × ai_H)) (h : ai_H) (v0 : Nat) (v2 : Int32) (v3 : Int32) (v4 : Int32) (v5 : Int32) (v6 : Int32) (v7 : Int32) : Option (Int32 × ai_H) :=
  r45 h v0 v2 v3 v4 v5 v6 (v7 + 1)
theorem sX10_chance_136 {n : Nat} {r45 : ai_H → Nat → Int32 → Int32 → Int32 → Int32 → Int32 → Int32 → Option (Int32 × ai_H)} {q : Int32 × ai_H} {h : ai_H} {v0 : Nat} {v2 : Int32} {v3 : Int32} {v4 : Int32} {v5 : Int32} {v6 : Int32} {v7 : Int32} {lv : ai_L} (R45 : ∀ (h : ai_H) (v0 : Nat) (v2 : Int32) (v3 : Int32) (v4 : Int32) (v5 : Int32) (v6 : Int32) (v7 : Int32) (lv : ai_L), ai_ld 0 lv = some (.ref v0) → ai_ld 2 lv = some (.int v2) → ai_ld 3 lv = some (.int v3) → ai_ld 4 lv = some (.int v4) → ai_ld 5 lv = some (.int v5) → ai_ld 6 lv = some (.int v6) → ai_ld 7 lv = some (.int v7) → r45 h v0 v2 v3 v4 v5 v6 v7 = some q → bi_go 5 tX10_chance n (fI n q) 45 lv [] h) (l0 : ai_ld 0 lv = some (.ref v0)) (l2 : ai_ld 2 lv = some (.int v2)) (l3 : ai_ld 3 lv = some (.int v3)) (l4 : ai_ld 4 lv = some (.int v4)) (l5 : ai_ld 5 lv = some (.int v5)) (l6 : ai_ld 6 lv = some (.int v6)) (l7 : ai_ld 7 lv = some (.int v7)) (hh : fX10_chance_136 n r45 h v0 v2 v3 v4 v5 v6 v7 = some q) : bi_go 5 tX10_chance n (fI n q) 136 lv [] h := by
  unfold fX10_chance_136 at hh
  refine go_inc (pc := 136) rfl l7 ?_
  refine go_goto (pc := 139) rfl ?_
  exact R45 _ _ _ _ _ _ _ _ _ (bi_k1 l0 rfl rfl) (bi_k1 l2 rfl rfl) (bi_k1 l3 rfl rfl) (bi_k1 l4 rfl rfl) (bi_k1 l5 rfl rfl) (bi_k1 l6 rfl rfl) bi_e1 hh
def fX10_chance_91b (n : Nat) (r45 : ai_H → Nat → Int32 → Int32 → Int32 → Int32 → Int32 → Int32 → Option (Int32 × ai_H)) (r91 : ai_H → Nat → Int32 → Int32 → Int32 → Int32 → Int32 → Int32 → Option (Int32 × ai_H)) (h : ai_H) (v0 : Nat) (v2 : Int32) (v3 : Int32) (v4 : Int32) (v5 : Int32) (v7 : Int32) (v8 : Int32) : Option (Int32 × ai_H) :=
  if v2 ≤ v8 then (
    (pR n h v0 10 6).bind fun x1 =>
    (pI n h x1 5 1).bind fun x2 =>
    (pR n h v0 10 6).bind fun x3 =>
    (pR n h x3 5 5).bind fun x4 =>
    (gX 1 n h x4 v3).bind fun x5 =>
    if v4 < x5 then (
      fX10_chance_136 n r45 h v0 v2 v3 v4 v5 x2 v7)
    else (
      fX10_chance_136 n r45 h v0 v2 v3 v4 (v5 + 1) x2 v7))
  else (
    (pR n h v0 10 11).bind fun x6 =>
    (fX0_pass n h x6).bind fun q7 =>
    r91 q7.2 v0 v2 v3 v4 v5 v7 (v8 + 1))
theorem sX10_chance_91b {n : Nat} {r45 : ai_H → Nat → Int32 → Int32 → Int32 → Int32 → Int32 → Int32 → Option (Int32 × ai_H)} {r91 : ai_H → Nat → Int32 → Int32 → Int32 → Int32 → Int32 → Int32 → Option (Int32 × ai_H)} {q : Int32 × ai_H} {h : ai_H} {v0 : Nat} {v2 : Int32} {v3 : Int32} {v4 : Int32} {v5 : Int32} {v7 : Int32} {v8 : Int32} {lv : ai_L} (R45 : ∀ (h : ai_H) (v0 : Nat) (v2 : Int32) (v3 : Int32) (v4 : Int32) (v5 : Int32) (v6 : Int32) (v7 : Int32) (lv : ai_L), ai_ld 0 lv = some (.ref v0) → ai_ld 2 lv = some (.int v2) → ai_ld 3 lv = some (.int v3) → ai_ld 4 lv = some (.int v4) → ai_ld 5 lv = some (.int v5) → ai_ld 6 lv = some (.int v6) → ai_ld 7 lv = some (.int v7) → r45 h v0 v2 v3 v4 v5 v6 v7 = some q → bi_go 5 tX10_chance n (fI n q) 45 lv [] h) (R91 : ∀ (h : ai_H) (v0 : Nat) (v2 : Int32) (v3 : Int32) (v4 : Int32) (v5 : Int32) (v7 : Int32) (v8 : Int32) (lv : ai_L), ai_ld 0 lv = some (.ref v0) → ai_ld 2 lv = some (.int v2) → ai_ld 3 lv = some (.int v3) → ai_ld 4 lv = some (.int v4) → ai_ld 5 lv = some (.int v5) → ai_ld 7 lv = some (.int v7) → ai_ld 8 lv = some (.int v8) → r91 h v0 v2 v3 v4 v5 v7 v8 = some q → bi_go 5 tX10_chance n (fI n q) 91 lv [] h) (l0 : ai_ld 0 lv = some (.ref v0)) (l2 : ai_ld 2 lv = some (.int v2)) (l3 : ai_ld 3 lv = some (.int v3)) (l4 : ai_ld 4 lv = some (.int v4)) (l5 : ai_ld 5 lv = some (.int v5)) (l7 : ai_ld 7 lv = some (.int v7)) (l8 : ai_ld 8 lv = some (.int v8)) (hh : fX10_chance_91b n r45 r91 h v0 v2 v3 v4 v5 v7 v8 = some q) : bi_go 5 tX10_chance n (fI n q) 91 lv [] h := by
  unfold fX10_chance_91b at hh
  refine go_il (pc := 91) rfl l8 ?_
  refine go_il (pc := 93) rfl l2 ?_
  refine bi_ite hh (fun hc hh => ?_) (fun hc hh => ?_)
  · refine go_cmpgeT (pc := 94) rfl hc ?_
    refine go_al (pc := 110) rfl l0 ?_
    obtain ⟨x1, ex1, hh⟩ := bi_bd hh
    refine go_gfR (pc := 111) rfl ex1 ?_
    obtain ⟨x2, ex2, hh⟩ := bi_bd hh
    refine go_gfI (pc := 114) rfl ex2 ?_
    refine go_is (pc := 117) rfl ?_
    refine go_al (pc := 119) rfl (bi_k1 l0 rfl rfl) ?_
    obtain ⟨x3, ex3, hh⟩ := bi_bd hh
    refine go_gfR (pc := 120) rfl ex3 ?_
    obtain ⟨x4, ex4, hh⟩ := bi_bd hh
    refine go_gfR (pc := 123) rfl ex4 ?_
    refine go_il (pc := 126) rfl (bi_k1 l3 rfl rfl) ?_
    obtain ⟨x5, ex5, hh⟩ := bi_bd hh
    refine go_iald (pc := 127) rfl ex5 ?_
    refine go_il (pc := 128) rfl (bi_k1 l4 rfl rfl) ?_
    refine bi_ite hh (fun hc hh => ?_) (fun hc hh => ?_)
    · refine go_cmpgtT (pc := 130) rfl hc ?_
      exact sX10_chance_136 R45 (bi_k1 l0 rfl rfl) (bi_k1 l2 rfl rfl) (bi_k1 l3 rfl rfl) (bi_k1 l4 rfl rfl) (bi_k1 l5 rfl rfl) bi_e1 (bi_k1 l7 rfl rfl) hh
    · refine go_cmpgtF (pc := 130) rfl hc ?_
      refine go_inc (pc := 133) rfl (bi_k1 l5 rfl rfl) ?_
      exact sX10_chance_136 R45 (bi_k1 (bi_k1 l0 rfl rfl) rfl rfl) (bi_k1 (bi_k1 l2 rfl rfl) rfl rfl) (bi_k1 (bi_k1 l3 rfl rfl) rfl rfl) (bi_k1 (bi_k1 l4 rfl rfl) rfl rfl) bi_e1 (bi_k1 bi_e1 rfl rfl) (bi_k1 (bi_k1 l7 rfl rfl) rfl rfl) hh
  · refine go_cmpgeF (pc := 94) rfl hc ?_
    refine go_al (pc := 97) rfl l0 ?_
    obtain ⟨x6, ex6, hh⟩ := bi_bd hh
    refine go_gfR (pc := 98) rfl ex6 ?_
    obtain ⟨q7, eq7, hh⟩ := bi_bd hh
    refine go_ivV (pc := 101) rfl rfl (gX0_pass eq7) (Nat.le_of_ble_eq_true rfl) (bi_up (sX0_pass eq7) (Nat.le_of_ble_eq_true rfl)) ?_
    refine go_inc (pc := 104) rfl l8 ?_
    refine go_goto (pc := 107) rfl ?_
    exact R91 _ _ _ _ _ _ _ _ _ (bi_k1 l0 rfl rfl) (bi_k1 l2 rfl rfl) (bi_k1 l3 rfl rfl) (bi_k1 l4 rfl rfl) (bi_k1 l5 rfl rfl) (bi_k1 l7 rfl rfl) bi_e1 hh
def fX10_chance_91 (n : Nat) (r45 : ai_H → Nat → Int32 → Int32 → Int32 → Int32 → Int32 → Int32 → Option (Int32 × ai_H)) : Nat → ai_H → Nat → Int32 → Int32 → Int32 → Int32 → Int32 → Int32 → Option (Int32 × ai_H)
  | 0 => fun _ _ _ _ _ _ _ _ => none
  | k + 1 => fun h v0 v2 v3 v4 v5 v7 v8 => fX10_chance_91b n r45 (fX10_chance_91 n r45 k) h v0 v2 v3 v4 v5 v7 v8
theorem sX10_chance_91 {n : Nat} {r45 : ai_H → Nat → Int32 → Int32 → Int32 → Int32 → Int32 → Int32 → Option (Int32 × ai_H)} {q : Int32 × ai_H} (R45 : ∀ (h : ai_H) (v0 : Nat) (v2 : Int32) (v3 : Int32) (v4 : Int32) (v5 : Int32) (v6 : Int32) (v7 : Int32) (lv : ai_L), ai_ld 0 lv = some (.ref v0) → ai_ld 2 lv = some (.int v2) → ai_ld 3 lv = some (.int v3) → ai_ld 4 lv = some (.int v4) → ai_ld 5 lv = some (.int v5) → ai_ld 6 lv = some (.int v6) → ai_ld 7 lv = some (.int v7) → r45 h v0 v2 v3 v4 v5 v6 v7 = some q → bi_go 5 tX10_chance n (fI n q) 45 lv [] h) : ∀ (k : Nat) (h : ai_H) (v0 : Nat) (v2 : Int32) (v3 : Int32) (v4 : Int32) (v5 : Int32) (v7 : Int32) (v8 : Int32) (lv : ai_L), ai_ld 0 lv = some (.ref v0) → ai_ld 2 lv = some (.int v2) → ai_ld 3 lv = some (.int v3) → ai_ld 4 lv = some (.int v4) → ai_ld 5 lv = some (.int v5) → ai_ld 7 lv = some (.int v7) → ai_ld 8 lv = some (.int v8) → fX10_chance_91 n r45 k h v0 v2 v3 v4 v5 v7 v8 = some q → bi_go 5 tX10_chance n (fI n q) 91 lv [] h
  | 0 => fun _ _ _ _ _ _ _ _ _ _ _ _ _ _ _ _ hh => by cases hh
  | k + 1 => fun h v0 v2 v3 v4 v5 v7 v8 lv l0 l2 l3 l4 l5 l7 l8 hh => sX10_chance_91b R45 (sX10_chance_91 R45 k) l0 l2 l3 l4 l5 l7 l8 hh
def fX10_chance_45b (n : Nat) (r45 : ai_H → Nat → Int32 → Int32 → Int32 → Int32 → Int32 → Int32 → Option (Int32 × ai_H)) (h : ai_H) (v0 : Nat) (v2 : Int32) (v3 : Int32) (v4 : Int32) (v5 : Int32) (v6 : Int32) (v7 : Int32) : Option (Int32 × ai_H) :=
  if (10 : Int32) ≤ v7 then (
    some (v5, h))
  else (
    (pR n h v0 10 6).bind fun x1 =>
    (pR n h v0 10 5).bind fun x2 =>
    (fX5_copyFrom n h x1 x2).bind fun q3 =>
    (pR n q3.2 v0 10 6).bind fun x4 =>
    (sF n q3.2 x4 5 1 (.int) (.int v6)).bind fun h5 =>
    (pR n h5 v0 10 11).bind fun x6 =>
    (pR n h5 v0 10 3).bind fun x7 =>
    (pR n h5 v0 10 6).bind fun x8 =>
    (fX0_begin n h5 x6 x7 x8 (0 : Int32)).bind fun q9 =>
    fX10_chance_91 n r45 bi_K q9.2 v0 v2 v3 v4 v5 v7 (0 : Int32))
theorem sX10_chance_45b {n : Nat} {r45 : ai_H → Nat → Int32 → Int32 → Int32 → Int32 → Int32 → Int32 → Option (Int32 × ai_H)} {q : Int32 × ai_H} {h : ai_H} {v0 : Nat} {v2 : Int32} {v3 : Int32} {v4 : Int32} {v5 : Int32} {v6 : Int32} {v7 : Int32} {lv : ai_L} (R45 : ∀ (h : ai_H) (v0 : Nat) (v2 : Int32) (v3 : Int32) (v4 : Int32) (v5 : Int32) (v6 : Int32) (v7 : Int32) (lv : ai_L), ai_ld 0 lv = some (.ref v0) → ai_ld 2 lv = some (.int v2) → ai_ld 3 lv = some (.int v3) → ai_ld 4 lv = some (.int v4) → ai_ld 5 lv = some (.int v5) → ai_ld 6 lv = some (.int v6) → ai_ld 7 lv = some (.int v7) → r45 h v0 v2 v3 v4 v5 v6 v7 = some q → bi_go 5 tX10_chance n (fI n q) 45 lv [] h) (l0 : ai_ld 0 lv = some (.ref v0)) (l2 : ai_ld 2 lv = some (.int v2)) (l3 : ai_ld 3 lv = some (.int v3)) (l4 : ai_ld 4 lv = some (.int v4)) (l5 : ai_ld 5 lv = some (.int v5)) (l6 : ai_ld 6 lv = some (.int v6)) (l7 : ai_ld 7 lv = some (.int v7)) (hh : fX10_chance_45b n r45 h v0 v2 v3 v4 v5 v6 v7 = some q) : bi_go 5 tX10_chance n (fI n q) 45 lv [] h := by
  unfold fX10_chance_45b at hh
  refine go_il (pc := 45) rfl l7 ?_
  refine go_pi (pc := 47) rfl ?_
  refine bi_ite hh (fun hc hh => ?_) (fun hc hh => ?_)
  · refine go_cmpgeT (pc := 49) rfl hc ?_
    refine go_il (pc := 142) rfl l5 ?_
    exact go_ri (pc := 144) rfl hh
  · refine go_cmpgeF (pc := 49) rfl hc ?_
    refine go_al (pc := 52) rfl l0 ?_
    obtain ⟨x1, ex1, hh⟩ := bi_bd hh
    refine go_gfR (pc := 53) rfl ex1 ?_
    refine go_al (pc := 56) rfl l0 ?_
    obtain ⟨x2, ex2, hh⟩ := bi_bd hh
    refine go_gfR (pc := 57) rfl ex2 ?_
    obtain ⟨q3, eq3, hh⟩ := bi_bd hh
    refine go_ivV (pc := 60) rfl rfl (gX5_copyFrom eq3) (Nat.le_of_ble_eq_true rfl) (bi_up (sX5_copyFrom eq3) (Nat.le_of_ble_eq_true rfl)) ?_
    refine go_al (pc := 63) rfl l0 ?_
    obtain ⟨x4, ex4, hh⟩ := bi_bd hh
    refine go_gfR (pc := 64) rfl ex4 ?_
    refine go_il (pc := 67) rfl l6 ?_
    obtain ⟨h5, eh5, hh⟩ := bi_bd hh
    refine go_pf (pc := 69) rfl eh5 ?_
    refine go_al (pc := 72) rfl l0 ?_
    obtain ⟨x6, ex6, hh⟩ := bi_bd hh
    refine go_gfR (pc := 73) rfl ex6 ?_
    refine go_al (pc := 76) rfl l0 ?_
    obtain ⟨x7, ex7, hh⟩ := bi_bd hh
    refine go_gfR (pc := 77) rfl ex7 ?_
    refine go_al (pc := 80) rfl l0 ?_
    obtain ⟨x8, ex8, hh⟩ := bi_bd hh
    refine go_gfR (pc := 81) rfl ex8 ?_
    refine go_pi (pc := 84) rfl ?_
    obtain ⟨q9, eq9, hh⟩ := bi_bd hh
    refine go_ivV (pc := 85) rfl rfl (gX0_begin eq9) (Nat.le_of_ble_eq_true rfl) (bi_up (sX0_begin eq9) (Nat.le_of_ble_eq_true rfl)) ?_
    refine go_pi (pc := 88) rfl ?_
    refine go_is (pc := 89) rfl ?_
    exact sX10_chance_91 R45 _ _ _ _ _ _ _ _ _ _ (bi_k1 l0 rfl rfl) (bi_k1 l2 rfl rfl) (bi_k1 l3 rfl rfl) (bi_k1 l4 rfl rfl) (bi_k1 l5 rfl rfl) (bi_k1 l7 rfl rfl) bi_e1 hh
def fX10_chance_45 (n : Nat) : Nat → ai_H → Nat → Int32 → Int32 → Int32 → Int32 → Int32 → Int32 → Option (Int32 × ai_H)
  | 0 => fun _ _ _ _ _ _ _ _ => none
  | k + 1 => fun h v0 v2 v3 v4 v5 v6 v7 => fX10_chance_45b n (fX10_chance_45 n k) h v0 v2 v3 v4 v5 v6 v7
theorem sX10_chance_45 {n : Nat} {q : Int32 × ai_H} : ∀ (k : Nat) (h : ai_H) (v0 : Nat) (v2 : Int32) (v3 : Int32) (v4 : Int32) (v5 : Int32) (v6 : Int32) (v7 : Int32) (lv : ai_L), ai_ld 0 lv = some (.ref v0) → ai_ld 2 lv = some (.int v2) → ai_ld 3 lv = some (.int v3) → ai_ld 4 lv = some (.int v4) → ai_ld 5 lv = some (.int v5) → ai_ld 6 lv = some (.int v6) → ai_ld 7 lv = some (.int v7) → fX10_chance_45 n k h v0 v2 v3 v4 v5 v6 v7 = some q → bi_go 5 tX10_chance n (fI n q) 45 lv [] h
  | 0 => fun _ _ _ _ _ _ _ _ _ _ _ _ _ _ _ _ hh => by cases hh
  | k + 1 => fun h v0 v2 v3 v4 v5 v6 v7 lv l0 l2 l3 l4 l5 l6 l7 hh => sX10_chance_45b  (sX10_chance_45  k) l0 l2 l3 l4 l5 l6 l7 hh
def fX10_chance (n : Nat) (h : ai_H) (a0 : Nat) (a1 : Int32) (a2 : Int32) (a3 : Int32) (a4 : Int32) : Option (Int32 × ai_H) :=
  (kO n h a0 10).bind fun _ =>
  if a1 < 0 then (
    some ((-1 : Int32), h))
  else (
    (fX10_isWithin n h (1 : Int32) a2 (99 : Int32)).bind fun q1 =>
    if q1.1 = 0 then (
      some ((-1 : Int32), q1.2))
    else (
      (fX10_isPath n q1.2 a0 a3).bind fun q2 =>
      if q2.1 = 0 then (
        some ((-1 : Int32), q2.2))
      else (
        (fX10_isWithin n q2.2 (0 : Int32) a4 (999 : Int32)).bind fun q3 =>
        if ¬ q3.1 = 0 then (
          fX10_chance_45 n bi_K q3.2 a0 a2 a3 a4 (0 : Int32) a1 (0 : Int32))
        else (
          some ((-1 : Int32), q3.2)))))
theorem gX10_chance {n : Nat} {h : ai_H} {a0 : Nat} {a1 : Int32} {a2 : Int32} {a3 : Int32} {a4 : Int32} {q : Int32 × ai_H} (hh : fX10_chance n h a0 a1 a2 a3 a4 = some q) : kO n h a0 10 = some () := by
  obtain ⟨_, e, -⟩ := bi_bd hh
  exact e
theorem sX10_chance {n : Nat} {h : ai_H} {a0 : Nat} {a1 : Int32} {a2 : Int32} {a3 : Int32} {a4 : Int32} {q : Int32 × ai_H} (hh : fX10_chance n h a0 a1 a2 a3 a4 = some q) : bi_sp 6 116 [.ref a0, .int a1, .int a2, .int a3, .int a4] h n (fI n q) := by
  refine bi_en (D := 5) (T := tX10_chance) (funext fun pc => rfl) rfl (Nat.le_of_ble_eq_true rfl) ?_
  unfold fX10_chance at hh
  obtain ⟨_, eO, hh⟩ := bi_bd hh
  refine go_il (pc := 0) rfl (rfl : ai_ld 1 (lv_args 0 [.ref a0, .int a1, .int a2, .int a3, .int a4]) = some (.int a1)) ?_
  refine bi_ite hh (fun hc hh => ?_) (fun hc hh => ?_)
  · refine go_ifltT (pc := 1) rfl hc ?_
    refine go_pi (pc := 34) rfl ?_
    exact go_ri (pc := 35) rfl hh
  · refine go_ifltF (pc := 1) rfl hc ?_
    refine go_pi (pc := 4) rfl ?_
    refine go_il (pc := 5) rfl (rfl : ai_ld 2 (lv_args 0 [.ref a0, .int a1, .int a2, .int a3, .int a4]) = some (.int a2)) ?_
    refine go_pi (pc := 6) rfl ?_
    obtain ⟨q1, eq1, hh⟩ := bi_bd hh
    refine go_iSI (pc := 8) rfl (Nat.le_of_ble_eq_true rfl) rfl (Nat.le_of_ble_eq_true rfl) (bi_up (sX10_isWithin eq1) (Nat.le_of_ble_eq_true rfl)) ?_
    refine bi_ite hh (fun hc hh => ?_) (fun hc hh => ?_)
    · refine go_ifeqT (pc := 11) rfl hc ?_
      refine go_pi (pc := 34) rfl ?_
      exact go_ri (pc := 35) rfl hh
    · refine go_ifeqF (pc := 11) rfl hc ?_
      refine go_al (pc := 14) rfl (rfl : ai_ld 0 (lv_args 0 [.ref a0, .int a1, .int a2, .int a3, .int a4]) = some (.ref a0)) ?_
      refine go_il (pc := 15) rfl (rfl : ai_ld 3 (lv_args 0 [.ref a0, .int a1, .int a2, .int a3, .int a4]) = some (.int a3)) ?_
      obtain ⟨q2, eq2, hh⟩ := bi_bd hh
      refine go_ivI (pc := 16) rfl rfl (gX10_isPath eq2) (Nat.le_of_ble_eq_true rfl) (bi_up (sX10_isPath eq2) (Nat.le_of_ble_eq_true rfl)) ?_
      refine bi_ite hh (fun hc hh => ?_) (fun hc hh => ?_)
      · refine go_ifeqT (pc := 19) rfl hc ?_
        refine go_pi (pc := 34) rfl ?_
        exact go_ri (pc := 35) rfl hh
      · refine go_ifeqF (pc := 19) rfl hc ?_
        refine go_pi (pc := 22) rfl ?_
        refine go_il (pc := 23) rfl (rfl : ai_ld 4 (lv_args 0 [.ref a0, .int a1, .int a2, .int a3, .int a4]) = some (.int a4)) ?_
        refine go_pi (pc := 25) rfl ?_
        obtain ⟨q3, eq3, hh⟩ := bi_bd hh
        refine go_iSI (pc := 28) rfl (Nat.le_of_ble_eq_true rfl) rfl (Nat.le_of_ble_eq_true rfl) (bi_up (sX10_isWithin eq3) (Nat.le_of_ble_eq_true rfl)) ?_
        refine bi_ite hh (fun hc hh => ?_) (fun hc hh => ?_)
        · refine go_ifneT (pc := 31) rfl hc ?_
          refine go_pi (pc := 36) rfl ?_
          refine go_is (pc := 37) rfl ?_
          refine go_il (pc := 39) rfl (bi_k1 (rfl : ai_ld 1 (lv_args 0 [.ref a0, .int a1, .int a2, .int a3, .int a4]) = some (.int a1)) rfl rfl) ?_
          refine go_is (pc := 40) rfl ?_
          refine go_pi (pc := 42) rfl ?_
          refine go_is (pc := 43) rfl ?_
          exact sX10_chance_45  _ _ _ _ _ _ _ _ _ _ (bi_k1 (bi_k1 (bi_k1 (rfl : ai_ld 0 (lv_args 0 [.ref a0, .int a1, .int a2, .int a3, .int a4]) = some (.ref a0)) rfl rfl) rfl rfl) rfl rfl) (bi_k1 (bi_k1 (bi_k1 (rfl : ai_ld 2 (lv_args 0 [.ref a0, .int a1, .int a2, .int a3, .int a4]) = some (.int a2)) rfl rfl) rfl rfl) rfl rfl) (bi_k1 (bi_k1 (bi_k1 (rfl : ai_ld 3 (lv_args 0 [.ref a0, .int a1, .int a2, .int a3, .int a4]) = some (.int a3)) rfl rfl) rfl rfl) rfl rfl) (bi_k1 (bi_k1 (bi_k1 (rfl : ai_ld 4 (lv_args 0 [.ref a0, .int a1, .int a2, .int a3, .int a4]) = some (.int a4)) rfl rfl) rfl rfl) rfl rfl) (bi_k1 (bi_k1 bi_e1 rfl rfl) rfl rfl) (bi_k1 bi_e1 rfl rfl) bi_e1 hh
        · refine go_ifneF (pc := 31) rfl hc ?_
          refine go_pi (pc := 34) rfl ?_
          exact go_ri (pc := 35) rfl hh
def fX10_reach (n : Nat) (h : ai_H) (a0 : Nat) (a1 : Int32) : Option (Int32 × ai_H) :=
  (kO n h a0 10).bind fun _ =>
  (fX10_isWalker n h a0 a1).bind fun q1 =>
  if ¬ q1.1 = 0 then (
    (pR n q1.2 a0 10 3).bind fun x2 =>
    (pR n q1.2 a0 10 5).bind fun x3 =>
    (pR n q1.2 x3 5 7).bind fun x4 =>
    (gX 1 n q1.2 x4 a1).bind fun x5 =>
    (pR n q1.2 a0 10 3).bind fun x6 =>
    (pR n q1.2 a0 10 5).bind fun x7 =>
    (fX9_openFor n q1.2 x6 x7 a1).bind fun q8 =>
    (fX9_spread n q8.2 x2 x5 q8.1).bind fun q9 =>
    some (q9.1, q9.2))
  else (
    some ((-1 : Int32), q1.2))
theorem gX10_reach {n : Nat} {h : ai_H} {a0 : Nat} {a1 : Int32} {q : Int32 × ai_H} (hh : fX10_reach n h a0 a1 = some q) : kO n h a0 10 = some () := by
  obtain ⟨_, e, -⟩ := bi_bd hh
  exact e
theorem sX10_reach {n : Nat} {h : ai_H} {a0 : Nat} {a1 : Int32} {q : Int32 × ai_H} (hh : fX10_reach n h a0 a1 = some q) : bi_sp 4 117 [.ref a0, .int a1] h n (fI n q) := by
  refine bi_en (D := 3) (T := tX10_reach) (funext fun pc => rfl) rfl (Nat.le_of_ble_eq_true rfl) ?_
  unfold fX10_reach at hh
  obtain ⟨_, eO, hh⟩ := bi_bd hh
  refine go_al (pc := 0) rfl (rfl : ai_ld 0 (lv_args 0 [.ref a0, .int a1]) = some (.ref a0)) ?_
  refine go_il (pc := 1) rfl (rfl : ai_ld 1 (lv_args 0 [.ref a0, .int a1]) = some (.int a1)) ?_
  obtain ⟨q1, eq1, hh⟩ := bi_bd hh
  refine go_ivI (pc := 2) rfl rfl (gX10_isWalker eq1) (Nat.le_of_ble_eq_true rfl) (bi_up (sX10_isWalker eq1) (Nat.le_of_ble_eq_true rfl)) ?_
  refine bi_ite hh (fun hc hh => ?_) (fun hc hh => ?_)
  · refine go_ifneT (pc := 5) rfl hc ?_
    refine go_al (pc := 10) rfl (rfl : ai_ld 0 (lv_args 0 [.ref a0, .int a1]) = some (.ref a0)) ?_
    obtain ⟨x2, ex2, hh⟩ := bi_bd hh
    refine go_gfR (pc := 11) rfl ex2 ?_
    refine go_al (pc := 14) rfl (rfl : ai_ld 0 (lv_args 0 [.ref a0, .int a1]) = some (.ref a0)) ?_
    obtain ⟨x3, ex3, hh⟩ := bi_bd hh
    refine go_gfR (pc := 15) rfl ex3 ?_
    obtain ⟨x4, ex4, hh⟩ := bi_bd hh
    refine go_gfR (pc := 18) rfl ex4 ?_
    refine go_il (pc := 21) rfl (rfl : ai_ld 1 (lv_args 0 [.ref a0, .int a1]) = some (.int a1)) ?_
    obtain ⟨x5, ex5, hh⟩ := bi_bd hh
    refine go_iald (pc := 22) rfl ex5 ?_
    refine go_al (pc := 23) rfl (rfl : ai_ld 0 (lv_args 0 [.ref a0, .int a1]) = some (.ref a0)) ?_
    obtain ⟨x6, ex6, hh⟩ := bi_bd hh
    refine go_gfR (pc := 24) rfl ex6 ?_
    refine go_al (pc := 27) rfl (rfl : ai_ld 0 (lv_args 0 [.ref a0, .int a1]) = some (.ref a0)) ?_
    obtain ⟨x7, ex7, hh⟩ := bi_bd hh
    refine go_gfR (pc := 28) rfl ex7 ?_
    refine go_il (pc := 31) rfl (rfl : ai_ld 1 (lv_args 0 [.ref a0, .int a1]) = some (.int a1)) ?_
    obtain ⟨q8, eq8, hh⟩ := bi_bd hh
    refine go_iSI (pc := 32) rfl (Nat.le_of_ble_eq_true rfl) rfl (Nat.le_of_ble_eq_true rfl) (bi_up (sX9_openFor eq8) (Nat.le_of_ble_eq_true rfl)) ?_
    obtain ⟨q9, eq9, hh⟩ := bi_bd hh
    refine go_iSI (pc := 35) rfl (Nat.le_of_ble_eq_true rfl) rfl (Nat.le_of_ble_eq_true rfl) (bi_up (sX9_spread eq9) (Nat.le_of_ble_eq_true rfl)) ?_
    exact go_ri (pc := 38) rfl hh
  · refine go_ifneF (pc := 5) rfl hc ?_
    refine go_pi (pc := 8) rfl ?_
    exact go_ri (pc := 9) rfl hh
def fX10_way (n : Nat) (h : ai_H) (a0 : Nat) (a1 : Int32) (a2 : Int32) : Option (Int32 × ai_H) :=
  (kO n h a0 10).bind fun _ =>
  (fX10_isWalker n h a0 a1).bind fun q1 =>
  if q1.1 = 0 then (
    some ((-1 : Int32), q1.2))
  else (
    (fX10_isPlace n q1.2 a0 a2).bind fun q2 =>
    if ¬ q2.1 = 0 then (
      (pR n q2.2 a0 10 13).bind fun x3 =>
      (pR n q2.2 a0 10 3).bind fun x4 =>
      (pR n q2.2 a0 10 5).bind fun x5 =>
      (fX9_leastLength n q2.2 x3 x4 x5 a1 a2).bind fun q6 =>
      some (q6.1, q6.2))
    else (
      some ((-1 : Int32), q2.2)))
theorem gX10_way {n : Nat} {h : ai_H} {a0 : Nat} {a1 : Int32} {a2 : Int32} {q : Int32 × ai_H} (hh : fX10_way n h a0 a1 a2 = some q) : kO n h a0 10 = some () := by
  obtain ⟨_, e, -⟩ := bi_bd hh
  exact e
theorem sX10_way {n : Nat} {h : ai_H} {a0 : Nat} {a1 : Int32} {a2 : Int32} {q : Int32 × ai_H} (hh : fX10_way n h a0 a1 a2 = some q) : bi_sp 4 118 [.ref a0, .int a1, .int a2] h n (fI n q) := by
  refine bi_en (D := 3) (T := tX10_way) (funext fun pc => rfl) rfl (Nat.le_of_ble_eq_true rfl) ?_
  unfold fX10_way at hh
  obtain ⟨_, eO, hh⟩ := bi_bd hh
  refine go_al (pc := 0) rfl (rfl : ai_ld 0 (lv_args 0 [.ref a0, .int a1, .int a2]) = some (.ref a0)) ?_
  refine go_il (pc := 1) rfl (rfl : ai_ld 1 (lv_args 0 [.ref a0, .int a1, .int a2]) = some (.int a1)) ?_
  obtain ⟨q1, eq1, hh⟩ := bi_bd hh
  refine go_ivI (pc := 2) rfl rfl (gX10_isWalker eq1) (Nat.le_of_ble_eq_true rfl) (bi_up (sX10_isWalker eq1) (Nat.le_of_ble_eq_true rfl)) ?_
  refine bi_ite hh (fun hc hh => ?_) (fun hc hh => ?_)
  · refine go_ifeqT (pc := 5) rfl hc ?_
    refine go_pi (pc := 16) rfl ?_
    exact go_ri (pc := 17) rfl hh
  · refine go_ifeqF (pc := 5) rfl hc ?_
    refine go_al (pc := 8) rfl (rfl : ai_ld 0 (lv_args 0 [.ref a0, .int a1, .int a2]) = some (.ref a0)) ?_
    refine go_il (pc := 9) rfl (rfl : ai_ld 2 (lv_args 0 [.ref a0, .int a1, .int a2]) = some (.int a2)) ?_
    obtain ⟨q2, eq2, hh⟩ := bi_bd hh
    refine go_ivI (pc := 10) rfl rfl (gX10_isPlace eq2) (Nat.le_of_ble_eq_true rfl) (bi_up (sX10_isPlace eq2) (Nat.le_of_ble_eq_true rfl)) ?_
    refine bi_ite hh (fun hc hh => ?_) (fun hc hh => ?_)
    · refine go_ifneT (pc := 13) rfl hc ?_
      refine go_al (pc := 18) rfl (rfl : ai_ld 0 (lv_args 0 [.ref a0, .int a1, .int a2]) = some (.ref a0)) ?_
      obtain ⟨x3, ex3, hh⟩ := bi_bd hh
      refine go_gfR (pc := 19) rfl ex3 ?_
      refine go_al (pc := 22) rfl (rfl : ai_ld 0 (lv_args 0 [.ref a0, .int a1, .int a2]) = some (.ref a0)) ?_
      obtain ⟨x4, ex4, hh⟩ := bi_bd hh
      refine go_gfR (pc := 23) rfl ex4 ?_
      refine go_al (pc := 26) rfl (rfl : ai_ld 0 (lv_args 0 [.ref a0, .int a1, .int a2]) = some (.ref a0)) ?_
      obtain ⟨x5, ex5, hh⟩ := bi_bd hh
      refine go_gfR (pc := 27) rfl ex5 ?_
      refine go_il (pc := 30) rfl (rfl : ai_ld 1 (lv_args 0 [.ref a0, .int a1, .int a2]) = some (.int a1)) ?_
      refine go_il (pc := 31) rfl (rfl : ai_ld 2 (lv_args 0 [.ref a0, .int a1, .int a2]) = some (.int a2)) ?_
      obtain ⟨q6, eq6, hh⟩ := bi_bd hh
      refine go_ivI (pc := 32) rfl rfl (gX9_leastLength eq6) (Nat.le_of_ble_eq_true rfl) (bi_up (sX9_leastLength eq6) (Nat.le_of_ble_eq_true rfl)) ?_
      exact go_ri (pc := 35) rfl hh
    · refine go_ifneF (pc := 13) rfl hc ?_
      refine go_pi (pc := 16) rfl ?_
      exact go_ri (pc := 17) rfl hh
def fX10_round_63 (n : Nat) (h : ai_H) (s0 : Int32) (s1 : Int32) (s2 : Int32) (s3 : Nat) (s4 : Nat) (s5 : Nat) : Option (Int32 × ai_H) :=
  (fX9_leastRound n h s5 s4 s3 s2 s1 s0).bind fun q1 =>
  some (q1.1, q1.2)
theorem sX10_round_63 {n : Nat} {q : Int32 × ai_H} {h : ai_H} {s0 : Int32} {s1 : Int32} {s2 : Int32} {s3 : Nat} {s4 : Nat} {s5 : Nat} {lv : ai_L} (hh : fX10_round_63 n h s0 s1 s2 s3 s4 s5 = some q) : bi_go 3 tX10_round n (fI n q) 63 lv [.int s0, .int s1, .int s2, .ref s3, .ref s4, .ref s5] h := by
  unfold fX10_round_63 at hh
  obtain ⟨q1, eq1, hh⟩ := bi_bd hh
  refine go_ivI (pc := 63) rfl rfl (gX9_leastRound eq1) (Nat.le_of_ble_eq_true rfl) (bi_up (sX9_leastRound eq1) (Nat.le_of_ble_eq_true rfl)) ?_
  exact go_ri (pc := 66) rfl hh
def fX10_round (n : Nat) (h : ai_H) (a0 : Nat) (a1 : Int32) (a2 : Int32) (a3 : Int32) : Option (Int32 × ai_H) :=
  (kO n h a0 10).bind fun _ =>
  (fX10_isWalker n h a0 a1).bind fun q1 =>
  if q1.1 = 0 then (
    some ((-1 : Int32), q1.2))
  else (
    if a2 < 0 then (
      some ((-1 : Int32), q1.2))
    else (
      (pR n q1.2 a0 10 3).bind fun x2 =>
      (pR n q1.2 x2 8 1).bind fun x3 =>
      (pI n q1.2 x3 6 4).bind fun x4 =>
      if ((1 : Int32) <<< (x4 &&& 31)) ≤ a2 then (
        some ((-1 : Int32), q1.2))
      else (
        (fX10_isWithin n q1.2 (0 : Int32) a3 (1 : Int32)).bind fun q5 =>
        if ¬ q5.1 = 0 then (
          (pR n q5.2 a0 10 13).bind fun x6 =>
          (pR n q5.2 a0 10 3).bind fun x7 =>
          (pR n q5.2 a0 10 5).bind fun x8 =>
          if ¬ a3 = (1 : Int32) then (
            fX10_round_63 n q5.2 (0 : Int32) a2 a1 x8 x7 x6)
          else (
            fX10_round_63 n q5.2 (1 : Int32) a2 a1 x8 x7 x6))
        else (
          some ((-1 : Int32), q5.2)))))
theorem gX10_round {n : Nat} {h : ai_H} {a0 : Nat} {a1 : Int32} {a2 : Int32} {a3 : Int32} {q : Int32 × ai_H} (hh : fX10_round n h a0 a1 a2 a3 = some q) : kO n h a0 10 = some () := by
  obtain ⟨_, e, -⟩ := bi_bd hh
  exact e
theorem sX10_round {n : Nat} {h : ai_H} {a0 : Nat} {a1 : Int32} {a2 : Int32} {a3 : Int32} {q : Int32 × ai_H} (hh : fX10_round n h a0 a1 a2 a3 = some q) : bi_sp 4 119 [.ref a0, .int a1, .int a2, .int a3] h n (fI n q) := by
  refine bi_en (D := 3) (T := tX10_round) (funext fun pc => rfl) rfl (Nat.le_of_ble_eq_true rfl) ?_
  unfold fX10_round at hh
  obtain ⟨_, eO, hh⟩ := bi_bd hh
  refine go_al (pc := 0) rfl (rfl : ai_ld 0 (lv_args 0 [.ref a0, .int a1, .int a2, .int a3]) = some (.ref a0)) ?_
  refine go_il (pc := 1) rfl (rfl : ai_ld 1 (lv_args 0 [.ref a0, .int a1, .int a2, .int a3]) = some (.int a1)) ?_
  obtain ⟨q1, eq1, hh⟩ := bi_bd hh
  refine go_ivI (pc := 2) rfl rfl (gX10_isWalker eq1) (Nat.le_of_ble_eq_true rfl) (bi_up (sX10_isWalker eq1) (Nat.le_of_ble_eq_true rfl)) ?_
  refine bi_ite hh (fun hc hh => ?_) (fun hc hh => ?_)
  · refine go_ifeqT (pc := 5) rfl hc ?_
    refine go_pi (pc := 37) rfl ?_
    exact go_ri (pc := 38) rfl hh
  · refine go_ifeqF (pc := 5) rfl hc ?_
    refine go_il (pc := 8) rfl (rfl : ai_ld 2 (lv_args 0 [.ref a0, .int a1, .int a2, .int a3]) = some (.int a2)) ?_
    refine bi_ite hh (fun hc hh => ?_) (fun hc hh => ?_)
    · refine go_ifltT (pc := 9) rfl hc ?_
      refine go_pi (pc := 37) rfl ?_
      exact go_ri (pc := 38) rfl hh
    · refine go_ifltF (pc := 9) rfl hc ?_
      refine go_il (pc := 12) rfl (rfl : ai_ld 2 (lv_args 0 [.ref a0, .int a1, .int a2, .int a3]) = some (.int a2)) ?_
      refine go_pi (pc := 13) rfl ?_
      refine go_al (pc := 14) rfl (rfl : ai_ld 0 (lv_args 0 [.ref a0, .int a1, .int a2, .int a3]) = some (.ref a0)) ?_
      obtain ⟨x2, ex2, hh⟩ := bi_bd hh
      refine go_gfR (pc := 15) rfl ex2 ?_
      obtain ⟨x3, ex3, hh⟩ := bi_bd hh
      refine go_gfR (pc := 18) rfl ex3 ?_
      obtain ⟨x4, ex4, hh⟩ := bi_bd hh
      refine go_gfI (pc := 21) rfl ex4 ?_
      refine go_ishl (pc := 24) rfl ?_
      refine bi_ite hh (fun hc hh => ?_) (fun hc hh => ?_)
      · refine go_cmpgeT (pc := 25) rfl hc ?_
        refine go_pi (pc := 37) rfl ?_
        exact go_ri (pc := 38) rfl hh
      · refine go_cmpgeF (pc := 25) rfl hc ?_
        refine go_pi (pc := 28) rfl ?_
        refine go_il (pc := 29) rfl (rfl : ai_ld 3 (lv_args 0 [.ref a0, .int a1, .int a2, .int a3]) = some (.int a3)) ?_
        refine go_pi (pc := 30) rfl ?_
        obtain ⟨q5, eq5, hh⟩ := bi_bd hh
        refine go_iSI (pc := 31) rfl (Nat.le_of_ble_eq_true rfl) rfl (Nat.le_of_ble_eq_true rfl) (bi_up (sX10_isWithin eq5) (Nat.le_of_ble_eq_true rfl)) ?_
        refine bi_ite hh (fun hc hh => ?_) (fun hc hh => ?_)
        · refine go_ifneT (pc := 34) rfl hc ?_
          refine go_al (pc := 39) rfl (rfl : ai_ld 0 (lv_args 0 [.ref a0, .int a1, .int a2, .int a3]) = some (.ref a0)) ?_
          obtain ⟨x6, ex6, hh⟩ := bi_bd hh
          refine go_gfR (pc := 40) rfl ex6 ?_
          refine go_al (pc := 43) rfl (rfl : ai_ld 0 (lv_args 0 [.ref a0, .int a1, .int a2, .int a3]) = some (.ref a0)) ?_
          obtain ⟨x7, ex7, hh⟩ := bi_bd hh
          refine go_gfR (pc := 44) rfl ex7 ?_
          refine go_al (pc := 47) rfl (rfl : ai_ld 0 (lv_args 0 [.ref a0, .int a1, .int a2, .int a3]) = some (.ref a0)) ?_
          obtain ⟨x8, ex8, hh⟩ := bi_bd hh
          refine go_gfR (pc := 48) rfl ex8 ?_
          refine go_il (pc := 51) rfl (rfl : ai_ld 1 (lv_args 0 [.ref a0, .int a1, .int a2, .int a3]) = some (.int a1)) ?_
          refine go_il (pc := 52) rfl (rfl : ai_ld 2 (lv_args 0 [.ref a0, .int a1, .int a2, .int a3]) = some (.int a2)) ?_
          refine go_il (pc := 53) rfl (rfl : ai_ld 3 (lv_args 0 [.ref a0, .int a1, .int a2, .int a3]) = some (.int a3)) ?_
          refine go_pi (pc := 54) rfl ?_
          refine bi_ite hh (fun hc hh => ?_) (fun hc hh => ?_)
          · refine go_cmpneT (pc := 55) rfl hc ?_
            refine go_pi (pc := 62) rfl ?_
            exact sX10_round_63   hh
          · refine go_cmpneF (pc := 55) rfl hc ?_
            refine go_pi (pc := 58) rfl ?_
            refine go_goto (pc := 59) rfl ?_
            exact sX10_round_63   hh
        · refine go_ifneF (pc := 34) rfl hc ?_
          refine go_pi (pc := 37) rfl ?_
          exact go_ri (pc := 38) rfl hh
def fX10_needed (n : Nat) (h : ai_H) (a0 : Nat) (a1 : Int32) : Option (Int32 × ai_H) :=
  (kO n h a0 10).bind fun _ =>
  (fX10_isPath n h a0 a1).bind fun q1 =>
  if q1.1 = 0 then (
    some ((-1 : Int32), q1.2))
  else (
    (pR n q1.2 a0 10 5).bind fun x2 =>
    (fX5_isKept n q1.2 x2 a1).bind fun q3 =>
    if ¬ q3.1 = 0 then (
      (pR n q3.2 a0 10 3).bind fun x4 =>
      (pR n q3.2 a0 10 5).bind fun x5 =>
      (pI n q3.2 x5 5 4).bind fun x6 =>
      (fX9_pairs n q3.2 x4 x6).bind fun q7 =>
      (pR n q7.2 a0 10 3).bind fun x8 =>
      (pR n q7.2 a0 10 5).bind fun x9 =>
      (pI n q7.2 x9 5 4).bind fun x10 =>
      (fX9_pairs n q7.2 x8 (x10 &&& (((1 : Int32) <<< (a1 &&& 31)) ^^^ (-1 : Int32)))).bind fun q11 =>
      some (q7.1 - q11.1, q11.2))
    else (
      some ((-1 : Int32), q3.2)))
theorem gX10_needed {n : Nat} {h : ai_H} {a0 : Nat} {a1 : Int32} {q : Int32 × ai_H} (hh : fX10_needed n h a0 a1 = some q) : kO n h a0 10 = some () := by
  obtain ⟨_, e, -⟩ := bi_bd hh
  exact e
theorem sX10_needed {n : Nat} {h : ai_H} {a0 : Nat} {a1 : Int32} {q : Int32 × ai_H} (hh : fX10_needed n h a0 a1 = some q) : bi_sp 5 120 [.ref a0, .int a1] h n (fI n q) := by
  refine bi_en (D := 4) (T := tX10_needed) (funext fun pc => rfl) rfl (Nat.le_of_ble_eq_true rfl) ?_
  unfold fX10_needed at hh
  obtain ⟨_, eO, hh⟩ := bi_bd hh
  refine go_al (pc := 0) rfl (rfl : ai_ld 0 (lv_args 0 [.ref a0, .int a1]) = some (.ref a0)) ?_
  refine go_il (pc := 1) rfl (rfl : ai_ld 1 (lv_args 0 [.ref a0, .int a1]) = some (.int a1)) ?_
  obtain ⟨q1, eq1, hh⟩ := bi_bd hh
  refine go_ivI (pc := 2) rfl rfl (gX10_isPath eq1) (Nat.le_of_ble_eq_true rfl) (bi_up (sX10_isPath eq1) (Nat.le_of_ble_eq_true rfl)) ?_
  refine bi_ite hh (fun hc hh => ?_) (fun hc hh => ?_)
  · refine go_ifeqT (pc := 5) rfl hc ?_
    refine go_pi (pc := 19) rfl ?_
    exact go_ri (pc := 20) rfl hh
  · refine go_ifeqF (pc := 5) rfl hc ?_
    refine go_al (pc := 8) rfl (rfl : ai_ld 0 (lv_args 0 [.ref a0, .int a1]) = some (.ref a0)) ?_
    obtain ⟨x2, ex2, hh⟩ := bi_bd hh
    refine go_gfR (pc := 9) rfl ex2 ?_
    refine go_il (pc := 12) rfl (rfl : ai_ld 1 (lv_args 0 [.ref a0, .int a1]) = some (.int a1)) ?_
    obtain ⟨q3, eq3, hh⟩ := bi_bd hh
    refine go_ivI (pc := 13) rfl rfl (gX5_isKept eq3) (Nat.le_of_ble_eq_true rfl) (bi_up (sX5_isKept eq3) (Nat.le_of_ble_eq_true rfl)) ?_
    refine bi_ite hh (fun hc hh => ?_) (fun hc hh => ?_)
    · refine go_ifneT (pc := 16) rfl hc ?_
      refine go_al (pc := 21) rfl (rfl : ai_ld 0 (lv_args 0 [.ref a0, .int a1]) = some (.ref a0)) ?_
      obtain ⟨x4, ex4, hh⟩ := bi_bd hh
      refine go_gfR (pc := 22) rfl ex4 ?_
      refine go_al (pc := 25) rfl (rfl : ai_ld 0 (lv_args 0 [.ref a0, .int a1]) = some (.ref a0)) ?_
      obtain ⟨x5, ex5, hh⟩ := bi_bd hh
      refine go_gfR (pc := 26) rfl ex5 ?_
      obtain ⟨x6, ex6, hh⟩ := bi_bd hh
      refine go_gfI (pc := 29) rfl ex6 ?_
      obtain ⟨q7, eq7, hh⟩ := bi_bd hh
      refine go_iSI (pc := 32) rfl (Nat.le_of_ble_eq_true rfl) rfl (Nat.le_of_ble_eq_true rfl) (bi_up (sX9_pairs eq7) (Nat.le_of_ble_eq_true rfl)) ?_
      refine go_al (pc := 35) rfl (rfl : ai_ld 0 (lv_args 0 [.ref a0, .int a1]) = some (.ref a0)) ?_
      obtain ⟨x8, ex8, hh⟩ := bi_bd hh
      refine go_gfR (pc := 36) rfl ex8 ?_
      refine go_al (pc := 39) rfl (rfl : ai_ld 0 (lv_args 0 [.ref a0, .int a1]) = some (.ref a0)) ?_
      obtain ⟨x9, ex9, hh⟩ := bi_bd hh
      refine go_gfR (pc := 40) rfl ex9 ?_
      obtain ⟨x10, ex10, hh⟩ := bi_bd hh
      refine go_gfI (pc := 43) rfl ex10 ?_
      refine go_pi (pc := 46) rfl ?_
      refine go_il (pc := 47) rfl (rfl : ai_ld 1 (lv_args 0 [.ref a0, .int a1]) = some (.int a1)) ?_
      refine go_ishl (pc := 48) rfl ?_
      refine go_pi (pc := 49) rfl ?_
      refine go_ixor (pc := 50) rfl ?_
      refine go_iand (pc := 51) rfl ?_
      obtain ⟨q11, eq11, hh⟩ := bi_bd hh
      refine go_iSI (pc := 52) rfl (Nat.le_of_ble_eq_true rfl) rfl (Nat.le_of_ble_eq_true rfl) (bi_up (sX9_pairs eq11) (Nat.le_of_ble_eq_true rfl)) ?_
      refine go_isub (pc := 55) rfl ?_
      exact go_ri (pc := 56) rfl hh
    · refine go_ifneF (pc := 16) rfl hc ?_
      refine go_pi (pc := 19) rfl ?_
      exact go_ri (pc := 20) rfl hh
def fX10_blind (n : Nat) (h : ai_H) (a0 : Nat) : Option (Int32 × ai_H) :=
  (kO n h a0 10).bind fun _ =>
  (pR n h a0 10 3).bind fun x1 =>
  (pR n h a0 10 5).bind fun x2 =>
  (pI n h x2 5 4).bind fun x3 =>
  (fX9_blindEnds n h x1 x3).bind fun q4 =>
  some (q4.1, q4.2)
theorem gX10_blind {n : Nat} {h : ai_H} {a0 : Nat} {q : Int32 × ai_H} (hh : fX10_blind n h a0 = some q) : kO n h a0 10 = some () := by
  obtain ⟨_, e, -⟩ := bi_bd hh
  exact e
theorem sX10_blind {n : Nat} {h : ai_H} {a0 : Nat} {q : Int32 × ai_H} (hh : fX10_blind n h a0 = some q) : bi_sp 5 121 [.ref a0] h n (fI n q) := by
  refine bi_en (D := 4) (T := tX10_blind) (funext fun pc => rfl) rfl (Nat.le_of_ble_eq_true rfl) ?_
  unfold fX10_blind at hh
  obtain ⟨_, eO, hh⟩ := bi_bd hh
  refine go_al (pc := 0) rfl (rfl : ai_ld 0 (lv_args 0 [.ref a0]) = some (.ref a0)) ?_
  obtain ⟨x1, ex1, hh⟩ := bi_bd hh
  refine go_gfR (pc := 1) rfl ex1 ?_
  refine go_al (pc := 4) rfl (rfl : ai_ld 0 (lv_args 0 [.ref a0]) = some (.ref a0)) ?_
  obtain ⟨x2, ex2, hh⟩ := bi_bd hh
  refine go_gfR (pc := 5) rfl ex2 ?_
  obtain ⟨x3, ex3, hh⟩ := bi_bd hh
  refine go_gfI (pc := 8) rfl ex3 ?_
  obtain ⟨q4, eq4, hh⟩ := bi_bd hh
  refine go_iSI (pc := 11) rfl (Nat.le_of_ble_eq_true rfl) rfl (Nat.le_of_ble_eq_true rfl) (bi_up (sX9_blindEnds eq4) (Nat.le_of_ble_eq_true rfl)) ?_
  exact go_ri (pc := 14) rfl hh
def fX10_watch (n : Nat) (h : ai_H) (a0 : Nat) : Option (Int32 × ai_H) :=
  (kO n h a0 10).bind fun _ =>
  (pR n h a0 10 3).bind fun x1 =>
  (pR n h a0 10 5).bind fun x2 =>
  (pI n h x2 5 4).bind fun x3 =>
  (fX9_fewestWatched n h x1 x3).bind fun q4 =>
  some (q4.1, q4.2)
theorem gX10_watch {n : Nat} {h : ai_H} {a0 : Nat} {q : Int32 × ai_H} (hh : fX10_watch n h a0 = some q) : kO n h a0 10 = some () := by
  obtain ⟨_, e, -⟩ := bi_bd hh
  exact e
theorem sX10_watch {n : Nat} {h : ai_H} {a0 : Nat} {q : Int32 × ai_H} (hh : fX10_watch n h a0 = some q) : bi_sp 5 122 [.ref a0] h n (fI n q) := by
  refine bi_en (D := 4) (T := tX10_watch) (funext fun pc => rfl) rfl (Nat.le_of_ble_eq_true rfl) ?_
  unfold fX10_watch at hh
  obtain ⟨_, eO, hh⟩ := bi_bd hh
  refine go_al (pc := 0) rfl (rfl : ai_ld 0 (lv_args 0 [.ref a0]) = some (.ref a0)) ?_
  obtain ⟨x1, ex1, hh⟩ := bi_bd hh
  refine go_gfR (pc := 1) rfl ex1 ?_
  refine go_al (pc := 4) rfl (rfl : ai_ld 0 (lv_args 0 [.ref a0]) = some (.ref a0)) ?_
  obtain ⟨x2, ex2, hh⟩ := bi_bd hh
  refine go_gfR (pc := 5) rfl ex2 ?_
  obtain ⟨x3, ex3, hh⟩ := bi_bd hh
  refine go_gfI (pc := 8) rfl ex3 ?_
  obtain ⟨q4, eq4, hh⟩ := bi_bd hh
  refine go_iSI (pc := 11) rfl (Nat.le_of_ble_eq_true rfl) rfl (Nat.le_of_ble_eq_true rfl) (bi_up (sX9_fewestWatched eq4) (Nat.le_of_ble_eq_true rfl)) ?_
  exact go_ri (pc := 14) rfl hh
def fX10_match (n : Nat) (h : ai_H) (a0 : Nat) (a1 : Int32) : Option (Int32 × ai_H) :=
  (kO n h a0 10).bind fun _ =>
  (fX10_isWithin n h (0 : Int32) a1 (4 : Int32)).bind fun q1 =>
  if ¬ q1.1 = 0 then (
    (pR n q1.2 a0 10 13).bind fun x2 =>
    (pR n q1.2 a0 10 3).bind fun x3 =>
    (pR n q1.2 a0 10 5).bind fun x4 =>
    (fX9_matchAll n q1.2 x2 x3 x4).bind fun q5 =>
    if ¬ a1 = (4 : Int32) then (
      (pR n q5.2 a0 10 13).bind fun x6 =>
      (pR n q5.2 x6 9 5).bind fun x7 =>
      (gX 1 n q5.2 x7 a1).bind fun x8 =>
      some (x8, q5.2))
    else (
      (pR n q5.2 a0 10 13).bind fun x9 =>
      (pI n q5.2 x9 9 6).bind fun x10 =>
      some (x10, q5.2)))
  else (
    some ((-1 : Int32), q1.2))
theorem gX10_match {n : Nat} {h : ai_H} {a0 : Nat} {a1 : Int32} {q : Int32 × ai_H} (hh : fX10_match n h a0 a1 = some q) : kO n h a0 10 = some () := by
  obtain ⟨_, e, -⟩ := bi_bd hh
  exact e
theorem sX10_match {n : Nat} {h : ai_H} {a0 : Nat} {a1 : Int32} {q : Int32 × ai_H} (hh : fX10_match n h a0 a1 = some q) : bi_sp 302 123 [.ref a0, .int a1] h n (fI n q) := by
  refine bi_en (D := 301) (T := tX10_match) (funext fun pc => rfl) rfl (Nat.le_of_ble_eq_true rfl) ?_
  unfold fX10_match at hh
  obtain ⟨_, eO, hh⟩ := bi_bd hh
  refine go_pi (pc := 0) rfl ?_
  refine go_il (pc := 1) rfl (rfl : ai_ld 1 (lv_args 0 [.ref a0, .int a1]) = some (.int a1)) ?_
  refine go_pi (pc := 2) rfl ?_
  obtain ⟨q1, eq1, hh⟩ := bi_bd hh
  refine go_iSI (pc := 3) rfl (Nat.le_of_ble_eq_true rfl) rfl (Nat.le_of_ble_eq_true rfl) (bi_up (sX10_isWithin eq1) (Nat.le_of_ble_eq_true rfl)) ?_
  refine bi_ite hh (fun hc hh => ?_) (fun hc hh => ?_)
  · refine go_ifneT (pc := 6) rfl hc ?_
    refine go_al (pc := 11) rfl (rfl : ai_ld 0 (lv_args 0 [.ref a0, .int a1]) = some (.ref a0)) ?_
    obtain ⟨x2, ex2, hh⟩ := bi_bd hh
    refine go_gfR (pc := 12) rfl ex2 ?_
    refine go_al (pc := 15) rfl (rfl : ai_ld 0 (lv_args 0 [.ref a0, .int a1]) = some (.ref a0)) ?_
    obtain ⟨x3, ex3, hh⟩ := bi_bd hh
    refine go_gfR (pc := 16) rfl ex3 ?_
    refine go_al (pc := 19) rfl (rfl : ai_ld 0 (lv_args 0 [.ref a0, .int a1]) = some (.ref a0)) ?_
    obtain ⟨x4, ex4, hh⟩ := bi_bd hh
    refine go_gfR (pc := 20) rfl ex4 ?_
    obtain ⟨q5, eq5, hh⟩ := bi_bd hh
    refine go_ivV (pc := 23) rfl rfl (gX9_matchAll eq5) (Nat.le_of_ble_eq_true rfl) (bi_up (sX9_matchAll eq5) (Nat.le_of_ble_eq_true rfl)) ?_
    refine go_il (pc := 26) rfl (rfl : ai_ld 1 (lv_args 0 [.ref a0, .int a1]) = some (.int a1)) ?_
    refine go_pi (pc := 27) rfl ?_
    refine bi_ite hh (fun hc hh => ?_) (fun hc hh => ?_)
    · refine go_cmpneT (pc := 28) rfl hc ?_
      refine go_al (pc := 41) rfl (rfl : ai_ld 0 (lv_args 0 [.ref a0, .int a1]) = some (.ref a0)) ?_
      obtain ⟨x6, ex6, hh⟩ := bi_bd hh
      refine go_gfR (pc := 42) rfl ex6 ?_
      obtain ⟨x7, ex7, hh⟩ := bi_bd hh
      refine go_gfR (pc := 45) rfl ex7 ?_
      refine go_il (pc := 48) rfl (rfl : ai_ld 1 (lv_args 0 [.ref a0, .int a1]) = some (.int a1)) ?_
      obtain ⟨x8, ex8, hh⟩ := bi_bd hh
      refine go_iald (pc := 49) rfl ex8 ?_
      exact go_ri (pc := 50) rfl hh
    · refine go_cmpneF (pc := 28) rfl hc ?_
      refine go_al (pc := 31) rfl (rfl : ai_ld 0 (lv_args 0 [.ref a0, .int a1]) = some (.ref a0)) ?_
      obtain ⟨x9, ex9, hh⟩ := bi_bd hh
      refine go_gfR (pc := 32) rfl ex9 ?_
      obtain ⟨x10, ex10, hh⟩ := bi_bd hh
      refine go_gfI (pc := 35) rfl ex10 ?_
      refine go_goto (pc := 38) rfl ?_
      exact go_ri (pc := 50) rfl hh
  · refine go_ifneF (pc := 6) rfl hc ?_
    refine go_pi (pc := 9) rfl ?_
    exact go_ri (pc := 10) rfl hh
def fX10_game (n : Nat) (h : ai_H) (a0 : Nat) (a1 : Int32) (a2 : Int32) (a3 : Int32) (a4 : Int32) : Option (Int32 × ai_H) :=
  (kO n h a0 10).bind fun _ =>
  (fX10_isPlace n h a0 a1).bind fun q1 =>
  if q1.1 = 0 then (
    some ((-1 : Int32), q1.2))
  else (
    (fX10_isPlace n q1.2 a0 a2).bind fun q2 =>
    if q2.1 = 0 then (
      some ((-1 : Int32), q2.2))
    else (
      if ¬ a1 = a2 then (
        (fX10_isWithin n q2.2 (0 : Int32) a3 (1 : Int32)).bind fun q3 =>
        if q3.1 = 0 then (
          some ((-1 : Int32), q3.2))
        else (
          (fX10_isWithin n q3.2 (0 : Int32) a4 (1 : Int32)).bind fun q4 =>
          if ¬ q4.1 = 0 then (
            (pR n q4.2 a0 10 14).bind fun x5 =>
            (pR n q4.2 a0 10 3).bind fun x6 =>
            (pR n q4.2 a0 10 5).bind fun x7 =>
            (pI n q4.2 x7 5 4).bind fun x8 =>
            (fX1_begin n q4.2 x5 x6 x8 a1 a2).bind fun q9 =>
            if ¬ a4 = 0 then (
              (pR n q9.2 a0 10 14).bind fun x10 =>
              (fX1_firstMove n q9.2 x10 a3).bind fun q11 =>
              some (q11.1, q11.2))
            else (
              (pR n q9.2 a0 10 14).bind fun x12 =>
              (fX1_winner n q9.2 x12 a3).bind fun q13 =>
              some (q13.1, q13.2)))
          else (
            some ((-1 : Int32), q4.2))))
      else (
        some ((-1 : Int32), q2.2))))
theorem gX10_game {n : Nat} {h : ai_H} {a0 : Nat} {a1 : Int32} {a2 : Int32} {a3 : Int32} {a4 : Int32} {q : Int32 × ai_H} (hh : fX10_game n h a0 a1 a2 a3 a4 = some q) : kO n h a0 10 = some () := by
  obtain ⟨_, e, -⟩ := bi_bd hh
  exact e
theorem sX10_game {n : Nat} {h : ai_H} {a0 : Nat} {a1 : Int32} {a2 : Int32} {a3 : Int32} {a4 : Int32} {q : Int32 × ai_H} (hh : fX10_game n h a0 a1 a2 a3 a4 = some q) : bi_sp 302 124 [.ref a0, .int a1, .int a2, .int a3, .int a4] h n (fI n q) := by
  refine bi_en (D := 301) (T := tX10_game) (funext fun pc => rfl) rfl (Nat.le_of_ble_eq_true rfl) ?_
  unfold fX10_game at hh
  obtain ⟨_, eO, hh⟩ := bi_bd hh
  refine go_al (pc := 0) rfl (rfl : ai_ld 0 (lv_args 0 [.ref a0, .int a1, .int a2, .int a3, .int a4]) = some (.ref a0)) ?_
  refine go_il (pc := 1) rfl (rfl : ai_ld 1 (lv_args 0 [.ref a0, .int a1, .int a2, .int a3, .int a4]) = some (.int a1)) ?_
  obtain ⟨q1, eq1, hh⟩ := bi_bd hh
  refine go_ivI (pc := 2) rfl rfl (gX10_isPlace eq1) (Nat.le_of_ble_eq_true rfl) (bi_up (sX10_isPlace eq1) (Nat.le_of_ble_eq_true rfl)) ?_
  refine bi_ite hh (fun hc hh => ?_) (fun hc hh => ?_)
  · refine go_ifeqT (pc := 5) rfl hc ?_
    refine go_pi (pc := 21) rfl ?_
    exact go_ri (pc := 22) rfl hh
  · refine go_ifeqF (pc := 5) rfl hc ?_
    refine go_al (pc := 8) rfl (rfl : ai_ld 0 (lv_args 0 [.ref a0, .int a1, .int a2, .int a3, .int a4]) = some (.ref a0)) ?_
    refine go_il (pc := 9) rfl (rfl : ai_ld 2 (lv_args 0 [.ref a0, .int a1, .int a2, .int a3, .int a4]) = some (.int a2)) ?_
    obtain ⟨q2, eq2, hh⟩ := bi_bd hh
    refine go_ivI (pc := 10) rfl rfl (gX10_isPlace eq2) (Nat.le_of_ble_eq_true rfl) (bi_up (sX10_isPlace eq2) (Nat.le_of_ble_eq_true rfl)) ?_
    refine bi_ite hh (fun hc hh => ?_) (fun hc hh => ?_)
    · refine go_ifeqT (pc := 13) rfl hc ?_
      refine go_pi (pc := 21) rfl ?_
      exact go_ri (pc := 22) rfl hh
    · refine go_ifeqF (pc := 13) rfl hc ?_
      refine go_il (pc := 16) rfl (rfl : ai_ld 1 (lv_args 0 [.ref a0, .int a1, .int a2, .int a3, .int a4]) = some (.int a1)) ?_
      refine go_il (pc := 17) rfl (rfl : ai_ld 2 (lv_args 0 [.ref a0, .int a1, .int a2, .int a3, .int a4]) = some (.int a2)) ?_
      refine bi_ite hh (fun hc hh => ?_) (fun hc hh => ?_)
      · refine go_cmpneT (pc := 18) rfl hc ?_
        refine go_pi (pc := 23) rfl ?_
        refine go_il (pc := 24) rfl (rfl : ai_ld 3 (lv_args 0 [.ref a0, .int a1, .int a2, .int a3, .int a4]) = some (.int a3)) ?_
        refine go_pi (pc := 25) rfl ?_
        obtain ⟨q3, eq3, hh⟩ := bi_bd hh
        refine go_iSI (pc := 26) rfl (Nat.le_of_ble_eq_true rfl) rfl (Nat.le_of_ble_eq_true rfl) (bi_up (sX10_isWithin eq3) (Nat.le_of_ble_eq_true rfl)) ?_
        refine bi_ite hh (fun hc hh => ?_) (fun hc hh => ?_)
        · refine go_ifeqT (pc := 29) rfl hc ?_
          refine go_pi (pc := 42) rfl ?_
          exact go_ri (pc := 43) rfl hh
        · refine go_ifeqF (pc := 29) rfl hc ?_
          refine go_pi (pc := 32) rfl ?_
          refine go_il (pc := 33) rfl (rfl : ai_ld 4 (lv_args 0 [.ref a0, .int a1, .int a2, .int a3, .int a4]) = some (.int a4)) ?_
          refine go_pi (pc := 35) rfl ?_
          obtain ⟨q4, eq4, hh⟩ := bi_bd hh
          refine go_iSI (pc := 36) rfl (Nat.le_of_ble_eq_true rfl) rfl (Nat.le_of_ble_eq_true rfl) (bi_up (sX10_isWithin eq4) (Nat.le_of_ble_eq_true rfl)) ?_
          refine bi_ite hh (fun hc hh => ?_) (fun hc hh => ?_)
          · refine go_ifneT (pc := 39) rfl hc ?_
            refine go_al (pc := 44) rfl (rfl : ai_ld 0 (lv_args 0 [.ref a0, .int a1, .int a2, .int a3, .int a4]) = some (.ref a0)) ?_
            obtain ⟨x5, ex5, hh⟩ := bi_bd hh
            refine go_gfR (pc := 45) rfl ex5 ?_
            refine go_al (pc := 48) rfl (rfl : ai_ld 0 (lv_args 0 [.ref a0, .int a1, .int a2, .int a3, .int a4]) = some (.ref a0)) ?_
            obtain ⟨x6, ex6, hh⟩ := bi_bd hh
            refine go_gfR (pc := 49) rfl ex6 ?_
            refine go_al (pc := 52) rfl (rfl : ai_ld 0 (lv_args 0 [.ref a0, .int a1, .int a2, .int a3, .int a4]) = some (.ref a0)) ?_
            obtain ⟨x7, ex7, hh⟩ := bi_bd hh
            refine go_gfR (pc := 53) rfl ex7 ?_
            obtain ⟨x8, ex8, hh⟩ := bi_bd hh
            refine go_gfI (pc := 56) rfl ex8 ?_
            refine go_il (pc := 59) rfl (rfl : ai_ld 1 (lv_args 0 [.ref a0, .int a1, .int a2, .int a3, .int a4]) = some (.int a1)) ?_
            refine go_il (pc := 60) rfl (rfl : ai_ld 2 (lv_args 0 [.ref a0, .int a1, .int a2, .int a3, .int a4]) = some (.int a2)) ?_
            obtain ⟨q9, eq9, hh⟩ := bi_bd hh
            refine go_ivV (pc := 61) rfl rfl (gX1_begin eq9) (Nat.le_of_ble_eq_true rfl) (bi_up (sX1_begin eq9) (Nat.le_of_ble_eq_true rfl)) ?_
            refine go_il (pc := 64) rfl (rfl : ai_ld 4 (lv_args 0 [.ref a0, .int a1, .int a2, .int a3, .int a4]) = some (.int a4)) ?_
            refine bi_ite hh (fun hc hh => ?_) (fun hc hh => ?_)
            · refine go_ifneT (pc := 66) rfl hc ?_
              refine go_al (pc := 80) rfl (rfl : ai_ld 0 (lv_args 0 [.ref a0, .int a1, .int a2, .int a3, .int a4]) = some (.ref a0)) ?_
              obtain ⟨x10, ex10, hh⟩ := bi_bd hh
              refine go_gfR (pc := 81) rfl ex10 ?_
              refine go_il (pc := 84) rfl (rfl : ai_ld 3 (lv_args 0 [.ref a0, .int a1, .int a2, .int a3, .int a4]) = some (.int a3)) ?_
              obtain ⟨q11, eq11, hh⟩ := bi_bd hh
              refine go_ivI (pc := 85) rfl rfl (gX1_firstMove eq11) (Nat.le_of_ble_eq_true rfl) (bi_up (sX1_firstMove eq11) (Nat.le_of_ble_eq_true rfl)) ?_
              exact go_ri (pc := 88) rfl hh
            · refine go_ifneF (pc := 66) rfl hc ?_
              refine go_al (pc := 69) rfl (rfl : ai_ld 0 (lv_args 0 [.ref a0, .int a1, .int a2, .int a3, .int a4]) = some (.ref a0)) ?_
              obtain ⟨x12, ex12, hh⟩ := bi_bd hh
              refine go_gfR (pc := 70) rfl ex12 ?_
              refine go_il (pc := 73) rfl (rfl : ai_ld 3 (lv_args 0 [.ref a0, .int a1, .int a2, .int a3, .int a4]) = some (.int a3)) ?_
              obtain ⟨q13, eq13, hh⟩ := bi_bd hh
              refine go_ivI (pc := 74) rfl rfl (gX1_winner eq13) (Nat.le_of_ble_eq_true rfl) (bi_up (sX1_winner eq13) (Nat.le_of_ble_eq_true rfl)) ?_
              refine go_goto (pc := 77) rfl ?_
              exact go_ri (pc := 88) rfl hh
          · refine go_ifneF (pc := 39) rfl hc ?_
            refine go_pi (pc := 42) rfl ?_
            exact go_ri (pc := 43) rfl hh
      · refine go_cmpneF (pc := 18) rfl hc ?_
        refine go_pi (pc := 21) rfl ?_
        exact go_ri (pc := 22) rfl hh
def fX10_isPair (n : Nat) (h : ai_H) (a0 : Nat) (a1 : Int32) (a2 : Int32) : Option (Int32 × ai_H) :=
  (kO n h a0 10).bind fun _ =>
  (fX10_isWalker n h a0 a1).bind fun q1 =>
  if q1.1 = 0 then (
    some ((0 : Int32), q1.2))
  else (
    (fX10_isWalker n q1.2 a0 a2).bind fun q2 =>
    if q2.1 = 0 then (
      some ((0 : Int32), q2.2))
    else (
      if a1 = a2 then (
        some ((0 : Int32), q2.2))
      else (
        some ((1 : Int32), q2.2))))
theorem gX10_isPair {n : Nat} {h : ai_H} {a0 : Nat} {a1 : Int32} {a2 : Int32} {q : Int32 × ai_H} (hh : fX10_isPair n h a0 a1 a2 = some q) : kO n h a0 10 = some () := by
  obtain ⟨_, e, -⟩ := bi_bd hh
  exact e
theorem sX10_isPair {n : Nat} {h : ai_H} {a0 : Nat} {a1 : Int32} {a2 : Int32} {q : Int32 × ai_H} (hh : fX10_isPair n h a0 a1 a2 = some q) : bi_sp 2 125 [.ref a0, .int a1, .int a2] h n (fI n q) := by
  refine bi_en (D := 1) (T := tX10_isPair) (funext fun pc => rfl) rfl (Nat.le_of_ble_eq_true rfl) ?_
  unfold fX10_isPair at hh
  obtain ⟨_, eO, hh⟩ := bi_bd hh
  refine go_al (pc := 0) rfl (rfl : ai_ld 0 (lv_args 0 [.ref a0, .int a1, .int a2]) = some (.ref a0)) ?_
  refine go_il (pc := 1) rfl (rfl : ai_ld 1 (lv_args 0 [.ref a0, .int a1, .int a2]) = some (.int a1)) ?_
  obtain ⟨q1, eq1, hh⟩ := bi_bd hh
  refine go_ivI (pc := 2) rfl rfl (gX10_isWalker eq1) (Nat.le_of_ble_eq_true rfl) (bi_up (sX10_isWalker eq1) (Nat.le_of_ble_eq_true rfl)) ?_
  refine bi_ite hh (fun hc hh => ?_) (fun hc hh => ?_)
  · refine go_ifeqT (pc := 5) rfl hc ?_
    refine go_pi (pc := 25) rfl ?_
    exact go_rz (pc := 26) rfl bi_z0 hh
  · refine go_ifeqF (pc := 5) rfl hc ?_
    refine go_al (pc := 8) rfl (rfl : ai_ld 0 (lv_args 0 [.ref a0, .int a1, .int a2]) = some (.ref a0)) ?_
    refine go_il (pc := 9) rfl (rfl : ai_ld 2 (lv_args 0 [.ref a0, .int a1, .int a2]) = some (.int a2)) ?_
    obtain ⟨q2, eq2, hh⟩ := bi_bd hh
    refine go_ivI (pc := 10) rfl rfl (gX10_isWalker eq2) (Nat.le_of_ble_eq_true rfl) (bi_up (sX10_isWalker eq2) (Nat.le_of_ble_eq_true rfl)) ?_
    refine bi_ite hh (fun hc hh => ?_) (fun hc hh => ?_)
    · refine go_ifeqT (pc := 13) rfl hc ?_
      refine go_pi (pc := 25) rfl ?_
      exact go_rz (pc := 26) rfl bi_z0 hh
    · refine go_ifeqF (pc := 13) rfl hc ?_
      refine go_il (pc := 16) rfl (rfl : ai_ld 1 (lv_args 0 [.ref a0, .int a1, .int a2]) = some (.int a1)) ?_
      refine go_il (pc := 17) rfl (rfl : ai_ld 2 (lv_args 0 [.ref a0, .int a1, .int a2]) = some (.int a2)) ?_
      refine bi_ite hh (fun hc hh => ?_) (fun hc hh => ?_)
      · refine go_cmpeqT (pc := 18) rfl hc ?_
        refine go_pi (pc := 25) rfl ?_
        exact go_rz (pc := 26) rfl bi_z0 hh
      · refine go_cmpeqF (pc := 18) rfl hc ?_
        refine go_pi (pc := 21) rfl ?_
        refine go_goto (pc := 22) rfl ?_
        exact go_rz (pc := 26) rfl bi_z1 hh
def fX10_share (n : Nat) (h : ai_H) (a0 : Int32) (a1 : Int32) (a2 : Int32) : Option (Int32 × ai_H) :=
  if ¬ a1 = 0 then (
    if ¬ a2 = 0 then (
      some ((0 : Int32), h))
    else (
      some (a0 + (3 : Int32), h)))
  else (
    if ¬ a2 = 0 then (
      some (a0 - (2 : Int32), h))
    else (
      some (a0, h)))
theorem sX10_share {n : Nat} {h : ai_H} {a0 : Int32} {a1 : Int32} {a2 : Int32} {q : Int32 × ai_H} (hh : fX10_share n h a0 a1 a2 = some q) : bi_sp 1 129 [.int a0, .int a1, .int a2] h n (fI n q) := by
  refine bi_en (D := 0) (T := tX10_share) (funext fun pc => rfl) rfl (Nat.le_of_ble_eq_true rfl) ?_
  unfold fX10_share at hh
  refine go_il (pc := 0) rfl (rfl : ai_ld 1 (lv_args 0 [.int a0, .int a1, .int a2]) = some (.int a1)) ?_
  refine bi_ite hh (fun hc hh => ?_) (fun hc hh => ?_)
  · refine go_ifneT (pc := 1) rfl hc ?_
    refine go_il (pc := 16) rfl (rfl : ai_ld 2 (lv_args 0 [.int a0, .int a1, .int a2]) = some (.int a2)) ?_
    refine bi_ite hh (fun hc hh => ?_) (fun hc hh => ?_)
    · refine go_ifneT (pc := 17) rfl hc ?_
      refine go_pi (pc := 26) rfl ?_
      exact go_ri (pc := 27) rfl hh
    · refine go_ifneF (pc := 17) rfl hc ?_
      refine go_il (pc := 20) rfl (rfl : ai_ld 0 (lv_args 0 [.int a0, .int a1, .int a2]) = some (.int a0)) ?_
      refine go_pi (pc := 21) rfl ?_
      refine go_iadd (pc := 22) rfl ?_
      refine go_goto (pc := 23) rfl ?_
      exact go_ri (pc := 27) rfl hh
  · refine go_ifneF (pc := 1) rfl hc ?_
    refine go_il (pc := 4) rfl (rfl : ai_ld 2 (lv_args 0 [.int a0, .int a1, .int a2]) = some (.int a2)) ?_
    refine bi_ite hh (fun hc hh => ?_) (fun hc hh => ?_)
    · refine go_ifneT (pc := 5) rfl hc ?_
      refine go_il (pc := 12) rfl (rfl : ai_ld 0 (lv_args 0 [.int a0, .int a1, .int a2]) = some (.int a0)) ?_
      refine go_pi (pc := 13) rfl ?_
      refine go_isub (pc := 14) rfl ?_
      exact go_ri (pc := 15) rfl hh
    · refine go_ifneF (pc := 5) rfl hc ?_
      refine go_il (pc := 8) rfl (rfl : ai_ld 0 (lv_args 0 [.int a0, .int a1, .int a2]) = some (.int a0)) ?_
      refine go_goto (pc := 9) rfl ?_
      exact go_ri (pc := 15) rfl hh
def fX10_isRest (n : Nat) (h : ai_H) (a0 : Nat) (a1 : Int32) (a2 : Int32) (a3 : Int32) : Option (Int32 × ai_H) :=
  (kO n h a0 10).bind fun _ =>
  (pR n h a0 10 3).bind fun x1 =>
  (pR n h x1 8 2).bind fun x2 =>
  (fX6_cell n h x2 a1 (1 : Int32)).bind fun q3 =>
  (pR n q3.2 a0 10 3).bind fun x4 =>
  (pR n q3.2 x4 8 2).bind fun x5 =>
  (fX6_cell n q3.2 x5 a2 (1 : Int32)).bind fun q6 =>
  (fX10_share n q6.2 q3.1 (a3 >>> ((1 : Int32) &&& 31)) (a3 &&& (1 : Int32))).bind fun q7 =>
  (fX10_share n q7.2 q3.1 ((1 : Int32) - (a3 >>> ((1 : Int32) &&& 31))) (a3 &&& (1 : Int32))).bind fun q8 =>
  if q7.1 < q8.1 then (
    some ((0 : Int32), q8.2))
  else (
    (fX10_share n q8.2 q6.1 (a3 &&& (1 : Int32)) (a3 >>> ((1 : Int32) &&& 31))).bind fun q9 =>
    (fX10_share n q9.2 q6.1 ((1 : Int32) - (a3 &&& (1 : Int32))) (a3 >>> ((1 : Int32) &&& 31))).bind fun q10 =>
    if q9.1 < q10.1 then (
      some ((0 : Int32), q10.2))
    else (
      some ((1 : Int32), q10.2)))
theorem gX10_isRest {n : Nat} {h : ai_H} {a0 : Nat} {a1 : Int32} {a2 : Int32} {a3 : Int32} {q : Int32 × ai_H} (hh : fX10_isRest n h a0 a1 a2 a3 = some q) : kO n h a0 10 = some () := by
  obtain ⟨_, e, -⟩ := bi_bd hh
  exact e
theorem sX10_isRest {n : Nat} {h : ai_H} {a0 : Nat} {a1 : Int32} {a2 : Int32} {a3 : Int32} {q : Int32 × ai_H} (hh : fX10_isRest n h a0 a1 a2 a3 = some q) : bi_sp 2 128 [.ref a0, .int a1, .int a2, .int a3] h n (fI n q) := by
  refine bi_en (D := 1) (T := tX10_isRest) (funext fun pc => rfl) rfl (Nat.le_of_ble_eq_true rfl) ?_
  unfold fX10_isRest at hh
  obtain ⟨_, eO, hh⟩ := bi_bd hh
  refine go_il (pc := 0) rfl (rfl : ai_ld 3 (lv_args 0 [.ref a0, .int a1, .int a2, .int a3]) = some (.int a3)) ?_
  refine go_pi (pc := 1) rfl ?_
  refine go_ishr (pc := 2) rfl ?_
  refine go_is (pc := 3) rfl ?_
  refine go_il (pc := 5) rfl (bi_k1 (rfl : ai_ld 3 (lv_args 0 [.ref a0, .int a1, .int a2, .int a3]) = some (.int a3)) rfl rfl) ?_
  refine go_pi (pc := 6) rfl ?_
  refine go_iand (pc := 7) rfl ?_
  refine go_is (pc := 8) rfl ?_
  refine go_al (pc := 10) rfl (bi_k1 (bi_k1 (rfl : ai_ld 0 (lv_args 0 [.ref a0, .int a1, .int a2, .int a3]) = some (.ref a0)) rfl rfl) rfl rfl) ?_
  obtain ⟨x1, ex1, hh⟩ := bi_bd hh
  refine go_gfR (pc := 11) rfl ex1 ?_
  obtain ⟨x2, ex2, hh⟩ := bi_bd hh
  refine go_gfR (pc := 14) rfl ex2 ?_
  refine go_il (pc := 17) rfl (bi_k1 (bi_k1 (rfl : ai_ld 1 (lv_args 0 [.ref a0, .int a1, .int a2, .int a3]) = some (.int a1)) rfl rfl) rfl rfl) ?_
  refine go_pi (pc := 18) rfl ?_
  obtain ⟨q3, eq3, hh⟩ := bi_bd hh
  refine go_ivI (pc := 19) rfl rfl (gX6_cell eq3) (Nat.le_of_ble_eq_true rfl) (bi_up (sX6_cell eq3) (Nat.le_of_ble_eq_true rfl)) ?_
  refine go_is (pc := 22) rfl ?_
  refine go_al (pc := 24) rfl (bi_k1 (bi_k1 (bi_k1 (rfl : ai_ld 0 (lv_args 0 [.ref a0, .int a1, .int a2, .int a3]) = some (.ref a0)) rfl rfl) rfl rfl) rfl rfl) ?_
  obtain ⟨x4, ex4, hh⟩ := bi_bd hh
  refine go_gfR (pc := 25) rfl ex4 ?_
  obtain ⟨x5, ex5, hh⟩ := bi_bd hh
  refine go_gfR (pc := 28) rfl ex5 ?_
  refine go_il (pc := 31) rfl (bi_k1 (bi_k1 (bi_k1 (rfl : ai_ld 2 (lv_args 0 [.ref a0, .int a1, .int a2, .int a3]) = some (.int a2)) rfl rfl) rfl rfl) rfl rfl) ?_
  refine go_pi (pc := 32) rfl ?_
  obtain ⟨q6, eq6, hh⟩ := bi_bd hh
  refine go_ivI (pc := 33) rfl rfl (gX6_cell eq6) (Nat.le_of_ble_eq_true rfl) (bi_up (sX6_cell eq6) (Nat.le_of_ble_eq_true rfl)) ?_
  refine go_is (pc := 36) rfl ?_
  refine go_il (pc := 38) rfl (bi_k1 bi_e1 rfl rfl) ?_
  refine go_il (pc := 40) rfl (bi_k1 (bi_k1 (bi_k1 bi_e1 rfl rfl) rfl rfl) rfl rfl) ?_
  refine go_il (pc := 42) rfl (bi_k1 (bi_k1 bi_e1 rfl rfl) rfl rfl) ?_
  obtain ⟨q7, eq7, hh⟩ := bi_bd hh
  refine go_iSI (pc := 44) rfl (Nat.le_of_ble_eq_true rfl) rfl (Nat.le_of_ble_eq_true rfl) (bi_up (sX10_share eq7) (Nat.le_of_ble_eq_true rfl)) ?_
  refine go_il (pc := 47) rfl (bi_k1 bi_e1 rfl rfl) ?_
  refine go_pi (pc := 49) rfl ?_
  refine go_il (pc := 50) rfl (bi_k1 (bi_k1 (bi_k1 bi_e1 rfl rfl) rfl rfl) rfl rfl) ?_
  refine go_isub (pc := 52) rfl ?_
  refine go_il (pc := 53) rfl (bi_k1 (bi_k1 bi_e1 rfl rfl) rfl rfl) ?_
  obtain ⟨q8, eq8, hh⟩ := bi_bd hh
  refine go_iSI (pc := 55) rfl (Nat.le_of_ble_eq_true rfl) rfl (Nat.le_of_ble_eq_true rfl) (bi_up (sX10_share eq8) (Nat.le_of_ble_eq_true rfl)) ?_
  refine bi_ite hh (fun hc hh => ?_) (fun hc hh => ?_)
  · refine go_cmpltT (pc := 58) rfl hc ?_
    refine go_pi (pc := 88) rfl ?_
    exact go_rz (pc := 89) rfl bi_z0 hh
  · refine go_cmpltF (pc := 58) rfl hc ?_
    refine go_il (pc := 61) rfl bi_e1 ?_
    refine go_il (pc := 63) rfl (bi_k1 (bi_k1 bi_e1 rfl rfl) rfl rfl) ?_
    refine go_il (pc := 65) rfl (bi_k1 (bi_k1 (bi_k1 bi_e1 rfl rfl) rfl rfl) rfl rfl) ?_
    obtain ⟨q9, eq9, hh⟩ := bi_bd hh
    refine go_iSI (pc := 67) rfl (Nat.le_of_ble_eq_true rfl) rfl (Nat.le_of_ble_eq_true rfl) (bi_up (sX10_share eq9) (Nat.le_of_ble_eq_true rfl)) ?_
    refine go_il (pc := 70) rfl bi_e1 ?_
    refine go_pi (pc := 72) rfl ?_
    refine go_il (pc := 73) rfl (bi_k1 (bi_k1 bi_e1 rfl rfl) rfl rfl) ?_
    refine go_isub (pc := 75) rfl ?_
    refine go_il (pc := 76) rfl (bi_k1 (bi_k1 (bi_k1 bi_e1 rfl rfl) rfl rfl) rfl rfl) ?_
    obtain ⟨q10, eq10, hh⟩ := bi_bd hh
    refine go_iSI (pc := 78) rfl (Nat.le_of_ble_eq_true rfl) rfl (Nat.le_of_ble_eq_true rfl) (bi_up (sX10_share eq10) (Nat.le_of_ble_eq_true rfl)) ?_
    refine bi_ite hh (fun hc hh => ?_) (fun hc hh => ?_)
    · refine go_cmpltT (pc := 81) rfl hc ?_
      refine go_pi (pc := 88) rfl ?_
      exact go_rz (pc := 89) rfl bi_z0 hh
    · refine go_cmpltF (pc := 81) rfl hc ?_
      refine go_pi (pc := 84) rfl ?_
      refine go_goto (pc := 85) rfl ?_
      exact go_rz (pc := 89) rfl bi_z1 hh
