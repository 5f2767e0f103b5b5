/-! ===== methods as functions, part 11 ===== -/
def fX10_rests_36 (n : Nat) (r16 : ai_H → Nat → Int32 → Int32 → Int32 → Int32 → Option (Int32 × ai_H)) (h : ai_H) (v0 : Nat) (v1 : Int32) (v2 : Int32) (v3 : Int32) (v4 : Int32) : Option (Int32 × ai_H) :=
  r16 h v0 v1 v2 v3 (v4 + 1)
theorem sX10_rests_36 {n : Nat} {r16 : ai_H → Nat → Int32 → Int32 → Int32 → Int32 → Option (Int32 × ai_H)} {q : Int32 × ai_H} {h : ai_H} {v0 : Nat} {v1 : Int32} {v2 : Int32} {v3 : Int32} {v4 : Int32} {lv : ai_L} (R16 : ∀ (h : ai_H) (v0 : Nat) (v1 : Int32) (v2 : Int32) (v3 : Int32) (v4 : Int32) (lv : ai_L), ai_ld 0 lv = some (.ref v0) → ai_ld 1 lv = some (.int v1) → ai_ld 2 lv = some (.int v2) → ai_ld 3 lv = some (.int v3) → ai_ld 4 lv = some (.int v4) → r16 h v0 v1 v2 v3 v4 = some q → bi_go 2 tX10_rests n (fI n q) 16 lv [] h) (l0 : ai_ld 0 lv = some (.ref v0)) (l1 : ai_ld 1 lv = some (.int v1)) (l2 : ai_ld 2 lv = some (.int v2)) (l3 : ai_ld 3 lv = some (.int v3)) (l4 : ai_ld 4 lv = some (.int v4)) (hh : fX10_rests_36 n r16 h v0 v1 v2 v3 v4 = some q) : bi_go 2 tX10_rests n (fI n q) 36 lv [] h := by
  unfold fX10_rests_36 at hh
  refine go_inc (pc := 36) rfl l4 ?_
  refine go_goto (pc := 39) rfl ?_
  exact R16 _ _ _ _ _ _ _ (bi_k1 l0 rfl rfl) (bi_k1 l1 rfl rfl) (bi_k1 l2 rfl rfl) (bi_k1 l3 rfl rfl) bi_e1 hh
def fX10_rests_16b (n : Nat) (r16 : ai_H → Nat → Int32 → Int32 → Int32 → Int32 → Option (Int32 × ai_H)) (h : ai_H) (v0 : Nat) (v1 : Int32) (v2 : Int32) (v3 : Int32) (v4 : Int32) : Option (Int32 × ai_H) :=
  if (4 : Int32) ≤ v4 then (
    some (v3, h))
  else (
    (fX10_isRest n h v0 v1 v2 v4).bind fun q1 =>
    if q1.1 = 0 then (
      fX10_rests_36 n r16 q1.2 v0 v1 v2 v3 v4)
    else (
      fX10_rests_36 n r16 q1.2 v0 v1 v2 (v3 + 1) v4))
theorem sX10_rests_16b {n : Nat} {r16 : ai_H → Nat → Int32 → Int32 → Int32 → Int32 → Option (Int32 × ai_H)} {q : Int32 × ai_H} {h : ai_H} {v0 : Nat} {v1 : Int32} {v2 : Int32} {v3 : Int32} {v4 : Int32} {lv : ai_L} (R16 : ∀ (h : ai_H) (v0 : Nat) (v1 : Int32) (v2 : Int32) (v3 : Int32) (v4 : Int32) (lv : ai_L), ai_ld 0 lv = some (.ref v0) → ai_ld 1 lv = some (.int v1) → ai_ld 2 lv = some (.int v2) → ai_ld 3 lv = some (.int v3) → ai_ld 4 lv = some (.int v4) → r16 h v0 v1 v2 v3 v4 = some q → bi_go 2 tX10_rests n (fI n q) 16 lv [] h) (l0 : ai_ld 0 lv = some (.ref v0)) (l1 : ai_ld 1 lv = some (.int v1)) (l2 : ai_ld 2 lv = some (.int v2)) (l3 : ai_ld 3 lv = some (.int v3)) (l4 : ai_ld 4 lv = some (.int v4)) (hh : fX10_rests_16b n r16 h v0 v1 v2 v3 v4 = some q) : bi_go 2 tX10_rests n (fI n q) 16 lv [] h := by
  unfold fX10_rests_16b at hh
  refine go_il (pc := 16) rfl l4 ?_
  refine go_pi (pc := 18) rfl ?_
  refine bi_ite hh (fun hc hh => ?_) (fun hc hh => ?_)
  · refine go_cmpgeT (pc := 19) rfl hc ?_
    refine go_il (pc := 42) rfl l3 ?_
    exact go_ri (pc := 43) rfl hh
  · refine go_cmpgeF (pc := 19) rfl hc ?_
    refine go_al (pc := 22) rfl l0 ?_
    refine go_il (pc := 23) rfl l1 ?_
    refine go_il (pc := 24) rfl l2 ?_
    refine go_il (pc := 25) rfl l4 ?_
    obtain ⟨q1, eq1, hh⟩ := bi_bd hh
    refine go_ivI (pc := 27) rfl rfl (gX10_isRest eq1) (Nat.le_of_ble_eq_true rfl) (bi_up (sX10_isRest eq1) (Nat.le_of_ble_eq_true rfl)) ?_
    refine bi_ite hh (fun hc hh => ?_) (fun hc hh => ?_)
    · refine go_ifeqT (pc := 30) rfl hc ?_
      exact sX10_rests_36 R16 l0 l1 l2 l3 l4 hh
    · refine go_ifeqF (pc := 30) rfl hc ?_
      refine go_inc (pc := 33) rfl l3 ?_
      exact sX10_rests_36 R16 (bi_k1 l0 rfl rfl) (bi_k1 l1 rfl rfl) (bi_k1 l2 rfl rfl) bi_e1 (bi_k1 l4 rfl rfl) hh
def fX10_rests_16 (n : Nat) : Nat → ai_H → Nat → Int32 → Int32 → Int32 → Int32 → Option (Int32 × ai_H)
  | 0 => fun _ _ _ _ _ _ => none
  | k + 1 => fun h v0 v1 v2 v3 v4 => fX10_rests_16b n (fX10_rests_16 n k) h v0 v1 v2 v3 v4
theorem sX10_rests_16 {n : Nat} {q : Int32 × ai_H} : ∀ (k : Nat) (h : ai_H) (v0 : Nat) (v1 : Int32) (v2 : Int32) (v3 : Int32) (v4 : Int32) (lv : ai_L), ai_ld 0 lv = some (.ref v0) → ai_ld 1 lv = some (.int v1) → ai_ld 2 lv = some (.int v2) → ai_ld 3 lv = some (.int v3) → ai_ld 4 lv = some (.int v4) → fX10_rests_16 n k h v0 v1 v2 v3 v4 = some q → bi_go 2 tX10_rests n (fI n q) 16 lv [] h
  | 0 => fun _ _ _ _ _ _ _ _ _ _ _ _ hh => by cases hh
  | k + 1 => fun h v0 v1 v2 v3 v4 lv l0 l1 l2 l3 l4 hh => sX10_rests_16b  (sX10_rests_16  k) l0 l1 l2 l3 l4 hh
def fX10_rests (n : Nat) (h : ai_H) (a0 : Nat) (a1 : Int32) (a2 : Int32) : Option (Int32 × ai_H) :=
  (kO n h a0 10).bind fun _ =>
  (fX10_isPair n h a0 a1 a2).bind fun q1 =>
  if ¬ q1.1 = 0 then (
    fX10_rests_16 n bi_K q1.2 a0 a1 a2 (0 : Int32) (0 : Int32))
  else (
    some ((-1 : Int32), q1.2))
theorem gX10_rests {n : Nat} {h : ai_H} {a0 : Nat} {a1 : Int32} {a2 : Int32} {q : Int32 × ai_H} (hh : fX10_rests n h a0 a1 a2 = some q) : kO n h a0 10 = some () := by
  obtain ⟨_, e, -⟩ := bi_bd hh
  exact e
theorem sX10_rests {n : Nat} {h : ai_H} {a0 : Nat} {a1 : Int32} {a2 : Int32} {q : Int32 × ai_H} (hh : fX10_rests n h a0 a1 a2 = some q) : bi_sp 3 126 [.ref a0, .int a1, .int a2] h n (fI n q) := by
  refine bi_en (D := 2) (T := tX10_rests) (funext fun pc => rfl) rfl (Nat.le_of_ble_eq_true rfl) ?_
  unfold fX10_rests at hh
  obtain ⟨_, eO, hh⟩ := bi_bd hh
  refine go_al (pc := 0) rfl (rfl : ai_ld 0 (lv_args 0 [.ref a0, .int a1, .int a2]) = some (.ref a0)) ?_
  refine go_il (pc := 1) rfl (rfl : ai_ld 1 (lv_args 0 [.ref a0, .int a1, .int a2]) = some (.int a1)) ?_
  refine go_il (pc := 2) rfl (rfl : ai_ld 2 (lv_args 0 [.ref a0, .int a1, .int a2]) = some (.int a2)) ?_
  obtain ⟨q1, eq1, hh⟩ := bi_bd hh
  refine go_ivI (pc := 3) rfl rfl (gX10_isPair eq1) (Nat.le_of_ble_eq_true rfl) (bi_up (sX10_isPair eq1) (Nat.le_of_ble_eq_true rfl)) ?_
  refine bi_ite hh (fun hc hh => ?_) (fun hc hh => ?_)
  · refine go_ifneT (pc := 6) rfl hc ?_
    refine go_pi (pc := 11) rfl ?_
    refine go_is (pc := 12) rfl ?_
    refine go_pi (pc := 13) rfl ?_
    refine go_is (pc := 14) rfl ?_
    exact sX10_rests_16  _ _ _ _ _ _ _ _ (bi_k1 (bi_k1 (rfl : ai_ld 0 (lv_args 0 [.ref a0, .int a1, .int a2]) = some (.ref a0)) rfl rfl) rfl rfl) (bi_k1 (bi_k1 (rfl : ai_ld 1 (lv_args 0 [.ref a0, .int a1, .int a2]) = some (.int a1)) rfl rfl) rfl rfl) (bi_k1 (bi_k1 (rfl : ai_ld 2 (lv_args 0 [.ref a0, .int a1, .int a2]) = some (.int a2)) rfl rfl) rfl rfl) (bi_k1 bi_e1 rfl rfl) bi_e1 hh
  · refine go_ifneF (pc := 6) rfl hc ?_
    refine go_pi (pc := 9) rfl ?_
    exact go_ri (pc := 10) rfl hh
def fX10_rest_60 (n : Nat) (r21 : ai_H → Nat → Int32 → Int32 → Int32 → Int32 → Int32 → Option (Int32 × ai_H)) (h : ai_H) (v0 : Nat) (v1 : Int32) (v2 : Int32) (v3 : Int32) (v4 : Int32) (v5 : Int32) : Option (Int32 × ai_H) :=
  r21 h v0 v1 v2 v3 v4 (v5 + 1)
theorem sX10_rest_60 {n : Nat} {r21 : ai_H → Nat → Int32 → Int32 → Int32 → Int32 → Int32 → Option (Int32 × ai_H)} {q : Int32 × ai_H} {h : ai_H} {v0 : Nat} {v1 : Int32} {v2 : Int32} {v3 : Int32} {v4 : Int32} {v5 : Int32} {lv : ai_L} (R21 : ∀ (h : ai_H) (v0 : Nat) (v1 : Int32) (v2 : Int32) (v3 : Int32) (v4 : Int32) (v5 : Int32) (lv : ai_L), ai_ld 0 lv = some (.ref v0) → ai_ld 1 lv = some (.int v1) → ai_ld 2 lv = some (.int v2) → ai_ld 3 lv = some (.int v3) → ai_ld 4 lv = some (.int v4) → ai_ld 5 lv = some (.int v5) → r21 h v0 v1 v2 v3 v4 v5 = some q → bi_go 2 tX10_rest n (fI n q) 21 lv [] h) (l0 : ai_ld 0 lv = some (.ref v0)) (l1 : ai_ld 1 lv = some (.int v1)) (l2 : ai_ld 2 lv = some (.int v2)) (l3 : ai_ld 3 lv = some (.int v3)) (l4 : ai_ld 4 lv = some (.int v4)) (l5 : ai_ld 5 lv = some (.int v5)) (hh : fX10_rest_60 n r21 h v0 v1 v2 v3 v4 v5 = some q) : bi_go 2 tX10_rest n (fI n q) 60 lv [] h := by
  unfold fX10_rest_60 at hh
  refine go_inc (pc := 60) rfl l5 ?_
  refine go_goto (pc := 63) rfl ?_
  exact R21 _ _ _ _ _ _ _ _ (bi_k1 l0 rfl rfl) (bi_k1 l1 rfl rfl) (bi_k1 l2 rfl rfl) (bi_k1 l3 rfl rfl) (bi_k1 l4 rfl rfl) bi_e1 hh
def fX10_rest_21b (n : Nat) (r21 : ai_H → Nat → Int32 → Int32 → Int32 → Int32 → Int32 → Option (Int32 × ai_H)) (h : ai_H) (v0 : Nat) (v1 : Int32) (v2 : Int32) (v3 : Int32) (v4 : Int32) (v5 : Int32) : Option (Int32 × ai_H) :=
  if (4 : Int32) ≤ v5 then (
    some ((-2 : Int32), h))
  else (
    (fX10_isRest n h v0 v1 v2 v5).bind fun q1 =>
    if q1.1 = 0 then (
      fX10_rest_60 n r21 q1.2 v0 v1 v2 v3 v4 v5)
    else (
      if ¬ v4 = v3 then (
        fX10_rest_60 n r21 q1.2 v0 v1 v2 v3 (v4 + 1) v5)
      else (
        some (((10 : Int32) * (v5 >>> ((1 : Int32) &&& 31))) + (v5 &&& (1 : Int32)), q1.2))))
theorem sX10_rest_21b {n : Nat} {r21 : ai_H → Nat → Int32 → Int32 → Int32 → Int32 → Int32 → Option (Int32 × ai_H)} {q : Int32 × ai_H} {h : ai_H} {v0 : Nat} {v1 : Int32} {v2 : Int32} {v3 : Int32} {v4 : Int32} {v5 : Int32} {lv : ai_L} (R21 : ∀ (h : ai_H) (v0 : Nat) (v1 : Int32) (v2 : Int32) (v3 : Int32) (v4 : Int32) (v5 : Int32) (lv : ai_L), ai_ld 0 lv = some (.ref v0) → ai_ld 1 lv = some (.int v1) → ai_ld 2 lv = some (.int v2) → ai_ld 3 lv = some (.int v3) → ai_ld 4 lv = some (.int v4) → ai_ld 5 lv = some (.int v5) → r21 h v0 v1 v2 v3 v4 v5 = some q → bi_go 2 tX10_rest n (fI n q) 21 lv [] h) (l0 : ai_ld 0 lv = some (.ref v0)) (l1 : ai_ld 1 lv = some (.int v1)) (l2 : ai_ld 2 lv = some (.int v2)) (l3 : ai_ld 3 lv = some (.int v3)) (l4 : ai_ld 4 lv = some (.int v4)) (l5 : ai_ld 5 lv = some (.int v5)) (hh : fX10_rest_21b n r21 h v0 v1 v2 v3 v4 v5 = some q) : bi_go 2 tX10_rest n (fI n q) 21 lv [] h := by
  unfold fX10_rest_21b at hh
  refine go_il (pc := 21) rfl l5 ?_
  refine go_pi (pc := 23) rfl ?_
  refine bi_ite hh (fun hc hh => ?_) (fun hc hh => ?_)
  · refine go_cmpgeT (pc := 24) rfl hc ?_
    refine go_pi (pc := 66) rfl ?_
    exact go_ri (pc := 68) rfl hh
  · refine go_cmpgeF (pc := 24) rfl hc ?_
    refine go_al (pc := 27) rfl l0 ?_
    refine go_il (pc := 28) rfl l1 ?_
    refine go_il (pc := 29) rfl l2 ?_
    refine go_il (pc := 30) rfl l5 ?_
    obtain ⟨q1, eq1, hh⟩ := bi_bd hh
    refine go_ivI (pc := 32) rfl rfl (gX10_isRest eq1) (Nat.le_of_ble_eq_true rfl) (bi_up (sX10_isRest eq1) (Nat.le_of_ble_eq_true rfl)) ?_
    refine bi_ite hh (fun hc hh => ?_) (fun hc hh => ?_)
    · refine go_ifeqT (pc := 35) rfl hc ?_
      exact sX10_rest_60 R21 l0 l1 l2 l3 l4 l5 hh
    · refine go_ifeqF (pc := 35) rfl hc ?_
      refine go_il (pc := 38) rfl l4 ?_
      refine go_il (pc := 40) rfl l3 ?_
      refine bi_ite hh (fun hc hh => ?_) (fun hc hh => ?_)
      · refine go_cmpneT (pc := 41) rfl hc ?_
        refine go_inc (pc := 57) rfl l4 ?_
        exact sX10_rest_60 R21 (bi_k1 l0 rfl rfl) (bi_k1 l1 rfl rfl) (bi_k1 l2 rfl rfl) (bi_k1 l3 rfl rfl) bi_e1 (bi_k1 l5 rfl rfl) hh
      · refine go_cmpneF (pc := 41) rfl hc ?_
        refine go_pi (pc := 44) rfl ?_
        refine go_il (pc := 46) rfl l5 ?_
        refine go_pi (pc := 48) rfl ?_
        refine go_ishr (pc := 49) rfl ?_
        refine go_imul (pc := 50) rfl ?_
        refine go_il (pc := 51) rfl l5 ?_
        refine go_pi (pc := 53) rfl ?_
        refine go_iand (pc := 54) rfl ?_
        refine go_iadd (pc := 55) rfl ?_
        exact go_ri (pc := 56) rfl hh
def fX10_rest_21 (n : Nat) : Nat → ai_H → Nat → Int32 → Int32 → Int32 → Int32 → Int32 → Option (Int32 × ai_H)
  | 0 => fun _ _ _ _ _ _ _ => none
  | k + 1 => fun h v0 v1 v2 v3 v4 v5 => fX10_rest_21b n (fX10_rest_21 n k) h v0 v1 v2 v3 v4 v5
theorem sX10_rest_21 {n : Nat} {q : Int32 × ai_H} : ∀ (k : Nat) (h : ai_H) (v0 : Nat) (v1 : Int32) (v2 : Int32) (v3 : Int32) (v4 : Int32) (v5 : Int32) (lv : ai_L), ai_ld 0 lv = some (.ref v0) → ai_ld 1 lv = some (.int v1) → ai_ld 2 lv = some (.int v2) → ai_ld 3 lv = some (.int v3) → ai_ld 4 lv = some (.int v4) → ai_ld 5 lv = some (.int v5) → fX10_rest_21 n k h v0 v1 v2 v3 v4 v5 = some q → bi_go 2 tX10_rest n (fI n q) 21 lv [] h
  | 0 => fun _ _ _ _ _ _ _ _ _ _ _ _ _ _ hh => by cases hh
  | k + 1 => fun h v0 v1 v2 v3 v4 v5 lv l0 l1 l2 l3 l4 l5 hh => sX10_rest_21b  (sX10_rest_21  k) l0 l1 l2 l3 l4 l5 hh
def fX10_rest (n : Nat) (h : ai_H) (a0 : Nat) (a1 : Int32) (a2 : Int32) (a3 : Int32) : Option (Int32 × ai_H) :=
  (kO n h a0 10).bind fun _ =>
  (fX10_isPair n h a0 a1 a2).bind fun q1 =>
  if q1.1 = 0 then (
    some ((-1 : Int32), q1.2))
  else (
    if 0 ≤ a3 then (
      fX10_rest_21 n bi_K q1.2 a0 a1 a2 a3 (0 : Int32) (0 : Int32))
    else (
      some ((-1 : Int32), q1.2)))
theorem gX10_rest {n : Nat} {h : ai_H} {a0 : Nat} {a1 : Int32} {a2 : Int32} {a3 : Int32} {q : Int32 × ai_H} (hh : fX10_rest n h a0 a1 a2 a3 = some q) : kO n h a0 10 = some () := by
  obtain ⟨_, e, -⟩ := bi_bd hh
  exact e
theorem sX10_rest {n : Nat} {h : ai_H} {a0 : Nat} {a1 : Int32} {a2 : Int32} {a3 : Int32} {q : Int32 × ai_H} (hh : fX10_rest n h a0 a1 a2 a3 = some q) : bi_sp 3 127 [.ref a0, .int a1, .int a2, .int a3] h n (fI n q) := by
  refine bi_en (D := 2) (T := tX10_rest) (funext fun pc => rfl) rfl (Nat.le_of_ble_eq_true rfl) ?_
  unfold fX10_rest at hh
  obtain ⟨_, eO, hh⟩ := bi_bd hh
  refine go_al (pc := 0) rfl (rfl : ai_ld 0 (lv_args 0 [.ref a0, .int a1, .int a2, .int a3]) = some (.ref a0)) ?_
  refine go_il (pc := 1) rfl (rfl : ai_ld 1 (lv_args 0 [.ref a0, .int a1, .int a2, .int a3]) = some (.int a1)) ?_
  refine go_il (pc := 2) rfl (rfl : ai_ld 2 (lv_args 0 [.ref a0, .int a1, .int a2, .int a3]) = some (.int a2)) ?_
  obtain ⟨q1, eq1, hh⟩ := bi_bd hh
  refine go_ivI (pc := 3) rfl rfl (gX10_isPair eq1) (Nat.le_of_ble_eq_true rfl) (bi_up (sX10_isPair eq1) (Nat.le_of_ble_eq_true rfl)) ?_
  refine bi_ite hh (fun hc hh => ?_) (fun hc hh => ?_)
  · refine go_ifeqT (pc := 6) rfl hc ?_
    refine go_pi (pc := 13) rfl ?_
    exact go_ri (pc := 14) rfl hh
  · refine go_ifeqF (pc := 6) rfl hc ?_
    refine go_il (pc := 9) rfl (rfl : ai_ld 3 (lv_args 0 [.ref a0, .int a1, .int a2, .int a3]) = some (.int a3)) ?_
    refine bi_ite hh (fun hc hh => ?_) (fun hc hh => ?_)
    · refine go_ifgeT (pc := 10) rfl hc ?_
      refine go_pi (pc := 15) rfl ?_
      refine go_is (pc := 16) rfl ?_
      refine go_pi (pc := 18) rfl ?_
      refine go_is (pc := 19) rfl ?_
      exact sX10_rest_21  _ _ _ _ _ _ _ _ _ (bi_k1 (bi_k1 (rfl : ai_ld 0 (lv_args 0 [.ref a0, .int a1, .int a2, .int a3]) = some (.ref a0)) rfl rfl) rfl rfl) (bi_k1 (bi_k1 (rfl : ai_ld 1 (lv_args 0 [.ref a0, .int a1, .int a2, .int a3]) = some (.int a1)) rfl rfl) rfl rfl) (bi_k1 (bi_k1 (rfl : ai_ld 2 (lv_args 0 [.ref a0, .int a1, .int a2, .int a3]) = some (.int a2)) rfl rfl) rfl rfl) (bi_k1 (bi_k1 (rfl : ai_ld 3 (lv_args 0 [.ref a0, .int a1, .int a2, .int a3]) = some (.int a3)) rfl rfl) rfl rfl) (bi_k1 bi_e1 rfl rfl) bi_e1 hh
    · refine go_ifgeF (pc := 10) rfl hc ?_
      refine go_pi (pc := 13) rfl ?_
      exact go_ri (pc := 14) rfl hh
def fX10_tries_20b (n : Nat) (r20 : ai_H → Nat → Int32 → Int64 → Int64 → Int32 → Option (Int32 × ai_H)) (h : ai_H) (v0 : Nat) (v1 : Int32) (v2 : Int64) (v4 : Int64) (v6 : Int32) : Option (Int32 × ai_H) :=
  if (8 : Int32) < v6 then (
    some ((-2 : Int32), h))
  else (
    (pR n h v0 10 3).bind fun x1 =>
    (pI n h x1 8 7).bind fun x2 =>
    if (lg_cmp (((v2 * (100 : Int64)) - (v4 * x2.toInt64)) * (100 : Int64)) (v1.toInt64 * (v2 * (100 : Int64)))) < 0 then (
      r20 h v0 v1 (v2 * (100 : Int64)) (v4 * x2.toInt64) (v6 + 1))
    else (
      some (v6, h)))
theorem sX10_tries_20b {n : Nat} {r20 : ai_H → Nat → Int32 → Int64 → Int64 → Int32 → Option (Int32 × ai_H)} {q : Int32 × ai_H} {h : ai_H} {v0 : Nat} {v1 : Int32} {v2 : Int64} {v4 : Int64} {v6 : Int32} {lv : ai_L} (R20 : ∀ (h : ai_H) (v0 : Nat) (v1 : Int32) (v2 : Int64) (v4 : Int64) (v6 : Int32) (lv : ai_L), ai_ld 0 lv = some (.ref v0) → ai_ld 1 lv = some (.int v1) → ai_ld 2 lv = some (.long v2) → ai_ld 4 lv = some (.long v4) → ai_ld 6 lv = some (.int v6) → r20 h v0 v1 v2 v4 v6 = some q → bi_go 1 tX10_tries n (fI n q) 20 lv [] h) (l0 : ai_ld 0 lv = some (.ref v0)) (l1 : ai_ld 1 lv = some (.int v1)) (l2 : ai_ld 2 lv = some (.long v2)) (l4 : ai_ld 4 lv = some (.long v4)) (l6 : ai_ld 6 lv = some (.int v6)) (hh : fX10_tries_20b n r20 h v0 v1 v2 v4 v6 = some q) : bi_go 1 tX10_tries n (fI n q) 20 lv [] h := by
  unfold fX10_tries_20b at hh
  refine go_il (pc := 20) rfl l6 ?_
  refine go_pi (pc := 22) rfl ?_
  refine bi_ite hh (fun hc hh => ?_) (fun hc hh => ?_)
  · refine go_cmpgtT (pc := 24) rfl hc ?_
    refine go_pi (pc := 71) rfl ?_
    exact go_ri (pc := 73) rfl hh
  · refine go_cmpgtF (pc := 24) rfl hc ?_
    refine go_ll (pc := 27) rfl l2 ?_
    refine go_pl (pc := 28) rfl ?_
    refine go_lmul (pc := 31) rfl ?_
    refine go_lst (pc := 32) rfl ?_
    refine go_ll (pc := 33) rfl (bi_k2L l4 rfl rfl rfl) ?_
    refine go_al (pc := 35) rfl (bi_k2 l0 rfl rfl rfl) ?_
    obtain ⟨x1, ex1, hh⟩ := bi_bd hh
    refine go_gfR (pc := 36) rfl ex1 ?_
    obtain ⟨x2, ex2, hh⟩ := bi_bd hh
    refine go_gfI (pc := 39) rfl ex2 ?_
    refine go_i2l (pc := 42) rfl ?_
    refine go_lmul (pc := 43) rfl ?_
    refine go_lst (pc := 44) rfl ?_
    refine go_ll (pc := 46) rfl (bi_k2L bi_e2 rfl rfl rfl) ?_
    refine go_ll (pc := 47) rfl bi_e2 ?_
    refine go_lsub (pc := 49) rfl ?_
    refine go_pl (pc := 50) rfl ?_
    refine go_lmul (pc := 53) rfl ?_
    refine go_il (pc := 54) rfl (bi_k2 (bi_k2 l1 rfl rfl rfl) rfl rfl rfl) ?_
    refine go_i2l (pc := 55) rfl ?_
    refine go_ll (pc := 56) rfl (bi_k2L bi_e2 rfl rfl rfl) ?_
    refine go_lmul (pc := 57) rfl ?_
    refine go_lcmp (pc := 58) rfl ?_
    refine bi_ite hh (fun hc hh => ?_) (fun hc hh => ?_)
    · refine go_ifltT (pc := 59) rfl hc ?_
      refine go_inc (pc := 65) rfl (bi_k2 (bi_k2 l6 rfl rfl rfl) rfl rfl rfl) ?_
      refine go_goto (pc := 68) rfl ?_
      exact R20 _ _ _ _ _ _ _ (bi_k1 (bi_k2 (bi_k2 l0 rfl rfl rfl) rfl rfl rfl) rfl rfl) (bi_k1 (bi_k2 (bi_k2 l1 rfl rfl rfl) rfl rfl rfl) rfl rfl) (bi_k1L (bi_k2L bi_e2 rfl rfl rfl) rfl rfl) (bi_k1L bi_e2 rfl rfl) bi_e1 hh
    · refine go_ifltF (pc := 59) rfl hc ?_
      refine go_il (pc := 62) rfl (bi_k2 (bi_k2 l6 rfl rfl rfl) rfl rfl rfl) ?_
      exact go_ri (pc := 64) rfl hh
def fX10_tries_20 (n : Nat) : Nat → ai_H → Nat → Int32 → Int64 → Int64 → Int32 → Option (Int32 × ai_H)
  | 0 => fun _ _ _ _ _ _ => none
  | k + 1 => fun h v0 v1 v2 v4 v6 => fX10_tries_20b n (fX10_tries_20 n k) h v0 v1 v2 v4 v6
theorem sX10_tries_20 {n : Nat} {q : Int32 × ai_H} : ∀ (k : Nat) (h : ai_H) (v0 : Nat) (v1 : Int32) (v2 : Int64) (v4 : Int64) (v6 : Int32) (lv : ai_L), ai_ld 0 lv = some (.ref v0) → ai_ld 1 lv = some (.int v1) → ai_ld 2 lv = some (.long v2) → ai_ld 4 lv = some (.long v4) → ai_ld 6 lv = some (.int v6) → fX10_tries_20 n k h v0 v1 v2 v4 v6 = some q → bi_go 1 tX10_tries n (fI n q) 20 lv [] h
  | 0 => fun _ _ _ _ _ _ _ _ _ _ _ _ hh => by cases hh
  | k + 1 => fun h v0 v1 v2 v4 v6 lv l0 l1 l2 l4 l6 hh => sX10_tries_20b  (sX10_tries_20  k) l0 l1 l2 l4 l6 hh
def fX10_tries (n : Nat) (h : ai_H) (a0 : Nat) (a1 : Int32) : Option (Int32 × ai_H) :=
  (kO n h a0 10).bind fun _ =>
  (fX10_isWithin n h (0 : Int32) a1 (100 : Int32)).bind fun q1 =>
  if ¬ q1.1 = 0 then (
    fX10_tries_20 n bi_K q1.2 a0 a1 (1 : Int64) (1 : Int64) (1 : Int32))
  else (
    some ((-1 : Int32), q1.2))
theorem gX10_tries {n : Nat} {h : ai_H} {a0 : Nat} {a1 : Int32} {q : Int32 × ai_H} (hh : fX10_tries n h a0 a1 = some q) : kO n h a0 10 = some () := by
  obtain ⟨_, e, -⟩ := bi_bd hh
  exact e
theorem sX10_tries {n : Nat} {h : ai_H} {a0 : Nat} {a1 : Int32} {q : Int32 × ai_H} (hh : fX10_tries n h a0 a1 = some q) : bi_sp 2 130 [.ref a0, .int a1] h n (fI n q) := by
  refine bi_en (D := 1) (T := tX10_tries) (funext fun pc => rfl) rfl (Nat.le_of_ble_eq_true rfl) ?_
  unfold fX10_tries at hh
  obtain ⟨_, eO, hh⟩ := bi_bd hh
  refine go_pi (pc := 0) rfl ?_
  refine go_il (pc := 1) rfl (rfl : ai_ld 1 (lv_args 0 [.ref a0, .int a1]) = some (.int a1)) ?_
  refine go_pi (pc := 2) rfl ?_
  obtain ⟨q1, eq1, hh⟩ := bi_bd hh
  refine go_iSI (pc := 4) rfl (Nat.le_of_ble_eq_true rfl) rfl (Nat.le_of_ble_eq_true rfl) (bi_up (sX10_isWithin eq1) (Nat.le_of_ble_eq_true rfl)) ?_
  refine bi_ite hh (fun hc hh => ?_) (fun hc hh => ?_)
  · refine go_ifneT (pc := 7) rfl hc ?_
    refine go_pl (pc := 12) rfl ?_
    refine go_lst (pc := 13) rfl ?_
    refine go_pl (pc := 14) rfl ?_
    refine go_lst (pc := 15) rfl ?_
    refine go_pi (pc := 17) rfl ?_
    refine go_is (pc := 18) rfl ?_
    exact sX10_tries_20  _ _ _ _ _ _ _ _ (bi_k1 (bi_k2 (bi_k2 (rfl : ai_ld 0 (lv_args 0 [.ref a0, .int a1]) = some (.ref a0)) rfl rfl rfl) rfl rfl rfl) rfl rfl) (bi_k1 (bi_k2 (bi_k2 (rfl : ai_ld 1 (lv_args 0 [.ref a0, .int a1]) = some (.int a1)) rfl rfl rfl) rfl rfl rfl) rfl rfl) (bi_k1L (bi_k2L bi_e2 rfl rfl rfl) rfl rfl) (bi_k1L bi_e2 rfl rfl) bi_e1 hh
  · refine go_ifneF (pc := 7) rfl hc ?_
    refine go_pi (pc := 10) rfl ?_
    exact go_ri (pc := 11) rfl hh
def fX10_commonDivisor_7b (n : Nat) (r7 : ai_H → Int32 → Int32 → Int32 → Option (Int32 × ai_H)) (h : ai_H) (v2 : Int32) (v3 : Int32) (v4 : Int32) : Option (Int32 × ai_H) :=
  if (100 : Int32) ≤ v4 then (
    some (if v2 < (1 : Int32) then (1 : Int32) else v2, h))
  else (
    if v3 ≤ 0 then (
      some (if v2 < (1 : Int32) then (1 : Int32) else v2, h))
    else (
      (rI v2 v3).bind fun x1 =>
      r7 h v3 x1 (v4 + 1)))
theorem sX10_commonDivisor_7b {n : Nat} {r7 : ai_H → Int32 → Int32 → Int32 → Option (Int32 × ai_H)} {q : Int32 × ai_H} {h : ai_H} {v2 : Int32} {v3 : Int32} {v4 : Int32} {lv : ai_L} (R7 : ∀ (h : ai_H) (v2 : Int32) (v3 : Int32) (v4 : Int32) (lv : ai_L), ai_ld 2 lv = some (.int v2) → ai_ld 3 lv = some (.int v3) → ai_ld 4 lv = some (.int v4) → r7 h v2 v3 v4 = some q → bi_go 0 tX10_commonDivisor n (fI n q) 7 lv [] h) (l2 : ai_ld 2 lv = some (.int v2)) (l3 : ai_ld 3 lv = some (.int v3)) (l4 : ai_ld 4 lv = some (.int v4)) (hh : fX10_commonDivisor_7b n r7 h v2 v3 v4 = some q) : bi_go 0 tX10_commonDivisor n (fI n q) 7 lv [] h := by
  unfold fX10_commonDivisor_7b at hh
  refine go_il (pc := 7) rfl l4 ?_
  refine go_pi (pc := 9) rfl ?_
  refine bi_ite hh (fun hc hh => ?_) (fun hc hh => ?_)
  · refine go_cmpgeT (pc := 11) rfl hc ?_
    refine go_il (pc := 34) rfl l2 ?_
    refine go_pi (pc := 35) rfl ?_
    refine go_imax (pc := 36) rfl (Nat.le_of_ble_eq_true rfl) ?_
    exact go_ri (pc := 39) rfl hh
  · refine go_cmpgeF (pc := 11) rfl hc ?_
    refine go_il (pc := 14) rfl l3 ?_
    refine bi_ite hh (fun hc hh => ?_) (fun hc hh => ?_)
    · refine go_ifleT (pc := 15) rfl hc ?_
      refine go_il (pc := 34) rfl l2 ?_
      refine go_pi (pc := 35) rfl ?_
      refine go_imax (pc := 36) rfl (Nat.le_of_ble_eq_true rfl) ?_
      exact go_ri (pc := 39) rfl hh
    · refine go_ifleF (pc := 15) rfl hc ?_
      refine go_il (pc := 18) rfl l2 ?_
      refine go_il (pc := 19) rfl l3 ?_
      obtain ⟨x1, ex1, hh⟩ := bi_bd hh
      refine go_irem (pc := 20) rfl ex1 ?_
      refine go_is (pc := 21) rfl ?_
      refine go_il (pc := 23) rfl (bi_k1 l3 rfl rfl) ?_
      refine go_is (pc := 24) rfl ?_
      refine go_il (pc := 25) rfl (bi_k1 bi_e1 rfl rfl) ?_
      refine go_is (pc := 27) rfl ?_
      refine go_inc (pc := 28) rfl (bi_k1 (bi_k1 (bi_k1 l4 rfl rfl) rfl rfl) rfl rfl) ?_
      refine go_goto (pc := 31) rfl ?_
      exact R7 _ _ _ _ _ (bi_k1 (bi_k1 bi_e1 rfl rfl) rfl rfl) (bi_k1 bi_e1 rfl rfl) bi_e1 hh
def fX10_commonDivisor_7 (n : Nat) : Nat → ai_H → Int32 → Int32 → Int32 → Option (Int32 × ai_H)
  | 0 => fun _ _ _ _ => none
  | k + 1 => fun h v2 v3 v4 => fX10_commonDivisor_7b n (fX10_commonDivisor_7 n k) h v2 v3 v4
theorem sX10_commonDivisor_7 {n : Nat} {q : Int32 × ai_H} : ∀ (k : Nat) (h : ai_H) (v2 : Int32) (v3 : Int32) (v4 : Int32) (lv : ai_L), ai_ld 2 lv = some (.int v2) → ai_ld 3 lv = some (.int v3) → ai_ld 4 lv = some (.int v4) → fX10_commonDivisor_7 n k h v2 v3 v4 = some q → bi_go 0 tX10_commonDivisor n (fI n q) 7 lv [] h
  | 0 => fun _ _ _ _ _ _ _ _ hh => by cases hh
  | k + 1 => fun h v2 v3 v4 lv l2 l3 l4 hh => sX10_commonDivisor_7b  (sX10_commonDivisor_7  k) l2 l3 l4 hh
def fX10_commonDivisor (n : Nat) (h : ai_H) (a0 : Int32) (a1 : Int32) : Option (Int32 × ai_H) :=
  fX10_commonDivisor_7 n bi_K h a0 a1 (0 : Int32)
theorem sX10_commonDivisor {n : Nat} {h : ai_H} {a0 : Int32} {a1 : Int32} {q : Int32 × ai_H} (hh : fX10_commonDivisor n h a0 a1 = some q) : bi_sp 1 132 [.int a0, .int a1] h n (fI n q) := by
  refine bi_en (D := 0) (T := tX10_commonDivisor) (funext fun pc => rfl) rfl (Nat.le_of_ble_eq_true rfl) ?_
  unfold fX10_commonDivisor at hh
  refine go_il (pc := 0) rfl (rfl : ai_ld 0 (lv_args 0 [.int a0, .int a1]) = some (.int a0)) ?_
  refine go_is (pc := 1) rfl ?_
  refine go_il (pc := 2) rfl (bi_k1 (rfl : ai_ld 1 (lv_args 0 [.int a0, .int a1]) = some (.int a1)) rfl rfl) ?_
  refine go_is (pc := 3) rfl ?_
  refine go_pi (pc := 4) rfl ?_
  refine go_is (pc := 5) rfl ?_
  exact sX10_commonDivisor_7  _ _ _ _ _ _ (bi_k1 (bi_k1 bi_e1 rfl rfl) rfl rfl) (bi_k1 bi_e1 rfl rfl) bi_e1 hh
def fX10_clear_63b (n : Nat) (r63 : ai_H → Int32 → Int32 → Int64 → Int32 → Option (Int64 × ai_H)) (h : ai_H) (v1 : Int32) (v5 : Int32) (v6 : Int64) (v8 : Int32) : Option (Int64 × ai_H) :=
  if v1 ≤ v8 then (
    some (v6, h))
  else (
    r63 h v1 v5 (v6 * v5.toInt64) (v8 + 1))
theorem sX10_clear_63b {n : Nat} {r63 : ai_H → Int32 → Int32 → Int64 → Int32 → Option (Int64 × ai_H)} {q : Int64 × ai_H} {h : ai_H} {v1 : Int32} {v5 : Int32} {v6 : Int64} {v8 : Int32} {lv : ai_L} (R63 : ∀ (h : ai_H) (v1 : Int32) (v5 : Int32) (v6 : Int64) (v8 : Int32) (lv : ai_L), ai_ld 1 lv = some (.int v1) → ai_ld 5 lv = some (.int v5) → ai_ld 6 lv = some (.long v6) → ai_ld 8 lv = some (.int v8) → r63 h v1 v5 v6 v8 = some q → bi_go 1 tX10_clear n (fJ n q) 63 lv [] h) (l1 : ai_ld 1 lv = some (.int v1)) (l5 : ai_ld 5 lv = some (.int v5)) (l6 : ai_ld 6 lv = some (.long v6)) (l8 : ai_ld 8 lv = some (.int v8)) (hh : fX10_clear_63b n r63 h v1 v5 v6 v8 = some q) : bi_go 1 tX10_clear n (fJ n q) 63 lv [] h := by
  unfold fX10_clear_63b at hh
  refine go_il (pc := 63) rfl l8 ?_
  refine go_il (pc := 65) rfl l1 ?_
  refine bi_ite hh (fun hc hh => ?_) (fun hc hh => ?_)
  · refine go_cmpgeT (pc := 66) rfl hc ?_
    refine go_ll (pc := 83) rfl l6 ?_
    exact go_rl (pc := 85) rfl hh
  · refine go_cmpgeF (pc := 66) rfl hc ?_
    refine go_ll (pc := 69) rfl l6 ?_
    refine go_il (pc := 71) rfl l5 ?_
    refine go_i2l (pc := 73) rfl ?_
    refine go_lmul (pc := 74) rfl ?_
    refine go_lst (pc := 75) rfl ?_
    refine go_inc (pc := 77) rfl (bi_k2 l8 rfl rfl rfl) ?_
    refine go_goto (pc := 80) rfl ?_
    exact R63 _ _ _ _ _ _ (bi_k1 (bi_k2 l1 rfl rfl rfl) rfl rfl) (bi_k1 (bi_k2 l5 rfl rfl rfl) rfl rfl) (bi_k1L bi_e2 rfl rfl) bi_e1 hh
def fX10_clear_63 (n : Nat) : Nat → ai_H → Int32 → Int32 → Int64 → Int32 → Option (Int64 × ai_H)
  | 0 => fun _ _ _ _ _ => none
  | k + 1 => fun h v1 v5 v6 v8 => fX10_clear_63b n (fX10_clear_63 n k) h v1 v5 v6 v8
theorem sX10_clear_63 {n : Nat} {q : Int64 × ai_H} : ∀ (k : Nat) (h : ai_H) (v1 : Int32) (v5 : Int32) (v6 : Int64) (v8 : Int32) (lv : ai_L), ai_ld 1 lv = some (.int v1) → ai_ld 5 lv = some (.int v5) → ai_ld 6 lv = some (.long v6) → ai_ld 8 lv = some (.int v8) → fX10_clear_63 n k h v1 v5 v6 v8 = some q → bi_go 1 tX10_clear n (fJ n q) 63 lv [] h
  | 0 => fun _ _ _ _ _ _ _ _ _ _ hh => by cases hh
  | k + 1 => fun h v1 v5 v6 v8 lv l1 l5 l6 l8 hh => sX10_clear_63b  (sX10_clear_63  k) l1 l5 l6 l8 hh
def fX10_clear_52 (n : Nat) (h : ai_H) (v1 : Int32) (v4 : Int32) (s0 : Int32) : Option (Int64 × ai_H) :=
  (dI s0 v4).bind fun x1 =>
  fX10_clear_63 n bi_K h v1 x1 (1 : Int64) (0 : Int32)
theorem sX10_clear_52 {n : Nat} {q : Int64 × ai_H} {h : ai_H} {v1 : Int32} {v4 : Int32} {s0 : Int32} {lv : ai_L} (l1 : ai_ld 1 lv = some (.int v1)) (l4 : ai_ld 4 lv = some (.int v4)) (hh : fX10_clear_52 n h v1 v4 s0 = some q) : bi_go 1 tX10_clear n (fJ n q) 52 lv [.int s0] h := by
  unfold fX10_clear_52 at hh
  refine go_il (pc := 52) rfl l4 ?_
  obtain ⟨x1, ex1, hh⟩ := bi_bd hh
  refine go_idiv (pc := 54) rfl ex1 ?_
  refine go_is (pc := 55) rfl ?_
  refine go_pl (pc := 57) rfl ?_
  refine go_lst (pc := 58) rfl ?_
  refine go_pi (pc := 60) rfl ?_
  refine go_is (pc := 61) rfl ?_
  exact sX10_clear_63  _ _ _ _ _ _ _ (bi_k1 (bi_k2 (bi_k1 l1 rfl rfl) rfl rfl rfl) rfl rfl) (bi_k1 (bi_k2 bi_e1 rfl rfl rfl) rfl rfl) (bi_k1L bi_e2 rfl rfl) bi_e1 hh
def fX10_clear (n : Nat) (h : ai_H) (a0 : Nat) (a1 : Int32) (a2 : Int32) : Option (Int64 × ai_H) :=
  (kO n h a0 10).bind fun _ =>
  (fX10_isWithin n h (0 : Int32) a1 (6 : Int32)).bind fun q1 =>
  if q1.1 = 0 then (
    some ((-1 : Int64), q1.2))
  else (
    (fX10_isWithin n q1.2 (0 : Int32) a2 (1 : Int32)).bind fun q2 =>
    if ¬ q2.1 = 0 then (
      (pR n q2.2 a0 10 3).bind fun x3 =>
      (pI n q2.2 x3 8 7).bind fun x4 =>
      (fX10_commonDivisor n q2.2 (100 : Int32) ((100 : Int32) - x4)).bind fun q5 =>
      if ¬ a2 = 0 then (
        fX10_clear_52 n q5.2 a1 q5.1 (100 : Int32))
      else (
        fX10_clear_52 n q5.2 a1 q5.1 ((100 : Int32) - x4)))
    else (
      some ((-1 : Int64), q2.2)))
theorem gX10_clear {n : Nat} {h : ai_H} {a0 : Nat} {a1 : Int32} {a2 : Int32} {q : Int64 × ai_H} (hh : fX10_clear n h a0 a1 a2 = some q) : kO n h a0 10 = some () := by
  obtain ⟨_, e, -⟩ := bi_bd hh
  exact e
theorem sX10_clear {n : Nat} {h : ai_H} {a0 : Nat} {a1 : Int32} {a2 : Int32} {q : Int64 × ai_H} (hh : fX10_clear n h a0 a1 a2 = some q) : bi_sp 2 131 [.ref a0, .int a1, .int a2] h n (fJ n q) := by
  refine bi_en (D := 1) (T := tX10_clear) (funext fun pc => rfl) rfl (Nat.le_of_ble_eq_true rfl) ?_
  unfold fX10_clear at hh
  obtain ⟨_, eO, hh⟩ := bi_bd hh
  refine go_pi (pc := 0) rfl ?_
  refine go_il (pc := 1) rfl (rfl : ai_ld 1 (lv_args 0 [.ref a0, .int a1, .int a2]) = some (.int a1)) ?_
  refine go_pi (pc := 2) rfl ?_
  obtain ⟨q1, eq1, hh⟩ := bi_bd hh
  refine go_iSI (pc := 4) rfl (Nat.le_of_ble_eq_true rfl) rfl (Nat.le_of_ble_eq_true rfl) (bi_up (sX10_isWithin eq1) (Nat.le_of_ble_eq_true rfl)) ?_
  refine bi_ite hh (fun hc hh => ?_) (fun hc hh => ?_)
  · refine go_ifeqT (pc := 7) rfl hc ?_
    refine go_pl (pc := 19) rfl ?_
    exact go_rl (pc := 22) rfl hh
  · refine go_ifeqF (pc := 7) rfl hc ?_
    refine go_pi (pc := 10) rfl ?_
    refine go_il (pc := 11) rfl (rfl : ai_ld 2 (lv_args 0 [.ref a0, .int a1, .int a2]) = some (.int a2)) ?_
    refine go_pi (pc := 12) rfl ?_
    obtain ⟨q2, eq2, hh⟩ := bi_bd hh
    refine go_iSI (pc := 13) rfl (Nat.le_of_ble_eq_true rfl) rfl (Nat.le_of_ble_eq_true rfl) (bi_up (sX10_isWithin eq2) (Nat.le_of_ble_eq_true rfl)) ?_
    refine bi_ite hh (fun hc hh => ?_) (fun hc hh => ?_)
    · refine go_ifneT (pc := 16) rfl hc ?_
      refine go_pi (pc := 23) rfl ?_
      refine go_al (pc := 25) rfl (rfl : ai_ld 0 (lv_args 0 [.ref a0, .int a1, .int a2]) = some (.ref a0)) ?_
      obtain ⟨x3, ex3, hh⟩ := bi_bd hh
      refine go_gfR (pc := 26) rfl ex3 ?_
      obtain ⟨x4, ex4, hh⟩ := bi_bd hh
      refine go_gfI (pc := 29) rfl ex4 ?_
      refine go_isub (pc := 32) rfl ?_
      refine go_is (pc := 33) rfl ?_
      refine go_pi (pc := 34) rfl ?_
      refine go_il (pc := 36) rfl bi_e1 ?_
      obtain ⟨q5, eq5, hh⟩ := bi_bd hh
      refine go_iSI (pc := 37) rfl (Nat.le_of_ble_eq_true rfl) rfl (Nat.le_of_ble_eq_true rfl) (bi_up (sX10_commonDivisor eq5) (Nat.le_of_ble_eq_true rfl)) ?_
      refine go_is (pc := 40) rfl ?_
      refine go_il (pc := 42) rfl (bi_k1 (bi_k1 (rfl : ai_ld 2 (lv_args 0 [.ref a0, .int a1, .int a2]) = some (.int a2)) rfl rfl) rfl rfl) ?_
      refine bi_ite hh (fun hc hh => ?_) (fun hc hh => ?_)
      · refine go_ifneT (pc := 43) rfl hc ?_
        refine go_pi (pc := 50) rfl ?_
        exact sX10_clear_52  (bi_k1 (bi_k1 (rfl : ai_ld 1 (lv_args 0 [.ref a0, .int a1, .int a2]) = some (.int a1)) rfl rfl) rfl rfl) bi_e1 hh
      · refine go_ifneF (pc := 43) rfl hc ?_
        refine go_il (pc := 46) rfl (bi_k1 bi_e1 rfl rfl) ?_
        refine go_goto (pc := 47) rfl ?_
        exact sX10_clear_52  (bi_k1 (bi_k1 (rfl : ai_ld 1 (lv_args 0 [.ref a0, .int a1, .int a2]) = some (.int a1)) rfl rfl) rfl rfl) bi_e1 hh
    · refine go_ifneF (pc := 16) rfl hc ?_
      refine go_pl (pc := 19) rfl ?_
      exact go_rl (pc := 22) rfl hh
def fX10_see_42 (n : Nat) (h : ai_H) (v1 : Int32) (v2 : Int32) (v3 : Int32) (s0 : Int32) (s1 : Nat) : Option (Int32 × ai_H) :=
  (fX4_add n h s1 s0 v1 v2 v3).bind fun q1 =>
  some (q1.1, q1.2)
theorem sX10_see_42 {n : Nat} {q : Int32 × ai_H} {h : ai_H} {v1 : Int32} {v2 : Int32} {v3 : Int32} {s0 : Int32} {s1 : Nat} {lv : ai_L} (l1 : ai_ld 1 lv = some (.int v1)) (l2 : ai_ld 2 lv = some (.int v2)) (l3 : ai_ld 3 lv = some (.int v3)) (hh : fX10_see_42 n h v1 v2 v3 s0 s1 = some q) : bi_go 1 tX10_see n (fI n q) 42 lv [.int s0, .ref s1] h := by
  unfold fX10_see_42 at hh
  refine go_il (pc := 42) rfl l1 ?_
  refine go_il (pc := 43) rfl l2 ?_
  refine go_il (pc := 44) rfl l3 ?_
  obtain ⟨q1, eq1, hh⟩ := bi_bd hh
  refine go_ivI (pc := 45) rfl rfl (gX4_add eq1) (Nat.le_of_ble_eq_true rfl) (bi_up (sX4_add eq1) (Nat.le_of_ble_eq_true rfl)) ?_
  exact go_ri (pc := 48) rfl hh
def fX10_see (n : Nat) (h : ai_H) (a0 : Nat) (a1 : Int32) (a2 : Int32) (a3 : Int32) (a4 : Int32) : Option (Int32 × ai_H) :=
  (kO n h a0 10).bind fun _ =>
  (fX10_isWithin n h (1 : Int32) a1 (60 : Int32)).bind fun q1 =>
  if q1.1 = 0 then (
    some ((-1 : Int32), q1.2))
  else (
    (fX10_isWalker n q1.2 a0 a2).bind fun q2 =>
    if q2.1 = 0 then (
      some ((-1 : Int32), q2.2))
    else (
      (fX10_isPlace n q2.2 a0 a3).bind fun q3 =>
      if ¬ q3.1 = 0 then (
        (pR n q3.2 a0 10 12).bind fun x4 =>
        if a4 = 0 then (
          fX10_see_42 n q3.2 a1 a2 a3 (1 : Int32) x4)
        else (
          fX10_see_42 n q3.2 a1 a2 a3 (0 : Int32) x4))
      else (
        some ((-1 : Int32), q3.2))))
theorem gX10_see {n : Nat} {h : ai_H} {a0 : Nat} {a1 : Int32} {a2 : Int32} {a3 : Int32} {a4 : Int32} {q : Int32 × ai_H} (hh : fX10_see n h a0 a1 a2 a3 a4 = some q) : kO n h a0 10 = some () := by
  obtain ⟨_, e, -⟩ := bi_bd hh
  exact e
theorem sX10_see {n : Nat} {h : ai_H} {a0 : Nat} {a1 : Int32} {a2 : Int32} {a3 : Int32} {a4 : Int32} {q : Int32 × ai_H} (hh : fX10_see n h a0 a1 a2 a3 a4 = some q) : bi_sp 2 133 [.ref a0, .int a1, .int a2, .int a3, .int a4] h n (fI n q) := by
  refine bi_en (D := 1) (T := tX10_see) (funext fun pc => rfl) rfl (Nat.le_of_ble_eq_true rfl) ?_
  unfold fX10_see at hh
  obtain ⟨_, eO, hh⟩ := bi_bd hh
  refine go_pi (pc := 0) rfl ?_
  refine go_il (pc := 1) rfl (rfl : ai_ld 1 (lv_args 0 [.ref a0, .int a1, .int a2, .int a3, .int a4]) = some (.int a1)) ?_
  refine go_pi (pc := 2) rfl ?_
  obtain ⟨q1, eq1, hh⟩ := bi_bd hh
  refine go_iSI (pc := 4) rfl (Nat.le_of_ble_eq_true rfl) rfl (Nat.le_of_ble_eq_true rfl) (bi_up (sX10_isWithin eq1) (Nat.le_of_ble_eq_true rfl)) ?_
  refine bi_ite hh (fun hc hh => ?_) (fun hc hh => ?_)
  · refine go_ifeqT (pc := 7) rfl hc ?_
    refine go_pi (pc := 26) rfl ?_
    exact go_ri (pc := 27) rfl hh
  · refine go_ifeqF (pc := 7) rfl hc ?_
    refine go_al (pc := 10) rfl (rfl : ai_ld 0 (lv_args 0 [.ref a0, .int a1, .int a2, .int a3, .int a4]) = some (.ref a0)) ?_
    refine go_il (pc := 11) rfl (rfl : ai_ld 2 (lv_args 0 [.ref a0, .int a1, .int a2, .int a3, .int a4]) = some (.int a2)) ?_
    obtain ⟨q2, eq2, hh⟩ := bi_bd hh
    refine go_ivI (pc := 12) rfl rfl (gX10_isWalker eq2) (Nat.le_of_ble_eq_true rfl) (bi_up (sX10_isWalker eq2) (Nat.le_of_ble_eq_true rfl)) ?_
    refine bi_ite hh (fun hc hh => ?_) (fun hc hh => ?_)
    · refine go_ifeqT (pc := 15) rfl hc ?_
      refine go_pi (pc := 26) rfl ?_
      exact go_ri (pc := 27) rfl hh
    · refine go_ifeqF (pc := 15) rfl hc ?_
      refine go_al (pc := 18) rfl (rfl : ai_ld 0 (lv_args 0 [.ref a0, .int a1, .int a2, .int a3, .int a4]) = some (.ref a0)) ?_
      refine go_il (pc := 19) rfl (rfl : ai_ld 3 (lv_args 0 [.ref a0, .int a1, .int a2, .int a3, .int a4]) = some (.int a3)) ?_
      obtain ⟨q3, eq3, hh⟩ := bi_bd hh
      refine go_ivI (pc := 20) rfl rfl (gX10_isPlace eq3) (Nat.le_of_ble_eq_true rfl) (bi_up (sX10_isPlace eq3) (Nat.le_of_ble_eq_true rfl)) ?_
      refine bi_ite hh (fun hc hh => ?_) (fun hc hh => ?_)
      · refine go_ifneT (pc := 23) rfl hc ?_
        refine go_al (pc := 28) rfl (rfl : ai_ld 0 (lv_args 0 [.ref a0, .int a1, .int a2, .int a3, .int a4]) = some (.ref a0)) ?_
        obtain ⟨x4, ex4, hh⟩ := bi_bd hh
        refine go_gfR (pc := 29) rfl ex4 ?_
        refine go_il (pc := 32) rfl (rfl : ai_ld 4 (lv_args 0 [.ref a0, .int a1, .int a2, .int a3, .int a4]) = some (.int a4)) ?_
        refine bi_ite hh (fun hc hh => ?_) (fun hc hh => ?_)
        · refine go_ifeqT (pc := 34) rfl hc ?_
          refine go_pi (pc := 41) rfl ?_
          exact sX10_see_42  (rfl : ai_ld 1 (lv_args 0 [.ref a0, .int a1, .int a2, .int a3, .int a4]) = some (.int a1)) (rfl : ai_ld 2 (lv_args 0 [.ref a0, .int a1, .int a2, .int a3, .int a4]) = some (.int a2)) (rfl : ai_ld 3 (lv_args 0 [.ref a0, .int a1, .int a2, .int a3, .int a4]) = some (.int a3)) hh
        · refine go_ifeqF (pc := 34) rfl hc ?_
          refine go_pi (pc := 37) rfl ?_
          refine go_goto (pc := 38) rfl ?_
          exact sX10_see_42  (rfl : ai_ld 1 (lv_args 0 [.ref a0, .int a1, .int a2, .int a3, .int a4]) = some (.int a1)) (rfl : ai_ld 2 (lv_args 0 [.ref a0, .int a1, .int a2, .int a3, .int a4]) = some (.int a2)) (rfl : ai_ld 3 (lv_args 0 [.ref a0, .int a1, .int a2, .int a3, .int a4]) = some (.int a3)) hh
      · refine go_ifneF (pc := 23) rfl hc ?_
        refine go_pi (pc := 26) rfl ?_
        exact go_ri (pc := 27) rfl hh
def fX10_strike (n : Nat) (h : ai_H) (a0 : Nat) (a1 : Int32) : Option (Int32 × ai_H) :=
  (kO n h a0 10).bind fun _ =>
  if a1 < 0 then (
    some ((-1 : Int32), h))
  else (
    (pR n h a0 10 12).bind fun x1 =>
    (pI n h x1 4 5).bind fun x2 =>
    if a1 < x2 then (
      (pR n h a0 10 12).bind fun x3 =>
      (fX4_add n h x3 (2 : Int32) (0 : Int32) a1 (0 : Int32)).bind fun q4 =>
      some (q4.1, q4.2))
    else (
      some ((-1 : Int32), h)))
theorem gX10_strike {n : Nat} {h : ai_H} {a0 : Nat} {a1 : Int32} {q : Int32 × ai_H} (hh : fX10_strike n h a0 a1 = some q) : kO n h a0 10 = some () := by
  obtain ⟨_, e, -⟩ := bi_bd hh
  exact e
theorem sX10_strike {n : Nat} {h : ai_H} {a0 : Nat} {a1 : Int32} {q : Int32 × ai_H} (hh : fX10_strike n h a0 a1 = some q) : bi_sp 2 134 [.ref a0, .int a1] h n (fI n q) := by
  refine bi_en (D := 1) (T := tX10_strike) (funext fun pc => rfl) rfl (Nat.le_of_ble_eq_true rfl) ?_
  unfold fX10_strike at hh
  obtain ⟨_, eO, hh⟩ := bi_bd hh
  refine go_il (pc := 0) rfl (rfl : ai_ld 1 (lv_args 0 [.ref a0, .int a1]) = some (.int a1)) ?_
  refine bi_ite hh (fun hc hh => ?_) (fun hc hh => ?_)
  · refine go_ifltT (pc := 1) rfl hc ?_
    refine go_pi (pc := 15) rfl ?_
    exact go_ri (pc := 16) rfl hh
  · refine go_ifltF (pc := 1) rfl hc ?_
    refine go_il (pc := 4) rfl (rfl : ai_ld 1 (lv_args 0 [.ref a0, .int a1]) = some (.int a1)) ?_
    refine go_al (pc := 5) rfl (rfl : ai_ld 0 (lv_args 0 [.ref a0, .int a1]) = some (.ref a0)) ?_
    obtain ⟨x1, ex1, hh⟩ := bi_bd hh
    refine go_gfR (pc := 6) rfl ex1 ?_
    obtain ⟨x2, ex2, hh⟩ := bi_bd hh
    refine go_gfI (pc := 9) rfl ex2 ?_
    refine bi_ite hh (fun hc hh => ?_) (fun hc hh => ?_)
    · refine go_cmpltT (pc := 12) rfl hc ?_
      refine go_al (pc := 17) rfl (rfl : ai_ld 0 (lv_args 0 [.ref a0, .int a1]) = some (.ref a0)) ?_
      obtain ⟨x3, ex3, hh⟩ := bi_bd hh
      refine go_gfR (pc := 18) rfl ex3 ?_
      refine go_pi (pc := 21) rfl ?_
      refine go_pi (pc := 22) rfl ?_
      refine go_il (pc := 23) rfl (rfl : ai_ld 1 (lv_args 0 [.ref a0, .int a1]) = some (.int a1)) ?_
      refine go_pi (pc := 24) rfl ?_
      obtain ⟨q4, eq4, hh⟩ := bi_bd hh
      refine go_ivI (pc := 25) rfl rfl (gX4_add eq4) (Nat.le_of_ble_eq_true rfl) (bi_up (sX4_add eq4) (Nat.le_of_ble_eq_true rfl)) ?_
      exact go_ri (pc := 28) rfl hh
    · refine go_cmpltF (pc := 12) rfl hc ?_
      refine go_pi (pc := 15) rfl ?_
      exact go_ri (pc := 16) rfl hh
def fX10_known (n : Nat) (h : ai_H) (a0 : Nat) (a1 : Int32) : Option (Int32 × ai_H) :=
  (kO n h a0 10).bind fun _ =>
  (pR n h a0 10 12).bind fun x1 =>
  (pI n h x1 4 5).bind fun x2 =>
  (fX10_isWithin n h (-1 : Int32) a1 x2).bind fun q3 =>
  if ¬ q3.1 = 0 then (
    (pR n q3.2 a0 10 12).bind fun x4 =>
    (sF n q3.2 x4 4 6 (.int) (.int a1)).bind fun h5 =>
    some ((1 : Int32), h5))
  else (
    some ((0 : Int32), q3.2))
theorem gX10_known {n : Nat} {h : ai_H} {a0 : Nat} {a1 : Int32} {q : Int32 × ai_H} (hh : fX10_known n h a0 a1 = some q) : kO n h a0 10 = some () := by
  obtain ⟨_, e, -⟩ := bi_bd hh
  exact e
theorem sX10_known {n : Nat} {h : ai_H} {a0 : Nat} {a1 : Int32} {q : Int32 × ai_H} (hh : fX10_known n h a0 a1 = some q) : bi_sp 2 135 [.ref a0, .int a1] h n (fI n q) := by
  refine bi_en (D := 1) (T := tX10_known) (funext fun pc => rfl) rfl (Nat.le_of_ble_eq_true rfl) ?_
  unfold fX10_known at hh
  obtain ⟨_, eO, hh⟩ := bi_bd hh
  refine go_pi (pc := 0) rfl ?_
  refine go_il (pc := 1) rfl (rfl : ai_ld 1 (lv_args 0 [.ref a0, .int a1]) = some (.int a1)) ?_
  refine go_al (pc := 2) rfl (rfl : ai_ld 0 (lv_args 0 [.ref a0, .int a1]) = some (.ref a0)) ?_
  obtain ⟨x1, ex1, hh⟩ := bi_bd hh
  refine go_gfR (pc := 3) rfl ex1 ?_
  obtain ⟨x2, ex2, hh⟩ := bi_bd hh
  refine go_gfI (pc := 6) rfl ex2 ?_
  obtain ⟨q3, eq3, hh⟩ := bi_bd hh
  refine go_iSI (pc := 9) rfl (Nat.le_of_ble_eq_true rfl) rfl (Nat.le_of_ble_eq_true rfl) (bi_up (sX10_isWithin eq3) (Nat.le_of_ble_eq_true rfl)) ?_
  refine bi_ite hh (fun hc hh => ?_) (fun hc hh => ?_)
  · refine go_ifneT (pc := 12) rfl hc ?_
    refine go_al (pc := 17) rfl (rfl : ai_ld 0 (lv_args 0 [.ref a0, .int a1]) = some (.ref a0)) ?_
    obtain ⟨x4, ex4, hh⟩ := bi_bd hh
    refine go_gfR (pc := 18) rfl ex4 ?_
    refine go_il (pc := 21) rfl (rfl : ai_ld 1 (lv_args 0 [.ref a0, .int a1]) = some (.int a1)) ?_
    obtain ⟨h5, eh5, hh⟩ := bi_bd hh
    refine go_pf (pc := 22) rfl eh5 ?_
    refine go_pi (pc := 25) rfl ?_
    exact go_rz (pc := 26) rfl bi_z1 hh
  · refine go_ifneF (pc := 12) rfl hc ?_
    refine go_pi (pc := 15) rfl ?_
    exact go_rz (pc := 16) rfl bi_z0 hh
def fX10_placeIfLegs_116 (n : Nat) (r64 : ai_H → Nat → Int32 → Int32 → Int32 → Int32 → Int32 → Option (Int32 × ai_H)) (h : ai_H) (v0 : Nat) (v1 : Int32) (v3 : Int32) (v4 : Int32) (v5 : Int32) (v6 : Int32) : Option (Int32 × ai_H) :=
  r64 h v0 v1 v3 v4 v5 (v6 + 1)
theorem sX10_placeIfLegs_116 {n : Nat} {r64 : ai_H → Nat → Int32 → Int32 → Int32 → Int32 → Int32 → Option (Int32 × ai_H)} {q : Int32 × ai_H} {h : ai_H} {v0 : Nat} {v1 : Int32} {v3 : Int32} {v4 : Int32} {v5 : Int32} {v6 : Int32} {lv : ai_L} (R64 : ∀ (h : ai_H) (v0 : Nat) (v1 : Int32) (v3 : Int32) (v4 : Int32) (v5 : Int32) (v6 : Int32) (lv : ai_L), ai_ld 0 lv = some (.ref v0) → ai_ld 1 lv = some (.int v1) → ai_ld 3 lv = some (.int v3) → ai_ld 4 lv = some (.int v4) → ai_ld 5 lv = some (.int v5) → ai_ld 6 lv = some (.int v6) → r64 h v0 v1 v3 v4 v5 v6 = some q → bi_go 5 tX10_placeIfLegs n (fI n q) 64 lv [] h) (l0 : ai_ld 0 lv = some (.ref v0)) (l1 : ai_ld 1 lv = some (.int v1)) (l3 : ai_ld 3 lv = some (.int v3)) (l4 : ai_ld 4 lv = some (.int v4)) (l5 : ai_ld 5 lv = some (.int v5)) (l6 : ai_ld 6 lv = some (.int v6)) (hh : fX10_placeIfLegs_116 n r64 h v0 v1 v3 v4 v5 v6 = some q) : bi_go 5 tX10_placeIfLegs n (fI n q) 116 lv [] h := by
  unfold fX10_placeIfLegs_116 at hh
  refine go_inc (pc := 116) rfl l6 ?_
  refine go_goto (pc := 119) rfl ?_
  exact R64 _ _ _ _ _ _ _ _ (bi_k1 l0 rfl rfl) (bi_k1 l1 rfl rfl) (bi_k1 l3 rfl rfl) (bi_k1 l4 rfl rfl) (bi_k1 l5 rfl rfl) bi_e1 hh
def fX10_placeIfLegs_64b (n : Nat) (r64 : ai_H → Nat → Int32 → Int32 → Int32 → Int32 → Int32 → Option (Int32 × ai_H)) (h : ai_H) (v0 : Nat) (v1 : Int32) (v3 : Int32) (v4 : Int32) (v5 : Int32) (v6 : Int32) : Option (Int32 × ai_H) :=
  if v4 < v6 then (
    some (v5, h))
  else (
    (pR n h v0 10 11).bind fun x1 =>
    (fX0_pass n h x1).bind fun q2 =>
    (pR n q2.2 v0 10 12).bind fun x3 =>
    (pR n q2.2 v0 10 6).bind fun x4 =>
    (pR n q2.2 x4 5 7).bind fun x5 =>
    (fX4_isSo n q2.2 x3 v6 x5).bind fun q6 =>
    if ¬ q6.1 = 0 then (
      if ¬ v6 = v3 then (
        fX10_placeIfLegs_116 n r64 q6.2 v0 v1 v3 v4 v5 v6)
      else (
        (pR n q6.2 v0 10 6).bind fun x7 =>
        (pR n q6.2 x7 5 7).bind fun x8 =>
        (gX 1 n q6.2 x8 v1).bind fun x9 =>
        fX10_placeIfLegs_116 n r64 q6.2 v0 v1 v3 v4 x9 v6))
    else (
      some ((-1 : Int32), q6.2)))
theorem sX10_placeIfLegs_64b {n : Nat} {r64 : ai_H → Nat → Int32 → Int32 → Int32 → Int32 → Int32 → Option (Int32 × ai_H)} {q : Int32 × ai_H} {h : ai_H} {v0 : Nat} {v1 : Int32} {v3 : Int32} {v4 : Int32} {v5 : Int32} {v6 : Int32} {lv : ai_L} (R64 : ∀ (h : ai_H) (v0 : Nat) (v1 : Int32) (v3 : Int32) (v4 : Int32) (v5 : Int32) (v6 : Int32) (lv : ai_L), ai_ld 0 lv = some (.ref v0) → ai_ld 1 lv = some (.int v1) → ai_ld 3 lv = some (.int v3) → ai_ld 4 lv = some (.int v4) → ai_ld 5 lv = some (.int v5) → ai_ld 6 lv = some (.int v6) → r64 h v0 v1 v3 v4 v5 v6 = some q → bi_go 5 tX10_placeIfLegs n (fI n q) 64 lv [] h) (l0 : ai_ld 0 lv = some (.ref v0)) (l1 : ai_ld 1 lv = some (.int v1)) (l3 : ai_ld 3 lv = some (.int v3)) (l4 : ai_ld 4 lv = some (.int v4)) (l5 : ai_ld 5 lv = some (.int v5)) (l6 : ai_ld 6 lv = some (.int v6)) (hh : fX10_placeIfLegs_64b n r64 h v0 v1 v3 v4 v5 v6 = some q) : bi_go 5 tX10_placeIfLegs n (fI n q) 64 lv [] h := by
  unfold fX10_placeIfLegs_64b at hh
  refine go_il (pc := 64) rfl l6 ?_
  refine go_il (pc := 66) rfl l4 ?_
  refine bi_ite hh (fun hc hh => ?_) (fun hc hh => ?_)
  · refine go_cmpgtT (pc := 68) rfl hc ?_
    refine go_il (pc := 122) rfl l5 ?_
    exact go_ri (pc := 124) rfl hh
  · refine go_cmpgtF (pc := 68) rfl hc ?_
    refine go_al (pc := 71) rfl l0 ?_
    obtain ⟨x1, ex1, hh⟩ := bi_bd hh
    refine go_gfR (pc := 72) rfl ex1 ?_
    obtain ⟨q2, eq2, hh⟩ := bi_bd hh
    refine go_ivV (pc := 75) rfl rfl (gX0_pass eq2) (Nat.le_of_ble_eq_true rfl) (bi_up (sX0_pass eq2) (Nat.le_of_ble_eq_true rfl)) ?_
    refine go_al (pc := 78) rfl l0 ?_
    obtain ⟨x3, ex3, hh⟩ := bi_bd hh
    refine go_gfR (pc := 79) rfl ex3 ?_
    refine go_il (pc := 82) rfl l6 ?_
    refine go_al (pc := 84) rfl l0 ?_
    obtain ⟨x4, ex4, hh⟩ := bi_bd hh
    refine go_gfR (pc := 85) rfl ex4 ?_
    obtain ⟨x5, ex5, hh⟩ := bi_bd hh
    refine go_gfR (pc := 88) rfl ex5 ?_
    obtain ⟨q6, eq6, hh⟩ := bi_bd hh
    refine go_ivI (pc := 91) rfl rfl (gX4_isSo eq6) (Nat.le_of_ble_eq_true rfl) (bi_up (sX4_isSo eq6) (Nat.le_of_ble_eq_true rfl)) ?_
    refine bi_ite hh (fun hc hh => ?_) (fun hc hh => ?_)
    · refine go_ifneT (pc := 94) rfl hc ?_
      refine go_il (pc := 99) rfl l6 ?_
      refine go_il (pc := 101) rfl l3 ?_
      refine bi_ite hh (fun hc hh => ?_) (fun hc hh => ?_)
      · refine go_cmpneT (pc := 102) rfl hc ?_
        exact sX10_placeIfLegs_116 R64 l0 l1 l3 l4 l5 l6 hh
      · refine go_cmpneF (pc := 102) rfl hc ?_
        refine go_al (pc := 105) rfl l0 ?_
        obtain ⟨x7, ex7, hh⟩ := bi_bd hh
        refine go_gfR (pc := 106) rfl ex7 ?_
        obtain ⟨x8, ex8, hh⟩ := bi_bd hh
        refine go_gfR (pc := 109) rfl ex8 ?_
        refine go_il (pc := 112) rfl l1 ?_
        obtain ⟨x9, ex9, hh⟩ := bi_bd hh
        refine go_iald (pc := 113) rfl ex9 ?_
        refine go_is (pc := 114) rfl ?_
        exact sX10_placeIfLegs_116 R64 (bi_k1 l0 rfl rfl) (bi_k1 l1 rfl rfl) (bi_k1 l3 rfl rfl) (bi_k1 l4 rfl rfl) bi_e1 (bi_k1 l6 rfl rfl) hh
    · refine go_ifneF (pc := 94) rfl hc ?_
      refine go_pi (pc := 97) rfl ?_
      exact go_ri (pc := 98) rfl hh
def fX10_placeIfLegs_64 (n : Nat) : Nat → ai_H → Nat → Int32 → Int32 → Int32 → Int32 → Int32 → Option (Int32 × ai_H)
  | 0 => fun _ _ _ _ _ _ _ => none
  | k + 1 => fun h v0 v1 v3 v4 v5 v6 => fX10_placeIfLegs_64b n (fX10_placeIfLegs_64 n k) h v0 v1 v3 v4 v5 v6
theorem sX10_placeIfLegs_64 {n : Nat} {q : Int32 × ai_H} : ∀ (k : Nat) (h : ai_H) (v0 : Nat) (v1 : Int32) (v3 : Int32) (v4 : Int32) (v5 : Int32) (v6 : Int32) (lv : ai_L), ai_ld 0 lv = some (.ref v0) → ai_ld 1 lv = some (.int v1) → ai_ld 3 lv = some (.int v3) → ai_ld 4 lv = some (.int v4) → ai_ld 5 lv = some (.int v5) → ai_ld 6 lv = some (.int v6) → fX10_placeIfLegs_64 n k h v0 v1 v3 v4 v5 v6 = some q → bi_go 5 tX10_placeIfLegs n (fI n q) 64 lv [] h
  | 0 => fun _ _ _ _ _ _ _ _ _ _ _ _ _ _ hh => by cases hh
  | k + 1 => fun h v0 v1 v3 v4 v5 v6 lv l0 l1 l3 l4 l5 l6 hh => sX10_placeIfLegs_64b  (sX10_placeIfLegs_64  k) l0 l1 l3 l4 l5 l6 hh
def fX10_placeIfLegs (n : Nat) (h : ai_H) (a0 : Nat) (a1 : Int32) (a2 : Int32) (a3 : Int32) : Option (Int32 × ai_H) :=
  (kO n h a0 10).bind fun _ =>
  (pR n h a0 10 6).bind fun x1 =>
  (pR n h a0 10 3).bind fun x2 =>
  (fX5_begin n h x1 x2).bind fun q3 =>
  (pR n q3.2 a0 10 11).bind fun x4 =>
  (pR n q3.2 a0 10 3).bind fun x5 =>
  (pR n q3.2 a0 10 6).bind fun x6 =>
  (fX0_begin n q3.2 x4 x5 x6 (1 : Int32)).bind fun q7 =>
  (pR n q7.2 a0 10 11).bind fun x8 =>
  (pR n q7.2 x8 0 7).bind fun x9 =>
  (wX 1 (fun x => x) n q7.2 x9 a1 a2).bind fun h10 =>
  (pR n h10 a0 10 12).bind fun x11 =>
  (pI n h10 x11 4 7).bind fun x12 =>
  (pR n h10 a0 10 6).bind fun x13 =>
  (pR n h10 x13 5 7).bind fun x14 =>
  (gX 1 n h10 x14 a1).bind fun x15 =>
  fX10_placeIfLegs_64 n bi_K h10 a0 a1 a3 (if a3 < x12 then x12 else a3) x15 (1 : Int32)
theorem gX10_placeIfLegs {n : Nat} {h : ai_H} {a0 : Nat} {a1 : Int32} {a2 : Int32} {a3 : Int32} {q : Int32 × ai_H} (hh : fX10_placeIfLegs n h a0 a1 a2 a3 = some q) : kO n h a0 10 = some () := by
  obtain ⟨_, e, -⟩ := bi_bd hh
  exact e
theorem sX10_placeIfLegs {n : Nat} {h : ai_H} {a0 : Nat} {a1 : Int32} {a2 : Int32} {a3 : Int32} {q : Int32 × ai_H} (hh : fX10_placeIfLegs n h a0 a1 a2 a3 = some q) : bi_sp 6 139 [.ref a0, .int a1, .int a2, .int a3] h n (fI n q) := by
  refine bi_en (D := 5) (T := tX10_placeIfLegs) (funext fun pc => rfl) rfl (Nat.le_of_ble_eq_true rfl) ?_
  unfold fX10_placeIfLegs at hh
  obtain ⟨_, eO, hh⟩ := bi_bd hh
  refine go_al (pc := 0) rfl (rfl : ai_ld 0 (lv_args 0 [.ref a0, .int a1, .int a2, .int a3]) = some (.ref a0)) ?_
  obtain ⟨x1, ex1, hh⟩ := bi_bd hh
  refine go_gfR (pc := 1) rfl ex1 ?_
  refine go_al (pc := 4) rfl (rfl : ai_ld 0 (lv_args 0 [.ref a0, .int a1, .int a2, .int a3]) = some (.ref a0)) ?_
  obtain ⟨x2, ex2, hh⟩ := bi_bd hh
  refine go_gfR (pc := 5) rfl ex2 ?_
  obtain ⟨q3, eq3, hh⟩ := bi_bd hh
  refine go_ivV (pc := 8) rfl rfl (gX5_begin eq3) (Nat.le_of_ble_eq_true rfl) (bi_up (sX5_begin eq3) (Nat.le_of_ble_eq_true rfl)) ?_
  refine go_al (pc := 11) rfl (rfl : ai_ld 0 (lv_args 0 [.ref a0, .int a1, .int a2, .int a3]) = some (.ref a0)) ?_
  obtain ⟨x4, ex4, hh⟩ := bi_bd hh
  refine go_gfR (pc := 12) rfl ex4 ?_
  refine go_al (pc := 15) rfl (rfl : ai_ld 0 (lv_args 0 [.ref a0, .int a1, .int a2, .int a3]) = some (.ref a0)) ?_
  obtain ⟨x5, ex5, hh⟩ := bi_bd hh
  refine go_gfR (pc := 16) rfl ex5 ?_
  refine go_al (pc := 19) rfl (rfl : ai_ld 0 (lv_args 0 [.ref a0, .int a1, .int a2, .int a3]) = some (.ref a0)) ?_
  obtain ⟨x6, ex6, hh⟩ := bi_bd hh
  refine go_gfR (pc := 20) rfl ex6 ?_
  refine go_pi (pc := 23) rfl ?_
  obtain ⟨q7, eq7, hh⟩ := bi_bd hh
  refine go_ivV (pc := 24) rfl rfl (gX0_begin eq7) (Nat.le_of_ble_eq_true rfl) (bi_up (sX0_begin eq7) (Nat.le_of_ble_eq_true rfl)) ?_
  refine go_al (pc := 27) rfl (rfl : ai_ld 0 (lv_args 0 [.ref a0, .int a1, .int a2, .int a3]) = some (.ref a0)) ?_
  obtain ⟨x8, ex8, hh⟩ := bi_bd hh
  refine go_gfR (pc := 28) rfl ex8 ?_
  obtain ⟨x9, ex9, hh⟩ := bi_bd hh
  refine go_gfR (pc := 31) rfl ex9 ?_
  refine go_il (pc := 34) rfl (rfl : ai_ld 1 (lv_args 0 [.ref a0, .int a1, .int a2, .int a3]) = some (.int a1)) ?_
  refine go_il (pc := 35) rfl (rfl : ai_ld 2 (lv_args 0 [.ref a0, .int a1, .int a2, .int a3]) = some (.int a2)) ?_
  obtain ⟨h10, eh10, hh⟩ := bi_bd hh
  refine go_iast (pc := 36) rfl eh10 ?_
  refine go_il (pc := 37) rfl (rfl : ai_ld 3 (lv_args 0 [.ref a0, .int a1, .int a2, .int a3]) = some (.int a3)) ?_
  refine go_al (pc := 38) rfl (rfl : ai_ld 0 (lv_args 0 [.ref a0, .int a1, .int a2, .int a3]) = some (.ref a0)) ?_
  obtain ⟨x11, ex11, hh⟩ := bi_bd hh
  refine go_gfR (pc := 39) rfl ex11 ?_
  obtain ⟨x12, ex12, hh⟩ := bi_bd hh
  refine go_gfI (pc := 42) rfl ex12 ?_
  refine go_imax (pc := 45) rfl (Nat.le_of_ble_eq_true rfl) ?_
  refine go_is (pc := 48) rfl ?_
  refine go_al (pc := 50) rfl (bi_k1 (rfl : ai_ld 0 (lv_args 0 [.ref a0, .int a1, .int a2, .int a3]) = some (.ref a0)) rfl rfl) ?_
  obtain ⟨x13, ex13, hh⟩ := bi_bd hh
  refine go_gfR (pc := 51) rfl ex13 ?_
  obtain ⟨x14, ex14, hh⟩ := bi_bd hh
  refine go_gfR (pc := 54) rfl ex14 ?_
  refine go_il (pc := 57) rfl (bi_k1 (rfl : ai_ld 1 (lv_args 0 [.ref a0, .int a1, .int a2, .int a3]) = some (.int a1)) rfl rfl) ?_
  obtain ⟨x15, ex15, hh⟩ := bi_bd hh
  refine go_iald (pc := 58) rfl ex15 ?_
  refine go_is (pc := 59) rfl ?_
  refine go_pi (pc := 61) rfl ?_
  refine go_is (pc := 62) rfl ?_
  exact sX10_placeIfLegs_64  _ _ _ _ _ _ _ _ _ (bi_k1 (bi_k1 (bi_k1 (rfl : ai_ld 0 (lv_args 0 [.ref a0, .int a1, .int a2, .int a3]) = some (.ref a0)) rfl rfl) rfl rfl) rfl rfl) (bi_k1 (bi_k1 (bi_k1 (rfl : ai_ld 1 (lv_args 0 [.ref a0, .int a1, .int a2, .int a3]) = some (.int a1)) rfl rfl) rfl rfl) rfl rfl) (bi_k1 (bi_k1 (bi_k1 (rfl : ai_ld 3 (lv_args 0 [.ref a0, .int a1, .int a2, .int a3]) = some (.int a3)) rfl rfl) rfl rfl) rfl rfl) (bi_k1 (bi_k1 bi_e1 rfl rfl) rfl rfl) (bi_k1 bi_e1 rfl rfl) bi_e1 hh
def fX10_legs_43 (n : Nat) (r21 : ai_H → Nat → Int32 → Int32 → Int32 → Option (Int32 × ai_H)) (h : ai_H) (v0 : Nat) (v1 : Int32) (v2 : Int32) (v3 : Int32) : Option (Int32 × ai_H) :=
  r21 h v0 v1 v2 (v3 + 1)
theorem sX10_legs_43 {n : Nat} {r21 : ai_H → Nat → Int32 → Int32 → Int32 → Option (Int32 × ai_H)} {q : Int32 × ai_H} {h : ai_H} {v0 : Nat} {v1 : Int32} {v2 : Int32} {v3 : Int32} {lv : ai_L} (R21 : ∀ (h : ai_H) (v0 : Nat) (v1 : Int32) (v2 : Int32) (v3 : Int32) (lv : ai_L), ai_ld 0 lv = some (.ref v0) → ai_ld 1 lv = some (.int v1) → ai_ld 2 lv = some (.int v2) → ai_ld 3 lv = some (.int v3) → r21 h v0 v1 v2 v3 = some q → bi_go 6 tX10_legs n (fI n q) 21 lv [] h) (l0 : ai_ld 0 lv = some (.ref v0)) (l1 : ai_ld 1 lv = some (.int v1)) (l2 : ai_ld 2 lv = some (.int v2)) (l3 : ai_ld 3 lv = some (.int v3)) (hh : fX10_legs_43 n r21 h v0 v1 v2 v3 = some q) : bi_go 6 tX10_legs n (fI n q) 43 lv [] h := by
  unfold fX10_legs_43 at hh
  refine go_inc (pc := 43) rfl l3 ?_
  refine go_goto (pc := 46) rfl ?_
  exact R21 _ _ _ _ _ _ (bi_k1 l0 rfl rfl) (bi_k1 l1 rfl rfl) (bi_k1 l2 rfl rfl) bi_e1 hh
def fX10_legs_21b (n : Nat) (r21 : ai_H → Nat → Int32 → Int32 → Int32 → Option (Int32 × ai_H)) (h : ai_H) (v0 : Nat) (v1 : Int32) (v2 : Int32) (v3 : Int32) : Option (Int32 × ai_H) :=
  if (9 : Int32) < v3 then (
    some (v2, h))
  else (
    (fX10_placeIfLegs n h v0 v1 v3 (0 : Int32)).bind fun q1 =>
    if q1.1 < 0 then (
      fX10_legs_43 n r21 q1.2 v0 v1 v2 v3)
    else (
      fX10_legs_43 n r21 q1.2 v0 v1 (v2 ||| ((1 : Int32) <<< (v3 &&& 31))) v3))
theorem sX10_legs_21b {n : Nat} {r21 : ai_H → Nat → Int32 → Int32 → Int32 → Option (Int32 × ai_H)} {q : Int32 × ai_H} {h : ai_H} {v0 : Nat} {v1 : Int32} {v2 : Int32} {v3 : Int32} {lv : ai_L} (R21 : ∀ (h : ai_H) (v0 : Nat) (v1 : Int32) (v2 : Int32) (v3 : Int32) (lv : ai_L), ai_ld 0 lv = some (.ref v0) → ai_ld 1 lv = some (.int v1) → ai_ld 2 lv = some (.int v2) → ai_ld 3 lv = some (.int v3) → r21 h v0 v1 v2 v3 = some q → bi_go 6 tX10_legs n (fI n q) 21 lv [] h) (l0 : ai_ld 0 lv = some (.ref v0)) (l1 : ai_ld 1 lv = some (.int v1)) (l2 : ai_ld 2 lv = some (.int v2)) (l3 : ai_ld 3 lv = some (.int v3)) (hh : fX10_legs_21b n r21 h v0 v1 v2 v3 = some q) : bi_go 6 tX10_legs n (fI n q) 21 lv [] h := by
  unfold fX10_legs_21b at hh
  refine go_il (pc := 21) rfl l3 ?_
  refine go_pi (pc := 22) rfl ?_
  refine bi_ite hh (fun hc hh => ?_) (fun hc hh => ?_)
  · refine go_cmpgtT (pc := 24) rfl hc ?_
    refine go_il (pc := 49) rfl l2 ?_
    exact go_ri (pc := 50) rfl hh
  · refine go_cmpgtF (pc := 24) rfl hc ?_
    refine go_al (pc := 27) rfl l0 ?_
    refine go_il (pc := 28) rfl l1 ?_
    refine go_il (pc := 29) rfl l3 ?_
    refine go_pi (pc := 30) rfl ?_
    obtain ⟨q1, eq1, hh⟩ := bi_bd hh
    refine go_ivI (pc := 31) rfl rfl (gX10_placeIfLegs eq1) (Nat.le_of_ble_eq_true rfl) (bi_up (sX10_placeIfLegs eq1) (Nat.le_of_ble_eq_true rfl)) ?_
    refine bi_ite hh (fun hc hh => ?_) (fun hc hh => ?_)
    · refine go_ifltT (pc := 34) rfl hc ?_
      exact sX10_legs_43 R21 l0 l1 l2 l3 hh
    · refine go_ifltF (pc := 34) rfl hc ?_
      refine go_il (pc := 37) rfl l2 ?_
      refine go_pi (pc := 38) rfl ?_
      refine go_il (pc := 39) rfl l3 ?_
      refine go_ishl (pc := 40) rfl ?_
      refine go_ior (pc := 41) rfl ?_
      refine go_is (pc := 42) rfl ?_
      exact sX10_legs_43 R21 (bi_k1 l0 rfl rfl) (bi_k1 l1 rfl rfl) bi_e1 (bi_k1 l3 rfl rfl) hh
def fX10_legs_21 (n : Nat) : Nat → ai_H → Nat → Int32 → Int32 → Int32 → Option (Int32 × ai_H)
  | 0 => fun _ _ _ _ _ => none
  | k + 1 => fun h v0 v1 v2 v3 => fX10_legs_21b n (fX10_legs_21 n k) h v0 v1 v2 v3
theorem sX10_legs_21 {n : Nat} {q : Int32 × ai_H} : ∀ (k : Nat) (h : ai_H) (v0 : Nat) (v1 : Int32) (v2 : Int32) (v3 : Int32) (lv : ai_L), ai_ld 0 lv = some (.ref v0) → ai_ld 1 lv = some (.int v1) → ai_ld 2 lv = some (.int v2) → ai_ld 3 lv = some (.int v3) → fX10_legs_21 n k h v0 v1 v2 v3 = some q → bi_go 6 tX10_legs n (fI n q) 21 lv [] h
  | 0 => fun _ _ _ _ _ _ _ _ _ _ hh => by cases hh
  | k + 1 => fun h v0 v1 v2 v3 lv l0 l1 l2 l3 hh => sX10_legs_21b  (sX10_legs_21  k) l0 l1 l2 l3 hh
def fX10_legs (n : Nat) (h : ai_H) (a0 : Nat) (a1 : Int32) : Option (Int32 × ai_H) :=
  (kO n h a0 10).bind fun _ =>
  (fX10_isWalker n h a0 a1).bind fun q1 =>
  if ¬ q1.1 = 0 then (
    (pR n q1.2 a0 10 12).bind fun x2 =>
    (fX4_sift n q1.2 x2).bind fun q3 =>
    fX10_legs_21 n bi_K q3.2 a0 a1 (0 : Int32) (0 : Int32))
  else (
    some ((-1 : Int32), q1.2))
theorem gX10_legs {n : Nat} {h : ai_H} {a0 : Nat} {a1 : Int32} {q : Int32 × ai_H} (hh : fX10_legs n h a0 a1 = some q) : kO n h a0 10 = some () := by
  obtain ⟨_, e, -⟩ := bi_bd hh
  exact e
theorem sX10_legs {n : Nat} {h : ai_H} {a0 : Nat} {a1 : Int32} {q : Int32 × ai_H} (hh : fX10_legs n h a0 a1 = some q) : bi_sp 7 136 [.ref a0, .int a1] h n (fI n q) := by
  refine bi_en (D := 6) (T := tX10_legs) (funext fun pc => rfl) rfl (Nat.le_of_ble_eq_true rfl) ?_
  unfold fX10_legs at hh
  obtain ⟨_, eO, hh⟩ := bi_bd hh
  refine go_al (pc := 0) rfl (rfl : ai_ld 0 (lv_args 0 [.ref a0, .int a1]) = some (.ref a0)) ?_
  refine go_il (pc := 1) rfl (rfl : ai_ld 1 (lv_args 0 [.ref a0, .int a1]) = some (.int a1)) ?_
  obtain ⟨q1, eq1, hh⟩ := bi_bd hh
  refine go_ivI (pc := 2) rfl rfl (gX10_isWalker eq1) (Nat.le_of_ble_eq_true rfl) (bi_up (sX10_isWalker eq1) (Nat.le_of_ble_eq_true rfl)) ?_
  refine bi_ite hh (fun hc hh => ?_) (fun hc hh => ?_)
  · refine go_ifneT (pc := 5) rfl hc ?_
    refine go_al (pc := 10) rfl (rfl : ai_ld 0 (lv_args 0 [.ref a0, .int a1]) = some (.ref a0)) ?_
    obtain ⟨x2, ex2, hh⟩ := bi_bd hh
    refine go_gfR (pc := 11) rfl ex2 ?_
    obtain ⟨q3, eq3, hh⟩ := bi_bd hh
    refine go_ivV (pc := 14) rfl rfl (gX4_sift eq3) (Nat.le_of_ble_eq_true rfl) (bi_up (sX4_sift eq3) (Nat.le_of_ble_eq_true rfl)) ?_
    refine go_pi (pc := 17) rfl ?_
    refine go_is (pc := 18) rfl ?_
    refine go_pi (pc := 19) rfl ?_
    refine go_is (pc := 20) rfl ?_
    exact sX10_legs_21  _ _ _ _ _ _ _ (bi_k1 (bi_k1 (rfl : ai_ld 0 (lv_args 0 [.ref a0, .int a1]) = some (.ref a0)) rfl rfl) rfl rfl) (bi_k1 (bi_k1 (rfl : ai_ld 1 (lv_args 0 [.ref a0, .int a1]) = some (.int a1)) rfl rfl) rfl rfl) (bi_k1 bi_e1 rfl rfl) bi_e1 hh
  · refine go_ifneF (pc := 5) rfl hc ?_
    refine go_pi (pc := 8) rfl ?_
    exact go_ri (pc := 9) rfl hh
def fX10_leftAtWorst (n : Nat) (h : ai_H) (a0 : Int32) (a1 : Int32) : Option (Int32 × ai_H) :=
  some (if a0 < (a1 - a0) then (a1 - a0) else a0, h)
theorem sX10_leftAtWorst {n : Nat} {h : ai_H} {a0 : Int32} {a1 : Int32} {q : Int32 × ai_H} (hh : fX10_leftAtWorst n h a0 a1 = some q) : bi_sp 1 138 [.int a0, .int a1] h n (fI n q) := by
  refine bi_en (D := 0) (T := tX10_leftAtWorst) (funext fun pc => rfl) rfl (Nat.le_of_ble_eq_true rfl) ?_
  unfold fX10_leftAtWorst at hh
  refine go_il (pc := 0) rfl (rfl : ai_ld 0 (lv_args 0 [.int a0, .int a1]) = some (.int a0)) ?_
  refine go_il (pc := 1) rfl (rfl : ai_ld 1 (lv_args 0 [.int a0, .int a1]) = some (.int a1)) ?_
  refine go_il (pc := 2) rfl (rfl : ai_ld 0 (lv_args 0 [.int a0, .int a1]) = some (.int a0)) ?_
  refine go_isub (pc := 3) rfl ?_
  refine go_imax (pc := 4) rfl (Nat.le_of_ble_eq_true rfl) ?_
  exact go_ri (pc := 7) rfl hh
def fX10_sit_99 (n : Nat) (r57 : ai_H → Nat → Int32 → Int32 → Int32 → Nat → Int32 → Int32 → Option (Int32 × ai_H)) (h : ai_H) (v0 : Nat) (v1 : Int32) (v2 : Int32) (v3 : Int32) (v4 : Nat) (v5 : Int32) (v6 : Int32) : Option (Int32 × ai_H) :=
  r57 h v0 v1 v2 v3 v4 v5 (v6 + 1)
theorem sX10_sit_99 {n : Nat} {r57 : ai_H → Nat → Int32 → Int32 → Int32 → Nat → Int32 → Int32 → Option (Int32 × ai_H)} {q : Int32 × ai_H} {h : ai_H} {v0 : Nat} {v1 : Int32} {v2 : Int32} {v3 : Int32} {v4 : Nat} {v5 : Int32} {v6 : Int32} {lv : ai_L} (R57 : ∀ (h : ai_H) (v0 : Nat) (v1 : Int32) (v2 : Int32) (v3 : Int32) (v4 : Nat) (v5 : Int32) (v6 : Int32) (lv : ai_L), ai_ld 0 lv = some (.ref v0) → ai_ld 1 lv = some (.int v1) → ai_ld 2 lv = some (.int v2) → ai_ld 3 lv = some (.int v3) → ai_ld 4 lv = some (.ref v4) → ai_ld 5 lv = some (.int v5) → ai_ld 6 lv = some (.int v6) → r57 h v0 v1 v2 v3 v4 v5 v6 = some q → bi_go 6 tX10_sit n (fI n q) 57 lv [] h) (l0 : ai_ld 0 lv = some (.ref v0)) (l1 : ai_ld 1 lv = some (.int v1)) (l2 : ai_ld 2 lv = some (.int v2)) (l3 : ai_ld 3 lv = some (.int v3)) (l4 : ai_ld 4 lv = some (.ref v4)) (l5 : ai_ld 5 lv = some (.int v5)) (l6 : ai_ld 6 lv = some (.int v6)) (hh : fX10_sit_99 n r57 h v0 v1 v2 v3 v4 v5 v6 = some q) : bi_go 6 tX10_sit n (fI n q) 99 lv [] h := by
  unfold fX10_sit_99 at hh
  refine go_inc (pc := 99) rfl l6 ?_
  refine go_goto (pc := 102) rfl ?_
  exact R57 _ _ _ _ _ _ _ _ _ (bi_k1 l0 rfl rfl) (bi_k1 l1 rfl rfl) (bi_k1 l2 rfl rfl) (bi_k1 l3 rfl rfl) (bi_k1 l4 rfl rfl) (bi_k1 l5 rfl rfl) bi_e1 hh
def fX10_sit_153 (n : Nat) (r111 : ai_H → Nat → Int32 → Nat → Int32 → Int32 → Int32 → Option (Int32 × ai_H)) (h : ai_H) (v0 : Nat) (v3 : Int32) (v4 : Nat) (v5 : Int32) (v6 : Int32) (v7 : Int32) : Option (Int32 × ai_H) :=
  r111 h v0 v3 v4 v5 v6 (v7 + 1)
theorem sX10_sit_153 {n : Nat} {r111 : ai_H → Nat → Int32 → Nat → Int32 → Int32 → Int32 → Option (Int32 × ai_H)} {q : Int32 × ai_H} {h : ai_H} {v0 : Nat} {v3 : Int32} {v4 : Nat} {v5 : Int32} {v6 : Int32} {v7 : Int32} {lv : ai_L} (R111 : ∀ (h : ai_H) (v0 : Nat) (v3 : Int32) (v4 : Nat) (v5 : Int32) (v6 : Int32) (v7 : Int32) (lv : ai_L), ai_ld 0 lv = some (.ref v0) → ai_ld 3 lv = some (.int v3) → ai_ld 4 lv = some (.ref v4) → ai_ld 5 lv = some (.int v5) → ai_ld 6 lv = some (.int v6) → ai_ld 7 lv = some (.int v7) → r111 h v0 v3 v4 v5 v6 v7 = some q → bi_go 6 tX10_sit n (fI n q) 111 lv [] h) (l0 : ai_ld 0 lv = some (.ref v0)) (l3 : ai_ld 3 lv = some (.int v3)) (l4 : ai_ld 4 lv = some (.ref v4)) (l5 : ai_ld 5 lv = some (.int v5)) (l6 : ai_ld 6 lv = some (.int v6)) (l7 : ai_ld 7 lv = some (.int v7)) (hh : fX10_sit_153 n r111 h v0 v3 v4 v5 v6 v7 = some q) : bi_go 6 tX10_sit n (fI n q) 153 lv [] h := by
  unfold fX10_sit_153 at hh
  refine go_inc (pc := 153) rfl l7 ?_
  refine go_goto (pc := 156) rfl ?_
  exact R111 _ _ _ _ _ _ _ _ (bi_k1 l0 rfl rfl) (bi_k1 l3 rfl rfl) (bi_k1 l4 rfl rfl) (bi_k1 l5 rfl rfl) (bi_k1 l6 rfl rfl) bi_e1 hh
def fX10_sit_111b (n : Nat) (r111 : ai_H → Nat → Int32 → Nat → Int32 → Int32 → Int32 → Option (Int32 × ai_H)) (h : ai_H) (v0 : Nat) (v3 : Int32) (v4 : Nat) (v5 : Int32) (v6 : Int32) (v7 : Int32) : Option (Int32 × ai_H) :=
  (pR n h v0 10 3).bind fun x1 =>
  (pR n h x1 8 0).bind fun x2 =>
  (pI n h x2 6 4).bind fun x3 =>
  if x3 ≤ v7 then (
    if ¬ v3 = 0 then (
      (gX 1 n h v4 v6).bind fun x4 =>
      (fX10_leftAtWorst n h x4 v5).bind fun q5 =>
      some (q5.1, q5.2))
    else (
      some (v6, h)))
  else (
    (gX 1 n h v4 v7).bind fun x6 =>
    (fX10_leftAtWorst n h x6 v5).bind fun q7 =>
    (gX 1 n q7.2 v4 v6).bind fun x8 =>
    (fX10_leftAtWorst n q7.2 x8 v5).bind fun q9 =>
    if q9.1 ≤ q7.1 then (
      fX10_sit_153 n r111 q9.2 v0 v3 v4 v5 v6 v7)
    else (
      fX10_sit_153 n r111 q9.2 v0 v3 v4 v5 v7 v7))
theorem sX10_sit_111b {n : Nat} {r111 : ai_H → Nat → Int32 → Nat → Int32 → Int32 → Int32 → Option (Int32 × ai_H)} {q : Int32 × ai_H} {h : ai_H} {v0 : Nat} {v3 : Int32} {v4 : Nat} {v5 : Int32} {v6 : Int32} {v7 : Int32} {lv : ai_L} (R111 : ∀ (h : ai_H) (v0 : Nat) (v3 : Int32) (v4 : Nat) (v5 : Int32) (v6 : Int32) (v7 : Int32) (lv : ai_L), ai_ld 0 lv = some (.ref v0) → ai_ld 3 lv = some (.int v3) → ai_ld 4 lv = some (.ref v4) → ai_ld 5 lv = some (.int v5) → ai_ld 6 lv = some (.int v6) → ai_ld 7 lv = some (.int v7) → r111 h v0 v3 v4 v5 v6 v7 = some q → bi_go 6 tX10_sit n (fI n q) 111 lv [] h) (l0 : ai_ld 0 lv = some (.ref v0)) (l3 : ai_ld 3 lv = some (.int v3)) (l4 : ai_ld 4 lv = some (.ref v4)) (l5 : ai_ld 5 lv = some (.int v5)) (l6 : ai_ld 6 lv = some (.int v6)) (l7 : ai_ld 7 lv = some (.int v7)) (hh : fX10_sit_111b n r111 h v0 v3 v4 v5 v6 v7 = some q) : bi_go 6 tX10_sit n (fI n q) 111 lv [] h := by
  unfold fX10_sit_111b at hh
  refine go_il (pc := 111) rfl l7 ?_
  refine go_al (pc := 113) rfl l0 ?_
  obtain ⟨x1, ex1, hh⟩ := bi_bd hh
  refine go_gfR (pc := 114) rfl ex1 ?_
  obtain ⟨x2, ex2, hh⟩ := bi_bd hh
  refine go_gfR (pc := 117) rfl ex2 ?_
  obtain ⟨x3, ex3, hh⟩ := bi_bd hh
  refine go_gfI (pc := 120) rfl ex3 ?_
  refine bi_ite hh (fun hc hh => ?_) (fun hc hh => ?_)
  · refine go_cmpgeT (pc := 123) rfl hc ?_
    refine go_il (pc := 159) rfl l3 ?_
    refine bi_ite hh (fun hc hh => ?_) (fun hc hh => ?_)
    · refine go_ifneT (pc := 160) rfl hc ?_
      refine go_al (pc := 168) rfl l4 ?_
      refine go_il (pc := 170) rfl l6 ?_
      obtain ⟨x4, ex4, hh⟩ := bi_bd hh
      refine go_iald (pc := 172) rfl ex4 ?_
      refine go_il (pc := 173) rfl l5 ?_
      obtain ⟨q5, eq5, hh⟩ := bi_bd hh
      refine go_iSI (pc := 175) rfl (Nat.le_of_ble_eq_true rfl) rfl (Nat.le_of_ble_eq_true rfl) (bi_up (sX10_leftAtWorst eq5) (Nat.le_of_ble_eq_true rfl)) ?_
      exact go_ri (pc := 178) rfl hh
    · refine go_ifneF (pc := 160) rfl hc ?_
      refine go_il (pc := 163) rfl l6 ?_
      refine go_goto (pc := 165) rfl ?_
      exact go_ri (pc := 178) rfl hh
  · refine go_cmpgeF (pc := 123) rfl hc ?_
    refine go_al (pc := 126) rfl l4 ?_
    refine go_il (pc := 128) rfl l7 ?_
    obtain ⟨x6, ex6, hh⟩ := bi_bd hh
    refine go_iald (pc := 130) rfl ex6 ?_
    refine go_il (pc := 131) rfl l5 ?_
    obtain ⟨q7, eq7, hh⟩ := bi_bd hh
    refine go_iSI (pc := 133) rfl (Nat.le_of_ble_eq_true rfl) rfl (Nat.le_of_ble_eq_true rfl) (bi_up (sX10_leftAtWorst eq7) (Nat.le_of_ble_eq_true rfl)) ?_
    refine go_al (pc := 136) rfl l4 ?_
    refine go_il (pc := 138) rfl l6 ?_
    obtain ⟨x8, ex8, hh⟩ := bi_bd hh
    refine go_iald (pc := 140) rfl ex8 ?_
    refine go_il (pc := 141) rfl l5 ?_
    obtain ⟨q9, eq9, hh⟩ := bi_bd hh
    refine go_iSI (pc := 143) rfl (Nat.le_of_ble_eq_true rfl) rfl (Nat.le_of_ble_eq_true rfl) (bi_up (sX10_leftAtWorst eq9) (Nat.le_of_ble_eq_true rfl)) ?_
    refine bi_ite hh (fun hc hh => ?_) (fun hc hh => ?_)
    · refine go_cmpgeT (pc := 146) rfl hc ?_
      exact sX10_sit_153 R111 l0 l3 l4 l5 l6 l7 hh
    · refine go_cmpgeF (pc := 146) rfl hc ?_
      refine go_il (pc := 149) rfl l7 ?_
      refine go_is (pc := 151) rfl ?_
      exact sX10_sit_153 R111 (bi_k1 l0 rfl rfl) (bi_k1 l3 rfl rfl) (bi_k1 l4 rfl rfl) (bi_k1 l5 rfl rfl) bi_e1 (bi_k1 l7 rfl rfl) hh
def fX10_sit_111 (n : Nat) : Nat → ai_H → Nat → Int32 → Nat → Int32 → Int32 → Int32 → Option (Int32 × ai_H)
  | 0 => fun _ _ _ _ _ _ _ => none
  | k + 1 => fun h v0 v3 v4 v5 v6 v7 => fX10_sit_111b n (fX10_sit_111 n k) h v0 v3 v4 v5 v6 v7
theorem sX10_sit_111 {n : Nat} {q : Int32 × ai_H} : ∀ (k : Nat) (h : ai_H) (v0 : Nat) (v3 : Int32) (v4 : Nat) (v5 : Int32) (v6 : Int32) (v7 : Int32) (lv : ai_L), ai_ld 0 lv = some (.ref v0) → ai_ld 3 lv = some (.int v3) → ai_ld 4 lv = some (.ref v4) → ai_ld 5 lv = some (.int v5) → ai_ld 6 lv = some (.int v6) → ai_ld 7 lv = some (.int v7) → fX10_sit_111 n k h v0 v3 v4 v5 v6 v7 = some q → bi_go 6 tX10_sit n (fI n q) 111 lv [] h
  | 0 => fun _ _ _ _ _ _ _ _ _ _ _ _ _ _ hh => by cases hh
  | k + 1 => fun h v0 v3 v4 v5 v6 v7 lv l0 l3 l4 l5 l6 l7 hh => sX10_sit_111b  (sX10_sit_111  k) l0 l3 l4 l5 l6 l7 hh
def fX10_sit_57b (n : Nat) (r57 : ai_H → Nat → Int32 → Int32 → Int32 → Nat → Int32 → Int32 → Option (Int32 × ai_H)) (h : ai_H) (v0 : Nat) (v1 : Int32) (v2 : Int32) (v3 : Int32) (v4 : Nat) (v5 : Int32) (v6 : Int32) : Option (Int32 × ai_H) :=
  if (9 : Int32) < v6 then (
    fX10_sit_111 n bi_K h v0 v3 v4 v5 (0 : Int32) (1 : Int32))
  else (
    (fX10_placeIfLegs n h v0 v1 v6 v2).bind fun q1 =>
    if q1.1 < 0 then (
      fX10_sit_99 n r57 q1.2 v0 v1 v2 v3 v4 v5 v6)
    else (
      (lA n q1.2 v4).bind fun x2 =>
      if x2 ≤ q1.1 then (
        fX10_sit_99 n r57 q1.2 v0 v1 v2 v3 v4 v5 v6)
      else (
        (gX 1 n q1.2 v4 q1.1).bind fun x3 =>
        (wX 1 (fun x => x) n q1.2 v4 q1.1 (x3 + (1 : Int32))).bind fun h4 =>
        fX10_sit_99 n r57 h4 v0 v1 v2 v3 v4 (v5 + 1) v6)))
theorem sX10_sit_57b {n : Nat} {r57 : ai_H → Nat → Int32 → Int32 → Int32 → Nat → Int32 → Int32 → Option (Int32 × ai_H)} {q : Int32 × ai_H} {h : ai_H} {v0 : Nat} {v1 : Int32} {v2 : Int32} {v3 : Int32} {v4 : Nat} {v5 : Int32} {v6 : Int32} {lv : ai_L} (R57 : ∀ (h : ai_H) (v0 : Nat) (v1 : Int32) (v2 : Int32) (v3 : Int32) (v4 : Nat) (v5 : Int32) (v6 : Int32) (lv : ai_L), ai_ld 0 lv = some (.ref v0) → ai_ld 1 lv = some (.int v1) → ai_ld 2 lv = some (.int v2) → ai_ld 3 lv = some (.int v3) → ai_ld 4 lv = some (.ref v4) → ai_ld 5 lv = some (.int v5) → ai_ld 6 lv = some (.int v6) → r57 h v0 v1 v2 v3 v4 v5 v6 = some q → bi_go 6 tX10_sit n (fI n q) 57 lv [] h) (l0 : ai_ld 0 lv = some (.ref v0)) (l1 : ai_ld 1 lv = some (.int v1)) (l2 : ai_ld 2 lv = some (.int v2)) (l3 : ai_ld 3 lv = some (.int v3)) (l4 : ai_ld 4 lv = some (.ref v4)) (l5 : ai_ld 5 lv = some (.int v5)) (l6 : ai_ld 6 lv = some (.int v6)) (hh : fX10_sit_57b n r57 h v0 v1 v2 v3 v4 v5 v6 = some q) : bi_go 6 tX10_sit n (fI n q) 57 lv [] h := by
  unfold fX10_sit_57b at hh
  refine go_il (pc := 57) rfl l6 ?_
  refine go_pi (pc := 59) rfl ?_
  refine bi_ite hh (fun hc hh => ?_) (fun hc hh => ?_)
  · refine go_cmpgtT (pc := 61) rfl hc ?_
    refine go_pi (pc := 105) rfl ?_
    refine go_is (pc := 106) rfl ?_
    refine go_pi (pc := 108) rfl ?_
    refine go_is (pc := 109) rfl ?_
    exact sX10_sit_111  _ _ _ _ _ _ _ _ _ (bi_k1 (bi_k1 l0 rfl rfl) rfl rfl) (bi_k1 (bi_k1 l3 rfl rfl) rfl rfl) (bi_k1 (bi_k1 l4 rfl rfl) rfl rfl) (bi_k1 (bi_k1 l5 rfl rfl) rfl rfl) (bi_k1 bi_e1 rfl rfl) bi_e1 hh
  · refine go_cmpgtF (pc := 61) rfl hc ?_
    refine go_al (pc := 64) rfl l0 ?_
    refine go_il (pc := 65) rfl l1 ?_
    refine go_il (pc := 66) rfl l6 ?_
    refine go_il (pc := 68) rfl l2 ?_
    obtain ⟨q1, eq1, hh⟩ := bi_bd hh
    refine go_ivI (pc := 69) rfl rfl (gX10_placeIfLegs eq1) (Nat.le_of_ble_eq_true rfl) (bi_up (sX10_placeIfLegs eq1) (Nat.le_of_ble_eq_true rfl)) ?_
    refine go_is (pc := 72) rfl ?_
    refine go_il (pc := 74) rfl bi_e1 ?_
    refine bi_ite hh (fun hc hh => ?_) (fun hc hh => ?_)
    · refine go_ifltT (pc := 76) rfl hc ?_
      exact sX10_sit_99 R57 (bi_k1 l0 rfl rfl) (bi_k1 l1 rfl rfl) (bi_k1 l2 rfl rfl) (bi_k1 l3 rfl rfl) (bi_k1 l4 rfl rfl) (bi_k1 l5 rfl rfl) (bi_k1 l6 rfl rfl) hh
    · refine go_ifltF (pc := 76) rfl hc ?_
      refine go_il (pc := 79) rfl bi_e1 ?_
      refine go_al (pc := 81) rfl (bi_k1 l4 rfl rfl) ?_
      obtain ⟨x2, ex2, hh⟩ := bi_bd hh
      refine go_len (pc := 83) rfl ex2 ?_
      refine bi_ite hh (fun hc hh => ?_) (fun hc hh => ?_)
      · refine go_cmpgeT (pc := 84) rfl hc ?_
        exact sX10_sit_99 R57 (bi_k1 l0 rfl rfl) (bi_k1 l1 rfl rfl) (bi_k1 l2 rfl rfl) (bi_k1 l3 rfl rfl) (bi_k1 l4 rfl rfl) (bi_k1 l5 rfl rfl) (bi_k1 l6 rfl rfl) hh
      · refine go_cmpgeF (pc := 84) rfl hc ?_
        refine go_al (pc := 87) rfl (bi_k1 l4 rfl rfl) ?_
        refine go_il (pc := 89) rfl bi_e1 ?_
        refine go_dup2 (pc := 91) rfl rfl rfl ?_
        obtain ⟨x3, ex3, hh⟩ := bi_bd hh
        refine go_iald (pc := 92) rfl ex3 ?_
        refine go_pi (pc := 93) rfl ?_
        refine go_iadd (pc := 94) rfl ?_
        obtain ⟨h4, eh4, hh⟩ := bi_bd hh
        refine go_iast (pc := 95) rfl eh4 ?_
        refine go_inc (pc := 96) rfl (bi_k1 l5 rfl rfl) ?_
        exact sX10_sit_99 R57 (bi_k1 (bi_k1 l0 rfl rfl) rfl rfl) (bi_k1 (bi_k1 l1 rfl rfl) rfl rfl) (bi_k1 (bi_k1 l2 rfl rfl) rfl rfl) (bi_k1 (bi_k1 l3 rfl rfl) rfl rfl) (bi_k1 (bi_k1 l4 rfl rfl) rfl rfl) bi_e1 (bi_k1 (bi_k1 l6 rfl rfl) rfl rfl) hh
def fX10_sit_57 (n : Nat) : Nat → ai_H → Nat → Int32 → Int32 → Int32 → Nat → Int32 → Int32 → Option (Int32 × ai_H)
  | 0 => fun _ _ _ _ _ _ _ _ => none
  | k + 1 => fun h v0 v1 v2 v3 v4 v5 v6 => fX10_sit_57b n (fX10_sit_57 n k) h v0 v1 v2 v3 v4 v5 v6
theorem sX10_sit_57 {n : Nat} {q : Int32 × ai_H} : ∀ (k : Nat) (h : ai_H) (v0 : Nat) (v1 : Int32) (v2 : Int32) (v3 : Int32) (v4 : Nat) (v5 : Int32) (v6 : Int32) (lv : ai_L), ai_ld 0 lv = some (.ref v0) → ai_ld 1 lv = some (.int v1) → ai_ld 2 lv = some (.int v2) → ai_ld 3 lv = some (.int v3) → ai_ld 4 lv = some (.ref v4) → ai_ld 5 lv = some (.int v5) → ai_ld 6 lv = some (.int v6) → fX10_sit_57 n k h v0 v1 v2 v3 v4 v5 v6 = some q → bi_go 6 tX10_sit n (fI n q) 57 lv [] h
  | 0 => fun _ _ _ _ _ _ _ _ _ _ _ _ _ _ _ _ hh => by cases hh
  | k + 1 => fun h v0 v1 v2 v3 v4 v5 v6 lv l0 l1 l2 l3 l4 l5 l6 hh => sX10_sit_57b  (sX10_sit_57  k) l0 l1 l2 l3 l4 l5 l6 hh
def fX10_sit (n : Nat) (h : ai_H) (a0 : Nat) (a1 : Int32) (a2 : Int32) (a3 : Int32) : Option (Int32 × ai_H) :=
  (kO n h a0 10).bind fun _ =>
  (fX10_isWalker n h a0 a1).bind fun q1 =>
  if q1.1 = 0 then (
    some ((-1 : Int32), q1.2))
  else (
    (fX10_isWithin n q1.2 (1 : Int32) a2 (60 : Int32)).bind fun q2 =>
    if q2.1 = 0 then (
      some ((-1 : Int32), q2.2))
    else (
      (fX10_isWithin n q2.2 (0 : Int32) a3 (1 : Int32)).bind fun q3 =>
      if ¬ q3.1 = 0 then (
        (pR n q3.2 a0 10 12).bind fun x4 =>
        (fX4_sift n q3.2 x4).bind fun q5 =>
        (pR n q5.2 a0 10 12).bind fun x6 =>
        (pR n q5.2 x6 4 8).bind fun x7 =>
        (fJ7_fill_53178 n q5.2 x7 (0 : Int32)).bind fun q8 =>
        fX10_sit_57 n bi_K q8.2 a0 a1 a2 a3 x7 (0 : Int32) (0 : Int32))
      else (
        some ((-1 : Int32), q3.2))))
theorem gX10_sit {n : Nat} {h : ai_H} {a0 : Nat} {a1 : Int32} {a2 : Int32} {a3 : Int32} {q : Int32 × ai_H} (hh : fX10_sit n h a0 a1 a2 a3 = some q) : kO n h a0 10 = some () := by
  obtain ⟨_, e, -⟩ := bi_bd hh
  exact e
theorem sX10_sit {n : Nat} {h : ai_H} {a0 : Nat} {a1 : Int32} {a2 : Int32} {a3 : Int32} {q : Int32 × ai_H} (hh : fX10_sit n h a0 a1 a2 a3 = some q) : bi_sp 7 137 [.ref a0, .int a1, .int a2, .int a3] h n (fI n q) := by
  refine bi_en (D := 6) (T := tX10_sit) (funext fun pc => rfl) rfl (Nat.le_of_ble_eq_true rfl) ?_
  unfold fX10_sit at hh
  obtain ⟨_, eO, hh⟩ := bi_bd hh
  refine go_al (pc := 0) rfl (rfl : ai_ld 0 (lv_args 0 [.ref a0, .int a1, .int a2, .int a3]) = some (.ref a0)) ?_
  refine go_il (pc := 1) rfl (rfl : ai_ld 1 (lv_args 0 [.ref a0, .int a1, .int a2, .int a3]) = some (.int a1)) ?_
  obtain ⟨q1, eq1, hh⟩ := bi_bd hh
  refine go_ivI (pc := 2) rfl rfl (gX10_isWalker eq1) (Nat.le_of_ble_eq_true rfl) (bi_up (sX10_isWalker eq1) (Nat.le_of_ble_eq_true rfl)) ?_
  refine bi_ite hh (fun hc hh => ?_) (fun hc hh => ?_)
  · refine go_ifeqT (pc := 5) rfl hc ?_
    refine go_pi (pc := 27) rfl ?_
    exact go_ri (pc := 28) rfl hh
  · refine go_ifeqF (pc := 5) rfl hc ?_
    refine go_pi (pc := 8) rfl ?_
    refine go_il (pc := 9) rfl (rfl : ai_ld 2 (lv_args 0 [.ref a0, .int a1, .int a2, .int a3]) = some (.int a2)) ?_
    refine go_pi (pc := 10) rfl ?_
    obtain ⟨q2, eq2, hh⟩ := bi_bd hh
    refine go_iSI (pc := 12) rfl (Nat.le_of_ble_eq_true rfl) rfl (Nat.le_of_ble_eq_true rfl) (bi_up (sX10_isWithin eq2) (Nat.le_of_ble_eq_true rfl)) ?_
    refine bi_ite hh (fun hc hh => ?_) (fun hc hh => ?_)
    · refine go_ifeqT (pc := 15) rfl hc ?_
      refine go_pi (pc := 27) rfl ?_
      exact go_ri (pc := 28) rfl hh
    · refine go_ifeqF (pc := 15) rfl hc ?_
      refine go_pi (pc := 18) rfl ?_
      refine go_il (pc := 19) rfl (rfl : ai_ld 3 (lv_args 0 [.ref a0, .int a1, .int a2, .int a3]) = some (.int a3)) ?_
      refine go_pi (pc := 20) rfl ?_
      obtain ⟨q3, eq3, hh⟩ := bi_bd hh
      refine go_iSI (pc := 21) rfl (Nat.le_of_ble_eq_true rfl) rfl (Nat.le_of_ble_eq_true rfl) (bi_up (sX10_isWithin eq3) (Nat.le_of_ble_eq_true rfl)) ?_
      refine bi_ite hh (fun hc hh => ?_) (fun hc hh => ?_)
      · refine go_ifneT (pc := 24) rfl hc ?_
        refine go_al (pc := 29) rfl (rfl : ai_ld 0 (lv_args 0 [.ref a0, .int a1, .int a2, .int a3]) = some (.ref a0)) ?_
        obtain ⟨x4, ex4, hh⟩ := bi_bd hh
        refine go_gfR (pc := 30) rfl ex4 ?_
        obtain ⟨q5, eq5, hh⟩ := bi_bd hh
        refine go_ivV (pc := 33) rfl rfl (gX4_sift eq5) (Nat.le_of_ble_eq_true rfl) (bi_up (sX4_sift eq5) (Nat.le_of_ble_eq_true rfl)) ?_
        refine go_al (pc := 36) rfl (rfl : ai_ld 0 (lv_args 0 [.ref a0, .int a1, .int a2, .int a3]) = some (.ref a0)) ?_
        obtain ⟨x6, ex6, hh⟩ := bi_bd hh
        refine go_gfR (pc := 37) rfl ex6 ?_
        obtain ⟨x7, ex7, hh⟩ := bi_bd hh
        refine go_gfR (pc := 40) rfl ex7 ?_
        refine go_as (pc := 43) rfl ?_
        refine go_al (pc := 45) rfl bi_e1 ?_
        refine go_pi (pc := 47) rfl ?_
        obtain ⟨q8, eq8, hh⟩ := bi_bd hh
        refine go_iSV (pc := 48) rfl (Nat.le_of_ble_eq_true rfl) rfl (Nat.le_of_ble_eq_true rfl) (bi_up (sJ7_fill_53178 eq8) (Nat.le_of_ble_eq_true rfl)) ?_
        refine go_pi (pc := 51) rfl ?_
        refine go_is (pc := 52) rfl ?_
        refine go_pi (pc := 54) rfl ?_
        refine go_is (pc := 55) rfl ?_
        exact sX10_sit_57  _ _ _ _ _ _ _ _ _ _ (bi_k1 (bi_k1 (bi_k1 (rfl : ai_ld 0 (lv_args 0 [.ref a0, .int a1, .int a2, .int a3]) = some (.ref a0)) rfl rfl) rfl rfl) rfl rfl) (bi_k1 (bi_k1 (bi_k1 (rfl : ai_ld 1 (lv_args 0 [.ref a0, .int a1, .int a2, .int a3]) = some (.int a1)) rfl rfl) rfl rfl) rfl rfl) (bi_k1 (bi_k1 (bi_k1 (rfl : ai_ld 2 (lv_args 0 [.ref a0, .int a1, .int a2, .int a3]) = some (.int a2)) rfl rfl) rfl rfl) rfl rfl) (bi_k1 (bi_k1 (bi_k1 (rfl : ai_ld 3 (lv_args 0 [.ref a0, .int a1, .int a2, .int a3]) = some (.int a3)) rfl rfl) rfl rfl) rfl rfl) (bi_k1 (bi_k1 bi_e1 rfl rfl) rfl rfl) (bi_k1 bi_e1 rfl rfl) bi_e1 hh
      · refine go_ifneF (pc := 24) rfl hc ?_
        refine go_pi (pc := 27) rfl ?_
        exact go_ri (pc := 28) rfl hh
