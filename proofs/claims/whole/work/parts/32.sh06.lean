/-! ===== methods as functions, part 6 ===== -/
def fX9_sets_37 (n : Nat) (r4 : ai_H → Nat → Int32 → Int32 → Int32 → Option (Int32 × ai_H)) (h : ai_H) (v0 : Nat) (v1 : Int32) (v2 : Int32) (v3 : Int32) : Option (Int32 × ai_H) :=
  r4 h v0 v1 v2 (v3 + 1)
theorem sX9_sets_37 {n : Nat} {r4 : ai_H → Nat → Int32 → Int32 → Int32 → Option (Int32 × ai_H)} {q : Int32 × ai_H} {h : ai_H} {v0 : Nat} {v1 : Int32} {v2 : Int32} {v3 : Int32} {lv : ai_L} (R4 : ∀ (h : ai_H) (v0 : Nat) (v1 : Int32) (v2 : Int32) (v3 : Int32) (lv : ai_L), ai_ld 0 lv = some (.ref v0) → ai_ld 1 lv = some (.int v1) → ai_ld 2 lv = some (.int v2) → ai_ld 3 lv = some (.int v3) → r4 h v0 v1 v2 v3 = some q → bi_go 3 tX9_sets n (fI n q) 4 lv [] h) (l0 : ai_ld 0 lv = some (.ref v0)) (l1 : ai_ld 1 lv = some (.int v1)) (l2 : ai_ld 2 lv = some (.int v2)) (l3 : ai_ld 3 lv = some (.int v3)) (hh : fX9_sets_37 n r4 h v0 v1 v2 v3 = some q) : bi_go 3 tX9_sets n (fI n q) 37 lv [] h := by
  unfold fX9_sets_37 at hh
  refine go_inc (pc := 37) rfl l3 ?_
  refine go_goto (pc := 40) rfl ?_
  exact R4 _ _ _ _ _ _ (bi_k1 l0 rfl rfl) (bi_k1 l1 rfl rfl) (bi_k1 l2 rfl rfl) bi_e1 hh
def fX9_sets_4b (n : Nat) (r4 : ai_H → Nat → Int32 → Int32 → Int32 → Option (Int32 × ai_H)) (h : ai_H) (v0 : Nat) (v1 : Int32) (v2 : Int32) (v3 : Int32) : Option (Int32 × ai_H) :=
  (pR n h v0 8 0).bind fun x1 =>
  (pI n h x1 6 4).bind fun x2 =>
  if x2 ≤ v3 then (
    some (v2, h))
  else (
    (fX9_spread n h v0 v3 v1).bind fun q3 =>
    if ¬ (q3.1 &&& (((1 : Int32) <<< (v3 &&& 31)) - (1 : Int32))) = 0 then (
      fX9_sets_37 n r4 q3.2 v0 v1 v2 v3)
    else (
      fX9_sets_37 n r4 q3.2 v0 v1 (v2 + 1) v3))
theorem sX9_sets_4b {n : Nat} {r4 : ai_H → Nat → Int32 → Int32 → Int32 → Option (Int32 × ai_H)} {q : Int32 × ai_H} {h : ai_H} {v0 : Nat} {v1 : Int32} {v2 : Int32} {v3 : Int32} {lv : ai_L} (R4 : ∀ (h : ai_H) (v0 : Nat) (v1 : Int32) (v2 : Int32) (v3 : Int32) (lv : ai_L), ai_ld 0 lv = some (.ref v0) → ai_ld 1 lv = some (.int v1) → ai_ld 2 lv = some (.int v2) → ai_ld 3 lv = some (.int v3) → r4 h v0 v1 v2 v3 = some q → bi_go 3 tX9_sets n (fI n q) 4 lv [] h) (l0 : ai_ld 0 lv = some (.ref v0)) (l1 : ai_ld 1 lv = some (.int v1)) (l2 : ai_ld 2 lv = some (.int v2)) (l3 : ai_ld 3 lv = some (.int v3)) (hh : fX9_sets_4b n r4 h v0 v1 v2 v3 = some q) : bi_go 3 tX9_sets n (fI n q) 4 lv [] h := by
  unfold fX9_sets_4b at hh
  refine go_il (pc := 4) rfl l3 ?_
  refine go_al (pc := 5) rfl l0 ?_
  obtain ⟨x1, ex1, hh⟩ := bi_bd hh
  refine go_gfR (pc := 6) rfl ex1 ?_
  obtain ⟨x2, ex2, hh⟩ := bi_bd hh
  refine go_gfI (pc := 9) rfl ex2 ?_
  refine bi_ite hh (fun hc hh => ?_) (fun hc hh => ?_)
  · refine go_cmpgeT (pc := 12) rfl hc ?_
    refine go_il (pc := 43) rfl l2 ?_
    exact go_ri (pc := 44) rfl hh
  · refine go_cmpgeF (pc := 12) rfl hc ?_
    refine go_pi (pc := 15) rfl ?_
    refine go_il (pc := 16) rfl l3 ?_
    refine go_ishl (pc := 17) rfl ?_
    refine go_pi (pc := 18) rfl ?_
    refine go_isub (pc := 19) rfl ?_
    refine go_is (pc := 20) rfl ?_
    refine go_al (pc := 22) rfl (bi_k1 l0 rfl rfl) ?_
    refine go_il (pc := 23) rfl (bi_k1 l3 rfl rfl) ?_
    refine go_il (pc := 24) rfl (bi_k1 l1 rfl rfl) ?_
    obtain ⟨q3, eq3, hh⟩ := bi_bd hh
    refine go_iSI (pc := 25) rfl (Nat.le_of_ble_eq_true rfl) rfl (Nat.le_of_ble_eq_true rfl) (bi_up (sX9_spread eq3) (Nat.le_of_ble_eq_true rfl)) ?_
    refine go_il (pc := 28) rfl bi_e1 ?_
    refine go_iand (pc := 30) rfl ?_
    refine bi_ite hh (fun hc hh => ?_) (fun hc hh => ?_)
    · refine go_ifneT (pc := 31) rfl hc ?_
      exact sX9_sets_37 R4 (bi_k1 l0 rfl rfl) (bi_k1 l1 rfl rfl) (bi_k1 l2 rfl rfl) (bi_k1 l3 rfl rfl) hh
    · refine go_ifneF (pc := 31) rfl hc ?_
      refine go_inc (pc := 34) rfl (bi_k1 l2 rfl rfl) ?_
      exact sX9_sets_37 R4 (bi_k1 (bi_k1 l0 rfl rfl) rfl rfl) (bi_k1 (bi_k1 l1 rfl rfl) rfl rfl) bi_e1 (bi_k1 (bi_k1 l3 rfl rfl) rfl rfl) hh
def fX9_sets_4 (n : Nat) : Nat → ai_H → Nat → Int32 → Int32 → Int32 → Option (Int32 × ai_H)
  | 0 => fun _ _ _ _ _ => none
  | k + 1 => fun h v0 v1 v2 v3 => fX9_sets_4b n (fX9_sets_4 n k) h v0 v1 v2 v3
theorem sX9_sets_4 {n : Nat} {q : Int32 × ai_H} : ∀ (k : Nat) (h : ai_H) (v0 : Nat) (v1 : Int32) (v2 : Int32) (v3 : Int32) (lv : ai_L), ai_ld 0 lv = some (.ref v0) → ai_ld 1 lv = some (.int v1) → ai_ld 2 lv = some (.int v2) → ai_ld 3 lv = some (.int v3) → fX9_sets_4 n k h v0 v1 v2 v3 = some q → bi_go 3 tX9_sets n (fI n q) 4 lv [] h
  | 0 => fun _ _ _ _ _ _ _ _ _ _ hh => by cases hh
  | k + 1 => fun h v0 v1 v2 v3 lv l0 l1 l2 l3 hh => sX9_sets_4b  (sX9_sets_4  k) l0 l1 l2 l3 hh
def fX9_sets (n : Nat) (h : ai_H) (a0 : Nat) (a1 : Int32) : Option (Int32 × ai_H) :=
  fX9_sets_4 n bi_K h a0 a1 (0 : Int32) (0 : Int32)
theorem sX9_sets {n : Nat} {h : ai_H} {a0 : Nat} {a1 : Int32} {q : Int32 × ai_H} (hh : fX9_sets n h a0 a1 = some q) : bi_sp 4 75 [.ref a0, .int a1] h n (fI n q) := by
  refine bi_en (D := 3) (T := tX9_sets) (funext fun pc => rfl) rfl (Nat.le_of_ble_eq_true rfl) ?_
  unfold fX9_sets at hh
  refine go_pi (pc := 0) rfl ?_
  refine go_is (pc := 1) rfl ?_
  refine go_pi (pc := 2) rfl ?_
  refine go_is (pc := 3) rfl ?_
  exact sX9_sets_4  _ _ _ _ _ _ _ (bi_k1 (bi_k1 (rfl : ai_ld 0 (lv_args 0 [.ref a0, .int a1]) = some (.ref a0)) rfl rfl) rfl rfl) (bi_k1 (bi_k1 (rfl : ai_ld 1 (lv_args 0 [.ref a0, .int a1]) = some (.int a1)) rfl rfl) rfl rfl) (bi_k1 bi_e1 rfl rfl) bi_e1 hh
def fJ6_bitCount_0f7a4 (n : Nat) (h : ai_H) (a0 : Int32) : Option (Int32 × ai_H) :=
  some ((((((((a0 - (((a0.toUInt32 >>> ((1 : Int32).toUInt32 &&& Int32.toUInt32 31)).toInt32) &&& (1431655765 : Int32))) &&& (858993459 : Int32)) + ((((a0 - (((a0.toUInt32 >>> ((1 : Int32).toUInt32 &&& Int32.toUInt32 31)).toInt32) &&& (1431655765 : Int32))).toUInt32 >>> ((2 : Int32).toUInt32 &&& Int32.toUInt32 31)).toInt32) &&& (858993459 : Int32))) + (((((a0 - (((a0.toUInt32 >>> ((1 : Int32).toUInt32 &&& Int32.toUInt32 31)).toInt32) &&& (1431655765 : Int32))) &&& (858993459 : Int32)) + ((((a0 - (((a0.toUInt32 >>> ((1 : Int32).toUInt32 &&& Int32.toUInt32 31)).toInt32) &&& (1431655765 : Int32))).toUInt32 >>> ((2 : Int32).toUInt32 &&& Int32.toUInt32 31)).toInt32) &&& (858993459 : Int32))).toUInt32 >>> ((4 : Int32).toUInt32 &&& Int32.toUInt32 31)).toInt32)) &&& (252645135 : Int32)) + (((((((a0 - (((a0.toUInt32 >>> ((1 : Int32).toUInt32 &&& Int32.toUInt32 31)).toInt32) &&& (1431655765 : Int32))) &&& (858993459 : Int32)) + ((((a0 - (((a0.toUInt32 >>> ((1 : Int32).toUInt32 &&& Int32.toUInt32 31)).toInt32) &&& (1431655765 : Int32))).toUInt32 >>> ((2 : Int32).toUInt32 &&& Int32.toUInt32 31)).toInt32) &&& (858993459 : Int32))) + (((((a0 - (((a0.toUInt32 >>> ((1 : Int32).toUInt32 &&& Int32.toUInt32 31)).toInt32) &&& (1431655765 : Int32))) &&& (858993459 : Int32)) + ((((a0 - (((a0.toUInt32 >>> ((1 : Int32).toUInt32 &&& Int32.toUInt32 31)).toInt32) &&& (1431655765 : Int32))).toUInt32 >>> ((2 : Int32).toUInt32 &&& Int32.toUInt32 31)).toInt32) &&& (858993459 : Int32))).toUInt32 >>> ((4 : Int32).toUInt32 &&& Int32.toUInt32 31)).toInt32)) &&& (252645135 : Int32)).toUInt32 >>> ((8 : Int32).toUInt32 &&& Int32.toUInt32 31)).toInt32)) + ((((((((a0 - (((a0.toUInt32 >>> ((1 : Int32).toUInt32 &&& Int32.toUInt32 31)).toInt32) &&& (1431655765 : Int32))) &&& (858993459 : Int32)) + ((((a0 - (((a0.toUInt32 >>> ((1 : Int32).toUInt32 &&& Int32.toUInt32 31)).toInt32) &&& (1431655765 : Int32))).toUInt32 >>> ((2 : Int32).toUInt32 &&& Int32.toUInt32 31)).toInt32) &&& (858993459 : Int32))) + (((((a0 - (((a0.toUInt32 >>> ((1 : Int32).toUInt32 &&& Int32.toUInt32 31)).toInt32) &&& (1431655765 : Int32))) &&& (858993459 : Int32)) + ((((a0 - (((a0.toUInt32 >>> ((1 : Int32).toUInt32 &&& Int32.toUInt32 31)).toInt32) &&& (1431655765 : Int32))).toUInt32 >>> ((2 : Int32).toUInt32 &&& Int32.toUInt32 31)).toInt32) &&& (858993459 : Int32))).toUInt32 >>> ((4 : Int32).toUInt32 &&& Int32.toUInt32 31)).toInt32)) &&& (252645135 : Int32)) + (((((((a0 - (((a0.toUInt32 >>> ((1 : Int32).toUInt32 &&& Int32.toUInt32 31)).toInt32) &&& (1431655765 : Int32))) &&& (858993459 : Int32)) + ((((a0 - (((a0.toUInt32 >>> ((1 : Int32).toUInt32 &&& Int32.toUInt32 31)).toInt32) &&& (1431655765 : Int32))).toUInt32 >>> ((2 : Int32).toUInt32 &&& Int32.toUInt32 31)).toInt32) &&& (858993459 : Int32))) + (((((a0 - (((a0.toUInt32 >>> ((1 : Int32).toUInt32 &&& Int32.toUInt32 31)).toInt32) &&& (1431655765 : Int32))) &&& (858993459 : Int32)) + ((((a0 - (((a0.toUInt32 >>> ((1 : Int32).toUInt32 &&& Int32.toUInt32 31)).toInt32) &&& (1431655765 : Int32))).toUInt32 >>> ((2 : Int32).toUInt32 &&& Int32.toUInt32 31)).toInt32) &&& (858993459 : Int32))).toUInt32 >>> ((4 : Int32).toUInt32 &&& Int32.toUInt32 31)).toInt32)) &&& (252645135 : Int32)).toUInt32 >>> ((8 : Int32).toUInt32 &&& Int32.toUInt32 31)).toInt32)).toUInt32 >>> ((16 : Int32).toUInt32 &&& Int32.toUInt32 31)).toInt32)) &&& (63 : Int32), h)
theorem sJ6_bitCount_0f7a4 {n : Nat} {h : ai_H} {a0 : Int32} {q : Int32 × ai_H} (hh : fJ6_bitCount_0f7a4 n h a0 = some q) : bi_sp 1 267 [.int a0] h n (fI n q) := by
  refine bi_en (D := 0) (T := tJ6_bitCount_0f7a4) (funext fun pc => rfl) rfl (Nat.le_of_ble_eq_true rfl) ?_
  unfold fJ6_bitCount_0f7a4 at hh
  refine go_il (pc := 0) rfl (rfl : ai_ld 0 (lv_args 0 [.int a0]) = some (.int a0)) ?_
  refine go_il (pc := 1) rfl (rfl : ai_ld 0 (lv_args 0 [.int a0]) = some (.int a0)) ?_
  refine go_pi (pc := 2) rfl ?_
  refine go_iushr (pc := 3) rfl ?_
  refine go_pi (pc := 4) rfl ?_
  refine go_iand (pc := 7) rfl ?_
  refine go_isub (pc := 8) rfl ?_
  refine go_is (pc := 9) rfl ?_
  refine go_il (pc := 10) rfl bi_e1 ?_
  refine go_pi (pc := 11) rfl ?_
  refine go_iand (pc := 14) rfl ?_
  refine go_il (pc := 15) rfl bi_e1 ?_
  refine go_pi (pc := 16) rfl ?_
  refine go_iushr (pc := 17) rfl ?_
  refine go_pi (pc := 18) rfl ?_
  refine go_iand (pc := 21) rfl ?_
  refine go_iadd (pc := 22) rfl ?_
  refine go_is (pc := 23) rfl ?_
  refine go_il (pc := 24) rfl bi_e1 ?_
  refine go_il (pc := 25) rfl bi_e1 ?_
  refine go_pi (pc := 26) rfl ?_
  refine go_iushr (pc := 27) rfl ?_
  refine go_iadd (pc := 28) rfl ?_
  refine go_pi (pc := 29) rfl ?_
  refine go_iand (pc := 32) rfl ?_
  refine go_is (pc := 33) rfl ?_
  refine go_il (pc := 34) rfl bi_e1 ?_
  refine go_il (pc := 35) rfl bi_e1 ?_
  refine go_pi (pc := 36) rfl ?_
  refine go_iushr (pc := 38) rfl ?_
  refine go_iadd (pc := 39) rfl ?_
  refine go_is (pc := 40) rfl ?_
  refine go_il (pc := 41) rfl bi_e1 ?_
  refine go_il (pc := 42) rfl bi_e1 ?_
  refine go_pi (pc := 43) rfl ?_
  refine go_iushr (pc := 45) rfl ?_
  refine go_iadd (pc := 46) rfl ?_
  refine go_is (pc := 47) rfl ?_
  refine go_il (pc := 48) rfl bi_e1 ?_
  refine go_pi (pc := 49) rfl ?_
  refine go_iand (pc := 51) rfl ?_
  exact go_ri (pc := 52) rfl hh
def fX9_pairs_4b (n : Nat) (r4 : ai_H → Nat → Int32 → Int32 → Int32 → Option (Int32 × ai_H)) (h : ai_H) (v0 : Nat) (v1 : Int32) (v2 : Int32) (v3 : Int32) : Option (Int32 × ai_H) :=
  (pR n h v0 8 0).bind fun x1 =>
  (pI n h x1 6 4).bind fun x2 =>
  if x2 ≤ v3 then (
    (dI v2 (2 : Int32)).bind fun x3 =>
    some (x3, h))
  else (
    (fX9_spread n h v0 v3 v1).bind fun q4 =>
    (fJ6_bitCount_0f7a4 n q4.2 q4.1).bind fun q5 =>
    r4 q5.2 v0 v1 (v2 + (q5.1 - (1 : Int32))) (v3 + 1))
theorem sX9_pairs_4b {n : Nat} {r4 : ai_H → Nat → Int32 → Int32 → Int32 → Option (Int32 × ai_H)} {q : Int32 × ai_H} {h : ai_H} {v0 : Nat} {v1 : Int32} {v2 : Int32} {v3 : Int32} {lv : ai_L} (R4 : ∀ (h : ai_H) (v0 : Nat) (v1 : Int32) (v2 : Int32) (v3 : Int32) (lv : ai_L), ai_ld 0 lv = some (.ref v0) → ai_ld 1 lv = some (.int v1) → ai_ld 2 lv = some (.int v2) → ai_ld 3 lv = some (.int v3) → r4 h v0 v1 v2 v3 = some q → bi_go 3 tX9_pairs n (fI n q) 4 lv [] h) (l0 : ai_ld 0 lv = some (.ref v0)) (l1 : ai_ld 1 lv = some (.int v1)) (l2 : ai_ld 2 lv = some (.int v2)) (l3 : ai_ld 3 lv = some (.int v3)) (hh : fX9_pairs_4b n r4 h v0 v1 v2 v3 = some q) : bi_go 3 tX9_pairs n (fI n q) 4 lv [] h := by
  unfold fX9_pairs_4b at hh
  refine go_il (pc := 4) rfl l3 ?_
  refine go_al (pc := 5) rfl l0 ?_
  obtain ⟨x1, ex1, hh⟩ := bi_bd hh
  refine go_gfR (pc := 6) rfl ex1 ?_
  obtain ⟨x2, ex2, hh⟩ := bi_bd hh
  refine go_gfI (pc := 9) rfl ex2 ?_
  refine bi_ite hh (fun hc hh => ?_) (fun hc hh => ?_)
  · refine go_cmpgeT (pc := 12) rfl hc ?_
    refine go_il (pc := 35) rfl l2 ?_
    refine go_pi (pc := 36) rfl ?_
    obtain ⟨x3, ex3, hh⟩ := bi_bd hh
    refine go_idiv (pc := 37) rfl ex3 ?_
    exact go_ri (pc := 38) rfl hh
  · refine go_cmpgeF (pc := 12) rfl hc ?_
    refine go_il (pc := 15) rfl l2 ?_
    refine go_al (pc := 16) rfl l0 ?_
    refine go_il (pc := 17) rfl l3 ?_
    refine go_il (pc := 18) rfl l1 ?_
    obtain ⟨q4, eq4, hh⟩ := bi_bd hh
    refine go_iSI (pc := 19) rfl (Nat.le_of_ble_eq_true rfl) rfl (Nat.le_of_ble_eq_true rfl) (bi_up (sX9_spread eq4) (Nat.le_of_ble_eq_true rfl)) ?_
    obtain ⟨q5, eq5, hh⟩ := bi_bd hh
    refine go_iSI (pc := 22) rfl (Nat.le_of_ble_eq_true rfl) rfl (Nat.le_of_ble_eq_true rfl) (bi_up (sJ6_bitCount_0f7a4 eq5) (Nat.le_of_ble_eq_true rfl)) ?_
    refine go_pi (pc := 25) rfl ?_
    refine go_isub (pc := 26) rfl ?_
    refine go_iadd (pc := 27) rfl ?_
    refine go_is (pc := 28) rfl ?_
    refine go_inc (pc := 29) rfl (bi_k1 l3 rfl rfl) ?_
    refine go_goto (pc := 32) rfl ?_
    exact R4 _ _ _ _ _ _ (bi_k1 (bi_k1 l0 rfl rfl) rfl rfl) (bi_k1 (bi_k1 l1 rfl rfl) rfl rfl) (bi_k1 bi_e1 rfl rfl) bi_e1 hh
def fX9_pairs_4 (n : Nat) : Nat → ai_H → Nat → Int32 → Int32 → Int32 → Option (Int32 × ai_H)
  | 0 => fun _ _ _ _ _ => none
  | k + 1 => fun h v0 v1 v2 v3 => fX9_pairs_4b n (fX9_pairs_4 n k) h v0 v1 v2 v3
theorem sX9_pairs_4 {n : Nat} {q : Int32 × ai_H} : ∀ (k : Nat) (h : ai_H) (v0 : Nat) (v1 : Int32) (v2 : Int32) (v3 : Int32) (lv : ai_L), ai_ld 0 lv = some (.ref v0) → ai_ld 1 lv = some (.int v1) → ai_ld 2 lv = some (.int v2) → ai_ld 3 lv = some (.int v3) → fX9_pairs_4 n k h v0 v1 v2 v3 = some q → bi_go 3 tX9_pairs n (fI n q) 4 lv [] h
  | 0 => fun _ _ _ _ _ _ _ _ _ _ hh => by cases hh
  | k + 1 => fun h v0 v1 v2 v3 lv l0 l1 l2 l3 hh => sX9_pairs_4b  (sX9_pairs_4  k) l0 l1 l2 l3 hh
def fX9_pairs (n : Nat) (h : ai_H) (a0 : Nat) (a1 : Int32) : Option (Int32 × ai_H) :=
  fX9_pairs_4 n bi_K h a0 a1 (0 : Int32) (0 : Int32)
theorem sX9_pairs {n : Nat} {h : ai_H} {a0 : Nat} {a1 : Int32} {q : Int32 × ai_H} (hh : fX9_pairs n h a0 a1 = some q) : bi_sp 4 76 [.ref a0, .int a1] h n (fI n q) := by
  refine bi_en (D := 3) (T := tX9_pairs) (funext fun pc => rfl) rfl (Nat.le_of_ble_eq_true rfl) ?_
  unfold fX9_pairs at hh
  refine go_pi (pc := 0) rfl ?_
  refine go_is (pc := 1) rfl ?_
  refine go_pi (pc := 2) rfl ?_
  refine go_is (pc := 3) rfl ?_
  exact sX9_pairs_4  _ _ _ _ _ _ _ (bi_k1 (bi_k1 (rfl : ai_ld 0 (lv_args 0 [.ref a0, .int a1]) = some (.ref a0)) rfl rfl) rfl rfl) (bi_k1 (bi_k1 (rfl : ai_ld 1 (lv_args 0 [.ref a0, .int a1]) = some (.int a1)) rfl rfl) rfl rfl) (bi_k1 bi_e1 rfl rfl) bi_e1 hh
def fX9_endsOfAll_31 (n : Nat) (r4 : ai_H → Nat → Int32 → Int32 → Int32 → Option (Int32 × ai_H)) (h : ai_H) (v0 : Nat) (v1 : Int32) (v2 : Int32) (v3 : Int32) : Option (Int32 × ai_H) :=
  r4 h v0 v1 v2 (v3 + 1)
theorem sX9_endsOfAll_31 {n : Nat} {r4 : ai_H → Nat → Int32 → Int32 → Int32 → Option (Int32 × ai_H)} {q : Int32 × ai_H} {h : ai_H} {v0 : Nat} {v1 : Int32} {v2 : Int32} {v3 : Int32} {lv : ai_L} (R4 : ∀ (h : ai_H) (v0 : Nat) (v1 : Int32) (v2 : Int32) (v3 : Int32) (lv : ai_L), ai_ld 0 lv = some (.ref v0) → ai_ld 1 lv = some (.int v1) → ai_ld 2 lv = some (.int v2) → ai_ld 3 lv = some (.int v3) → r4 h v0 v1 v2 v3 = some q → bi_go 2 tX9_endsOfAll n (fI n q) 4 lv [] h) (l0 : ai_ld 0 lv = some (.ref v0)) (l1 : ai_ld 1 lv = some (.int v1)) (l2 : ai_ld 2 lv = some (.int v2)) (l3 : ai_ld 3 lv = some (.int v3)) (hh : fX9_endsOfAll_31 n r4 h v0 v1 v2 v3 = some q) : bi_go 2 tX9_endsOfAll n (fI n q) 31 lv [] h := by
  unfold fX9_endsOfAll_31 at hh
  refine go_inc (pc := 31) rfl l3 ?_
  refine go_goto (pc := 34) rfl ?_
  exact R4 _ _ _ _ _ _ (bi_k1 l0 rfl rfl) (bi_k1 l1 rfl rfl) (bi_k1 l2 rfl rfl) bi_e1 hh
def fX9_endsOfAll_4b (n : Nat) (r4 : ai_H → Nat → Int32 → Int32 → Int32 → Option (Int32 × ai_H)) (h : ai_H) (v0 : Nat) (v1 : Int32) (v2 : Int32) (v3 : Int32) : Option (Int32 × ai_H) :=
  (pR n h v0 8 1).bind fun x1 =>
  (pI n h x1 6 4).bind fun x2 =>
  if x2 ≤ v3 then (
    some (v2, h))
  else (
    if ((v1 >>> (v3 &&& 31)) &&& (1 : Int32)) = 0 then (
      fX9_endsOfAll_31 n r4 h v0 v1 v2 v3)
    else (
      (fX8_ends n h v0 v3).bind fun q3 =>
      fX9_endsOfAll_31 n r4 q3.2 v0 v1 (v2 ||| q3.1) v3))
theorem sX9_endsOfAll_4b {n : Nat} {r4 : ai_H → Nat → Int32 → Int32 → Int32 → Option (Int32 × ai_H)} {q : Int32 × ai_H} {h : ai_H} {v0 : Nat} {v1 : Int32} {v2 : Int32} {v3 : Int32} {lv : ai_L} (R4 : ∀ (h : ai_H) (v0 : Nat) (v1 : Int32) (v2 : Int32) (v3 : Int32) (lv : ai_L), ai_ld 0 lv = some (.ref v0) → ai_ld 1 lv = some (.int v1) → ai_ld 2 lv = some (.int v2) → ai_ld 3 lv = some (.int v3) → r4 h v0 v1 v2 v3 = some q → bi_go 2 tX9_endsOfAll n (fI n q) 4 lv [] h) (l0 : ai_ld 0 lv = some (.ref v0)) (l1 : ai_ld 1 lv = some (.int v1)) (l2 : ai_ld 2 lv = some (.int v2)) (l3 : ai_ld 3 lv = some (.int v3)) (hh : fX9_endsOfAll_4b n r4 h v0 v1 v2 v3 = some q) : bi_go 2 tX9_endsOfAll n (fI n q) 4 lv [] h := by
  unfold fX9_endsOfAll_4b at hh
  refine go_il (pc := 4) rfl l3 ?_
  refine go_al (pc := 5) rfl l0 ?_
  obtain ⟨x1, ex1, hh⟩ := bi_bd hh
  refine go_gfR (pc := 6) rfl ex1 ?_
  obtain ⟨x2, ex2, hh⟩ := bi_bd hh
  refine go_gfI (pc := 9) rfl ex2 ?_
  refine bi_ite hh (fun hc hh => ?_) (fun hc hh => ?_)
  · refine go_cmpgeT (pc := 12) rfl hc ?_
    refine go_il (pc := 37) rfl l2 ?_
    exact go_ri (pc := 38) rfl hh
  · refine go_cmpgeF (pc := 12) rfl hc ?_
    refine go_il (pc := 15) rfl l1 ?_
    refine go_il (pc := 16) rfl l3 ?_
    refine go_ishr (pc := 17) rfl ?_
    refine go_pi (pc := 18) rfl ?_
    refine go_iand (pc := 19) rfl ?_
    refine bi_ite hh (fun hc hh => ?_) (fun hc hh => ?_)
    · refine go_ifeqT (pc := 20) rfl hc ?_
      exact sX9_endsOfAll_31 R4 l0 l1 l2 l3 hh
    · refine go_ifeqF (pc := 20) rfl hc ?_
      refine go_il (pc := 23) rfl l2 ?_
      refine go_al (pc := 24) rfl l0 ?_
      refine go_il (pc := 25) rfl l3 ?_
      obtain ⟨q3, eq3, hh⟩ := bi_bd hh
      refine go_ivI (pc := 26) rfl rfl (gX8_ends eq3) (Nat.le_of_ble_eq_true rfl) (bi_up (sX8_ends eq3) (Nat.le_of_ble_eq_true rfl)) ?_
      refine go_ior (pc := 29) rfl ?_
      refine go_is (pc := 30) rfl ?_
      exact sX9_endsOfAll_31 R4 (bi_k1 l0 rfl rfl) (bi_k1 l1 rfl rfl) bi_e1 (bi_k1 l3 rfl rfl) hh
def fX9_endsOfAll_4 (n : Nat) : Nat → ai_H → Nat → Int32 → Int32 → Int32 → Option (Int32 × ai_H)
  | 0 => fun _ _ _ _ _ => none
  | k + 1 => fun h v0 v1 v2 v3 => fX9_endsOfAll_4b n (fX9_endsOfAll_4 n k) h v0 v1 v2 v3
theorem sX9_endsOfAll_4 {n : Nat} {q : Int32 × ai_H} : ∀ (k : Nat) (h : ai_H) (v0 : Nat) (v1 : Int32) (v2 : Int32) (v3 : Int32) (lv : ai_L), ai_ld 0 lv = some (.ref v0) → ai_ld 1 lv = some (.int v1) → ai_ld 2 lv = some (.int v2) → ai_ld 3 lv = some (.int v3) → fX9_endsOfAll_4 n k h v0 v1 v2 v3 = some q → bi_go 2 tX9_endsOfAll n (fI n q) 4 lv [] h
  | 0 => fun _ _ _ _ _ _ _ _ _ _ hh => by cases hh
  | k + 1 => fun h v0 v1 v2 v3 lv l0 l1 l2 l3 hh => sX9_endsOfAll_4b  (sX9_endsOfAll_4  k) l0 l1 l2 l3 hh
def fX9_endsOfAll (n : Nat) (h : ai_H) (a0 : Nat) (a1 : Int32) : Option (Int32 × ai_H) :=
  fX9_endsOfAll_4 n bi_K h a0 a1 (0 : Int32) (0 : Int32)
theorem sX9_endsOfAll {n : Nat} {h : ai_H} {a0 : Nat} {a1 : Int32} {q : Int32 × ai_H} (hh : fX9_endsOfAll n h a0 a1 = some q) : bi_sp 3 78 [.ref a0, .int a1] h n (fI n q) := by
  refine bi_en (D := 2) (T := tX9_endsOfAll) (funext fun pc => rfl) rfl (Nat.le_of_ble_eq_true rfl) ?_
  unfold fX9_endsOfAll at hh
  refine go_pi (pc := 0) rfl ?_
  refine go_is (pc := 1) rfl ?_
  refine go_pi (pc := 2) rfl ?_
  refine go_is (pc := 3) rfl ?_
  exact sX9_endsOfAll_4  _ _ _ _ _ _ _ (bi_k1 (bi_k1 (rfl : ai_ld 0 (lv_args 0 [.ref a0, .int a1]) = some (.ref a0)) rfl rfl) rfl rfl) (bi_k1 (bi_k1 (rfl : ai_ld 1 (lv_args 0 [.ref a0, .int a1]) = some (.int a1)) rfl rfl) rfl rfl) (bi_k1 bi_e1 rfl rfl) bi_e1 hh
def fX9_blindEnds_51 (n : Nat) (r4 : ai_H → Nat → Int32 → Int32 → Int32 → Option (Int32 × ai_H)) (h : ai_H) (v0 : Nat) (v1 : Int32) (v2 : Int32) (v3 : Int32) : Option (Int32 × ai_H) :=
  r4 h v0 v1 v2 (v3 + 1)
theorem sX9_blindEnds_51 {n : Nat} {r4 : ai_H → Nat → Int32 → Int32 → Int32 → Option (Int32 × ai_H)} {q : Int32 × ai_H} {h : ai_H} {v0 : Nat} {v1 : Int32} {v2 : Int32} {v3 : Int32} {lv : ai_L} (R4 : ∀ (h : ai_H) (v0 : Nat) (v1 : Int32) (v2 : Int32) (v3 : Int32) (lv : ai_L), ai_ld 0 lv = some (.ref v0) → ai_ld 1 lv = some (.int v1) → ai_ld 2 lv = some (.int v2) → ai_ld 3 lv = some (.int v3) → r4 h v0 v1 v2 v3 = some q → bi_go 3 tX9_blindEnds n (fI n q) 4 lv [] h) (l0 : ai_ld 0 lv = some (.ref v0)) (l1 : ai_ld 1 lv = some (.int v1)) (l2 : ai_ld 2 lv = some (.int v2)) (l3 : ai_ld 3 lv = some (.int v3)) (hh : fX9_blindEnds_51 n r4 h v0 v1 v2 v3 = some q) : bi_go 3 tX9_blindEnds n (fI n q) 51 lv [] h := by
  unfold fX9_blindEnds_51 at hh
  refine go_inc (pc := 51) rfl l3 ?_
  refine go_goto (pc := 54) rfl ?_
  exact R4 _ _ _ _ _ _ (bi_k1 l0 rfl rfl) (bi_k1 l1 rfl rfl) (bi_k1 l2 rfl rfl) bi_e1 hh
def fX9_blindEnds_4b (n : Nat) (r4 : ai_H → Nat → Int32 → Int32 → Int32 → Option (Int32 × ai_H)) (h : ai_H) (v0 : Nat) (v1 : Int32) (v2 : Int32) (v3 : Int32) : Option (Int32 × ai_H) :=
  (pR n h v0 8 1).bind fun x1 =>
  (pI n h x1 6 4).bind fun x2 =>
  if x2 ≤ v3 then (
    some (v2, h))
  else (
    if ((v1 >>> (v3 &&& 31)) &&& (1 : Int32)) = 0 then (
      fX9_blindEnds_51 n r4 h v0 v1 v2 v3)
    else (
      (fX8_ends n h v0 v3).bind fun q3 =>
      (fX9_endsOfAll n q3.2 v0 (v1 &&& (((1 : Int32) <<< (v3 &&& 31)) ^^^ (-1 : Int32)))).bind fun q4 =>
      if (q3.1 &&& (q4.1 ^^^ (-1 : Int32))) = 0 then (
        fX9_blindEnds_51 n r4 q4.2 v0 v1 v2 v3)
      else (
        fX9_blindEnds_51 n r4 q4.2 v0 v1 (v2 ||| ((1 : Int32) <<< (v3 &&& 31))) v3)))
theorem sX9_blindEnds_4b {n : Nat} {r4 : ai_H → Nat → Int32 → Int32 → Int32 → Option (Int32 × ai_H)} {q : Int32 × ai_H} {h : ai_H} {v0 : Nat} {v1 : Int32} {v2 : Int32} {v3 : Int32} {lv : ai_L} (R4 : ∀ (h : ai_H) (v0 : Nat) (v1 : Int32) (v2 : Int32) (v3 : Int32) (lv : ai_L), ai_ld 0 lv = some (.ref v0) → ai_ld 1 lv = some (.int v1) → ai_ld 2 lv = some (.int v2) → ai_ld 3 lv = some (.int v3) → r4 h v0 v1 v2 v3 = some q → bi_go 3 tX9_blindEnds n (fI n q) 4 lv [] h) (l0 : ai_ld 0 lv = some (.ref v0)) (l1 : ai_ld 1 lv = some (.int v1)) (l2 : ai_ld 2 lv = some (.int v2)) (l3 : ai_ld 3 lv = some (.int v3)) (hh : fX9_blindEnds_4b n r4 h v0 v1 v2 v3 = some q) : bi_go 3 tX9_blindEnds n (fI n q) 4 lv [] h := by
  unfold fX9_blindEnds_4b at hh
  refine go_il (pc := 4) rfl l3 ?_
  refine go_al (pc := 5) rfl l0 ?_
  obtain ⟨x1, ex1, hh⟩ := bi_bd hh
  refine go_gfR (pc := 6) rfl ex1 ?_
  obtain ⟨x2, ex2, hh⟩ := bi_bd hh
  refine go_gfI (pc := 9) rfl ex2 ?_
  refine bi_ite hh (fun hc hh => ?_) (fun hc hh => ?_)
  · refine go_cmpgeT (pc := 12) rfl hc ?_
    refine go_il (pc := 57) rfl l2 ?_
    exact go_ri (pc := 58) rfl hh
  · refine go_cmpgeF (pc := 12) rfl hc ?_
    refine go_il (pc := 15) rfl l1 ?_
    refine go_il (pc := 16) rfl l3 ?_
    refine go_ishr (pc := 17) rfl ?_
    refine go_pi (pc := 18) rfl ?_
    refine go_iand (pc := 19) rfl ?_
    refine bi_ite hh (fun hc hh => ?_) (fun hc hh => ?_)
    · refine go_ifeqT (pc := 20) rfl hc ?_
      exact sX9_blindEnds_51 R4 l0 l1 l2 l3 hh
    · refine go_ifeqF (pc := 20) rfl hc ?_
      refine go_al (pc := 23) rfl l0 ?_
      refine go_il (pc := 24) rfl l3 ?_
      obtain ⟨q3, eq3, hh⟩ := bi_bd hh
      refine go_ivI (pc := 25) rfl rfl (gX8_ends eq3) (Nat.le_of_ble_eq_true rfl) (bi_up (sX8_ends eq3) (Nat.le_of_ble_eq_true rfl)) ?_
      refine go_al (pc := 28) rfl l0 ?_
      refine go_il (pc := 29) rfl l1 ?_
      refine go_pi (pc := 30) rfl ?_
      refine go_il (pc := 31) rfl l3 ?_
      refine go_ishl (pc := 32) rfl ?_
      refine go_pi (pc := 33) rfl ?_
      refine go_ixor (pc := 34) rfl ?_
      refine go_iand (pc := 35) rfl ?_
      obtain ⟨q4, eq4, hh⟩ := bi_bd hh
      refine go_iSI (pc := 36) rfl (Nat.le_of_ble_eq_true rfl) rfl (Nat.le_of_ble_eq_true rfl) (bi_up (sX9_endsOfAll eq4) (Nat.le_of_ble_eq_true rfl)) ?_
      refine go_pi (pc := 39) rfl ?_
      refine go_ixor (pc := 40) rfl ?_
      refine go_iand (pc := 41) rfl ?_
      refine bi_ite hh (fun hc hh => ?_) (fun hc hh => ?_)
      · refine go_ifeqT (pc := 42) rfl hc ?_
        exact sX9_blindEnds_51 R4 l0 l1 l2 l3 hh
      · refine go_ifeqF (pc := 42) rfl hc ?_
        refine go_il (pc := 45) rfl l2 ?_
        refine go_pi (pc := 46) rfl ?_
        refine go_il (pc := 47) rfl l3 ?_
        refine go_ishl (pc := 48) rfl ?_
        refine go_ior (pc := 49) rfl ?_
        refine go_is (pc := 50) rfl ?_
        exact sX9_blindEnds_51 R4 (bi_k1 l0 rfl rfl) (bi_k1 l1 rfl rfl) bi_e1 (bi_k1 l3 rfl rfl) hh
def fX9_blindEnds_4 (n : Nat) : Nat → ai_H → Nat → Int32 → Int32 → Int32 → Option (Int32 × ai_H)
  | 0 => fun _ _ _ _ _ => none
  | k + 1 => fun h v0 v1 v2 v3 => fX9_blindEnds_4b n (fX9_blindEnds_4 n k) h v0 v1 v2 v3
theorem sX9_blindEnds_4 {n : Nat} {q : Int32 × ai_H} : ∀ (k : Nat) (h : ai_H) (v0 : Nat) (v1 : Int32) (v2 : Int32) (v3 : Int32) (lv : ai_L), ai_ld 0 lv = some (.ref v0) → ai_ld 1 lv = some (.int v1) → ai_ld 2 lv = some (.int v2) → ai_ld 3 lv = some (.int v3) → fX9_blindEnds_4 n k h v0 v1 v2 v3 = some q → bi_go 3 tX9_blindEnds n (fI n q) 4 lv [] h
  | 0 => fun _ _ _ _ _ _ _ _ _ _ hh => by cases hh
  | k + 1 => fun h v0 v1 v2 v3 lv l0 l1 l2 l3 hh => sX9_blindEnds_4b  (sX9_blindEnds_4  k) l0 l1 l2 l3 hh
def fX9_blindEnds (n : Nat) (h : ai_H) (a0 : Nat) (a1 : Int32) : Option (Int32 × ai_H) :=
  fX9_blindEnds_4 n bi_K h a0 a1 (0 : Int32) (0 : Int32)
theorem sX9_blindEnds {n : Nat} {h : ai_H} {a0 : Nat} {a1 : Int32} {q : Int32 × ai_H} (hh : fX9_blindEnds n h a0 a1 = some q) : bi_sp 4 77 [.ref a0, .int a1] h n (fI n q) := by
  refine bi_en (D := 3) (T := tX9_blindEnds) (funext fun pc => rfl) rfl (Nat.le_of_ble_eq_true rfl) ?_
  unfold fX9_blindEnds at hh
  refine go_pi (pc := 0) rfl ?_
  refine go_is (pc := 1) rfl ?_
  refine go_pi (pc := 2) rfl ?_
  refine go_is (pc := 3) rfl ?_
  exact sX9_blindEnds_4  _ _ _ _ _ _ _ (bi_k1 (bi_k1 (rfl : ai_ld 0 (lv_args 0 [.ref a0, .int a1]) = some (.ref a0)) rfl rfl) rfl rfl) (bi_k1 (bi_k1 (rfl : ai_ld 1 (lv_args 0 [.ref a0, .int a1]) = some (.int a1)) rfl rfl) rfl rfl) (bi_k1 bi_e1 rfl rfl) bi_e1 hh
def fX9_isWatched_33 (n : Nat) (r2 : ai_H → Nat → Int32 → Int32 → Int32 → Option (Int32 × ai_H)) (h : ai_H) (v0 : Nat) (v1 : Int32) (v2 : Int32) (v3 : Int32) : Option (Int32 × ai_H) :=
  r2 h v0 v1 v2 (v3 + 1)
theorem sX9_isWatched_33 {n : Nat} {r2 : ai_H → Nat → Int32 → Int32 → Int32 → Option (Int32 × ai_H)} {q : Int32 × ai_H} {h : ai_H} {v0 : Nat} {v1 : Int32} {v2 : Int32} {v3 : Int32} {lv : ai_L} (R2 : ∀ (h : ai_H) (v0 : Nat) (v1 : Int32) (v2 : Int32) (v3 : Int32) (lv : ai_L), ai_ld 0 lv = some (.ref v0) → ai_ld 1 lv = some (.int v1) → ai_ld 2 lv = some (.int v2) → ai_ld 3 lv = some (.int v3) → r2 h v0 v1 v2 v3 = some q → bi_go 2 tX9_isWatched n (fI n q) 2 lv [] h) (l0 : ai_ld 0 lv = some (.ref v0)) (l1 : ai_ld 1 lv = some (.int v1)) (l2 : ai_ld 2 lv = some (.int v2)) (l3 : ai_ld 3 lv = some (.int v3)) (hh : fX9_isWatched_33 n r2 h v0 v1 v2 v3 = some q) : bi_go 2 tX9_isWatched n (fI n q) 33 lv [] h := by
  unfold fX9_isWatched_33 at hh
  refine go_inc (pc := 33) rfl l3 ?_
  refine go_goto (pc := 36) rfl ?_
  exact R2 _ _ _ _ _ _ (bi_k1 l0 rfl rfl) (bi_k1 l1 rfl rfl) (bi_k1 l2 rfl rfl) bi_e1 hh
def fX9_isWatched_2b (n : Nat) (r2 : ai_H → Nat → Int32 → Int32 → Int32 → Option (Int32 × ai_H)) (h : ai_H) (v0 : Nat) (v1 : Int32) (v2 : Int32) (v3 : Int32) : Option (Int32 × ai_H) :=
  (pR n h v0 8 1).bind fun x1 =>
  (pI n h x1 6 4).bind fun x2 =>
  if x2 ≤ v3 then (
    some ((1 : Int32), h))
  else (
    if ((v1 >>> (v3 &&& 31)) &&& (1 : Int32)) = 0 then (
      fX9_isWatched_33 n r2 h v0 v1 v2 v3)
    else (
      (fX8_ends n h v0 v3).bind fun q3 =>
      if ¬ (q3.1 &&& v2) = 0 then (
        fX9_isWatched_33 n r2 q3.2 v0 v1 v2 v3)
      else (
        some ((0 : Int32), q3.2))))
theorem sX9_isWatched_2b {n : Nat} {r2 : ai_H → Nat → Int32 → Int32 → Int32 → Option (Int32 × ai_H)} {q : Int32 × ai_H} {h : ai_H} {v0 : Nat} {v1 : Int32} {v2 : Int32} {v3 : Int32} {lv : ai_L} (R2 : ∀ (h : ai_H) (v0 : Nat) (v1 : Int32) (v2 : Int32) (v3 : Int32) (lv : ai_L), ai_ld 0 lv = some (.ref v0) → ai_ld 1 lv = some (.int v1) → ai_ld 2 lv = some (.int v2) → ai_ld 3 lv = some (.int v3) → r2 h v0 v1 v2 v3 = some q → bi_go 2 tX9_isWatched n (fI n q) 2 lv [] h) (l0 : ai_ld 0 lv = some (.ref v0)) (l1 : ai_ld 1 lv = some (.int v1)) (l2 : ai_ld 2 lv = some (.int v2)) (l3 : ai_ld 3 lv = some (.int v3)) (hh : fX9_isWatched_2b n r2 h v0 v1 v2 v3 = some q) : bi_go 2 tX9_isWatched n (fI n q) 2 lv [] h := by
  unfold fX9_isWatched_2b at hh
  refine go_il (pc := 2) rfl l3 ?_
  refine go_al (pc := 3) rfl l0 ?_
  obtain ⟨x1, ex1, hh⟩ := bi_bd hh
  refine go_gfR (pc := 4) rfl ex1 ?_
  obtain ⟨x2, ex2, hh⟩ := bi_bd hh
  refine go_gfI (pc := 7) rfl ex2 ?_
  refine bi_ite hh (fun hc hh => ?_) (fun hc hh => ?_)
  · refine go_cmpgeT (pc := 10) rfl hc ?_
    refine go_pi (pc := 39) rfl ?_
    exact go_rz (pc := 40) rfl bi_z1 hh
  · refine go_cmpgeF (pc := 10) rfl hc ?_
    refine go_il (pc := 13) rfl l1 ?_
    refine go_il (pc := 14) rfl l3 ?_
    refine go_ishr (pc := 15) rfl ?_
    refine go_pi (pc := 16) rfl ?_
    refine go_iand (pc := 17) rfl ?_
    refine bi_ite hh (fun hc hh => ?_) (fun hc hh => ?_)
    · refine go_ifeqT (pc := 18) rfl hc ?_
      exact sX9_isWatched_33 R2 l0 l1 l2 l3 hh
    · refine go_ifeqF (pc := 18) rfl hc ?_
      refine go_al (pc := 21) rfl l0 ?_
      refine go_il (pc := 22) rfl l3 ?_
      obtain ⟨q3, eq3, hh⟩ := bi_bd hh
      refine go_ivI (pc := 23) rfl rfl (gX8_ends eq3) (Nat.le_of_ble_eq_true rfl) (bi_up (sX8_ends eq3) (Nat.le_of_ble_eq_true rfl)) ?_
      refine go_il (pc := 26) rfl l2 ?_
      refine go_iand (pc := 27) rfl ?_
      refine bi_ite hh (fun hc hh => ?_) (fun hc hh => ?_)
      · refine go_ifneT (pc := 28) rfl hc ?_
        exact sX9_isWatched_33 R2 l0 l1 l2 l3 hh
      · refine go_ifneF (pc := 28) rfl hc ?_
        refine go_pi (pc := 31) rfl ?_
        exact go_rz (pc := 32) rfl bi_z0 hh
def fX9_isWatched_2 (n : Nat) : Nat → ai_H → Nat → Int32 → Int32 → Int32 → Option (Int32 × ai_H)
  | 0 => fun _ _ _ _ _ => none
  | k + 1 => fun h v0 v1 v2 v3 => fX9_isWatched_2b n (fX9_isWatched_2 n k) h v0 v1 v2 v3
theorem sX9_isWatched_2 {n : Nat} {q : Int32 × ai_H} : ∀ (k : Nat) (h : ai_H) (v0 : Nat) (v1 : Int32) (v2 : Int32) (v3 : Int32) (lv : ai_L), ai_ld 0 lv = some (.ref v0) → ai_ld 1 lv = some (.int v1) → ai_ld 2 lv = some (.int v2) → ai_ld 3 lv = some (.int v3) → fX9_isWatched_2 n k h v0 v1 v2 v3 = some q → bi_go 2 tX9_isWatched n (fI n q) 2 lv [] h
  | 0 => fun _ _ _ _ _ _ _ _ _ _ hh => by cases hh
  | k + 1 => fun h v0 v1 v2 v3 lv l0 l1 l2 l3 hh => sX9_isWatched_2b  (sX9_isWatched_2  k) l0 l1 l2 l3 hh
def fX9_isWatched (n : Nat) (h : ai_H) (a0 : Nat) (a1 : Int32) (a2 : Int32) : Option (Int32 × ai_H) :=
  fX9_isWatched_2 n bi_K h a0 a1 a2 (0 : Int32)
theorem sX9_isWatched {n : Nat} {h : ai_H} {a0 : Nat} {a1 : Int32} {a2 : Int32} {q : Int32 × ai_H} (hh : fX9_isWatched n h a0 a1 a2 = some q) : bi_sp 3 80 [.ref a0, .int a1, .int a2] h n (fI n q) := by
  refine bi_en (D := 2) (T := tX9_isWatched) (funext fun pc => rfl) rfl (Nat.le_of_ble_eq_true rfl) ?_
  unfold fX9_isWatched at hh
  refine go_pi (pc := 0) rfl ?_
  refine go_is (pc := 1) rfl ?_
  exact sX9_isWatched_2  _ _ _ _ _ _ _ (bi_k1 (rfl : ai_ld 0 (lv_args 0 [.ref a0, .int a1, .int a2]) = some (.ref a0)) rfl rfl) (bi_k1 (rfl : ai_ld 1 (lv_args 0 [.ref a0, .int a1, .int a2]) = some (.int a1)) rfl rfl) (bi_k1 (rfl : ai_ld 2 (lv_args 0 [.ref a0, .int a1, .int a2]) = some (.int a2)) rfl rfl) bi_e1 hh
def fX9_fewestWatched_40 (n : Nat) (r14 : ai_H → Nat → Int32 → Int32 → Int32 → Option (Int32 × ai_H)) (h : ai_H) (v0 : Nat) (v1 : Int32) (v2 : Int32) (v3 : Int32) : Option (Int32 × ai_H) :=
  r14 h v0 v1 v2 (v3 + (-1))
theorem sX9_fewestWatched_40 {n : Nat} {r14 : ai_H → Nat → Int32 → Int32 → Int32 → Option (Int32 × ai_H)} {q : Int32 × ai_H} {h : ai_H} {v0 : Nat} {v1 : Int32} {v2 : Int32} {v3 : Int32} {lv : ai_L} (R14 : ∀ (h : ai_H) (v0 : Nat) (v1 : Int32) (v2 : Int32) (v3 : Int32) (lv : ai_L), ai_ld 0 lv = some (.ref v0) → ai_ld 1 lv = some (.int v1) → ai_ld 2 lv = some (.int v2) → ai_ld 3 lv = some (.int v3) → r14 h v0 v1 v2 v3 = some q → bi_go 3 tX9_fewestWatched n (fI n q) 14 lv [] h) (l0 : ai_ld 0 lv = some (.ref v0)) (l1 : ai_ld 1 lv = some (.int v1)) (l2 : ai_ld 2 lv = some (.int v2)) (l3 : ai_ld 3 lv = some (.int v3)) (hh : fX9_fewestWatched_40 n r14 h v0 v1 v2 v3 = some q) : bi_go 3 tX9_fewestWatched n (fI n q) 40 lv [] h := by
  unfold fX9_fewestWatched_40 at hh
  refine go_inc (pc := 40) rfl l3 ?_
  refine go_goto (pc := 43) rfl ?_
  exact R14 _ _ _ _ _ _ (bi_k1 l0 rfl rfl) (bi_k1 l1 rfl rfl) (bi_k1 l2 rfl rfl) bi_e1 hh
def fX9_fewestWatched_14b (n : Nat) (r14 : ai_H → Nat → Int32 → Int32 → Int32 → Option (Int32 × ai_H)) (h : ai_H) (v0 : Nat) (v1 : Int32) (v2 : Int32) (v3 : Int32) : Option (Int32 × ai_H) :=
  if v3 < 0 then (
    some (v2, h))
  else (
    (fJ6_bitCount_0f7a4 n h v3).bind fun q1 =>
    (fJ6_bitCount_0f7a4 n q1.2 v2).bind fun q2 =>
    if q2.1 < q1.1 then (
      fX9_fewestWatched_40 n r14 q2.2 v0 v1 v2 v3)
    else (
      (fX9_isWatched n q2.2 v0 v1 v3).bind fun q3 =>
      if q3.1 = 0 then (
        fX9_fewestWatched_40 n r14 q3.2 v0 v1 v2 v3)
      else (
        fX9_fewestWatched_40 n r14 q3.2 v0 v1 v3 v3)))
theorem sX9_fewestWatched_14b {n : Nat} {r14 : ai_H → Nat → Int32 → Int32 → Int32 → Option (Int32 × ai_H)} {q : Int32 × ai_H} {h : ai_H} {v0 : Nat} {v1 : Int32} {v2 : Int32} {v3 : Int32} {lv : ai_L} (R14 : ∀ (h : ai_H) (v0 : Nat) (v1 : Int32) (v2 : Int32) (v3 : Int32) (lv : ai_L), ai_ld 0 lv = some (.ref v0) → ai_ld 1 lv = some (.int v1) → ai_ld 2 lv = some (.int v2) → ai_ld 3 lv = some (.int v3) → r14 h v0 v1 v2 v3 = some q → bi_go 3 tX9_fewestWatched n (fI n q) 14 lv [] h) (l0 : ai_ld 0 lv = some (.ref v0)) (l1 : ai_ld 1 lv = some (.int v1)) (l2 : ai_ld 2 lv = some (.int v2)) (l3 : ai_ld 3 lv = some (.int v3)) (hh : fX9_fewestWatched_14b n r14 h v0 v1 v2 v3 = some q) : bi_go 3 tX9_fewestWatched n (fI n q) 14 lv [] h := by
  unfold fX9_fewestWatched_14b at hh
  refine go_il (pc := 14) rfl l3 ?_
  refine bi_ite hh (fun hc hh => ?_) (fun hc hh => ?_)
  · refine go_ifltT (pc := 15) rfl hc ?_
    refine go_il (pc := 46) rfl l2 ?_
    exact go_ri (pc := 47) rfl hh
  · refine go_ifltF (pc := 15) rfl hc ?_
    refine go_il (pc := 18) rfl l3 ?_
    obtain ⟨q1, eq1, hh⟩ := bi_bd hh
    refine go_iSI (pc := 19) rfl (Nat.le_of_ble_eq_true rfl) rfl (Nat.le_of_ble_eq_true rfl) (bi_up (sJ6_bitCount_0f7a4 eq1) (Nat.le_of_ble_eq_true rfl)) ?_
    refine go_il (pc := 22) rfl l2 ?_
    obtain ⟨q2, eq2, hh⟩ := bi_bd hh
    refine go_iSI (pc := 23) rfl (Nat.le_of_ble_eq_true rfl) rfl (Nat.le_of_ble_eq_true rfl) (bi_up (sJ6_bitCount_0f7a4 eq2) (Nat.le_of_ble_eq_true rfl)) ?_
    refine bi_ite hh (fun hc hh => ?_) (fun hc hh => ?_)
    · refine go_cmpgtT (pc := 26) rfl hc ?_
      exact sX9_fewestWatched_40 R14 l0 l1 l2 l3 hh
    · refine go_cmpgtF (pc := 26) rfl hc ?_
      refine go_al (pc := 29) rfl l0 ?_
      refine go_il (pc := 30) rfl l1 ?_
      refine go_il (pc := 31) rfl l3 ?_
      obtain ⟨q3, eq3, hh⟩ := bi_bd hh
      refine go_iSI (pc := 32) rfl (Nat.le_of_ble_eq_true rfl) rfl (Nat.le_of_ble_eq_true rfl) (bi_up (sX9_isWatched eq3) (Nat.le_of_ble_eq_true rfl)) ?_
      refine bi_ite hh (fun hc hh => ?_) (fun hc hh => ?_)
      · refine go_ifeqT (pc := 35) rfl hc ?_
        exact sX9_fewestWatched_40 R14 l0 l1 l2 l3 hh
      · refine go_ifeqF (pc := 35) rfl hc ?_
        refine go_il (pc := 38) rfl l3 ?_
        refine go_is (pc := 39) rfl ?_
        exact sX9_fewestWatched_40 R14 (bi_k1 l0 rfl rfl) (bi_k1 l1 rfl rfl) bi_e1 (bi_k1 l3 rfl rfl) hh
def fX9_fewestWatched_14 (n : Nat) : Nat → ai_H → Nat → Int32 → Int32 → Int32 → Option (Int32 × ai_H)
  | 0 => fun _ _ _ _ _ => none
  | k + 1 => fun h v0 v1 v2 v3 => fX9_fewestWatched_14b n (fX9_fewestWatched_14 n k) h v0 v1 v2 v3
theorem sX9_fewestWatched_14 {n : Nat} {q : Int32 × ai_H} : ∀ (k : Nat) (h : ai_H) (v0 : Nat) (v1 : Int32) (v2 : Int32) (v3 : Int32) (lv : ai_L), ai_ld 0 lv = some (.ref v0) → ai_ld 1 lv = some (.int v1) → ai_ld 2 lv = some (.int v2) → ai_ld 3 lv = some (.int v3) → fX9_fewestWatched_14 n k h v0 v1 v2 v3 = some q → bi_go 3 tX9_fewestWatched n (fI n q) 14 lv [] h
  | 0 => fun _ _ _ _ _ _ _ _ _ _ hh => by cases hh
  | k + 1 => fun h v0 v1 v2 v3 lv l0 l1 l2 l3 hh => sX9_fewestWatched_14b  (sX9_fewestWatched_14  k) l0 l1 l2 l3 hh
def fX9_fewestWatched (n : Nat) (h : ai_H) (a0 : Nat) (a1 : Int32) : Option (Int32 × ai_H) :=
  (pR n h a0 8 0).bind fun x1 =>
  (pI n h x1 6 4).bind fun x2 =>
  fX9_fewestWatched_14 n bi_K h a0 a1 (((1 : Int32) <<< (x2 &&& 31)) - (1 : Int32)) (((1 : Int32) <<< (x2 &&& 31)) - (1 : Int32))
theorem sX9_fewestWatched {n : Nat} {h : ai_H} {a0 : Nat} {a1 : Int32} {q : Int32 × ai_H} (hh : fX9_fewestWatched n h a0 a1 = some q) : bi_sp 4 79 [.ref a0, .int a1] h n (fI n q) := by
  refine bi_en (D := 3) (T := tX9_fewestWatched) (funext fun pc => rfl) rfl (Nat.le_of_ble_eq_true rfl) ?_
  unfold fX9_fewestWatched at hh
  refine go_pi (pc := 0) rfl ?_
  refine go_al (pc := 1) rfl (rfl : ai_ld 0 (lv_args 0 [.ref a0, .int a1]) = some (.ref a0)) ?_
  obtain ⟨x1, ex1, hh⟩ := bi_bd hh
  refine go_gfR (pc := 2) rfl ex1 ?_
  obtain ⟨x2, ex2, hh⟩ := bi_bd hh
  refine go_gfI (pc := 5) rfl ex2 ?_
  refine go_ishl (pc := 8) rfl ?_
  refine go_pi (pc := 9) rfl ?_
  refine go_isub (pc := 10) rfl ?_
  refine go_is (pc := 11) rfl ?_
  refine go_il (pc := 12) rfl bi_e1 ?_
  refine go_is (pc := 13) rfl ?_
  exact sX9_fewestWatched_14  _ _ _ _ _ _ _ (bi_k1 (bi_k1 (rfl : ai_ld 0 (lv_args 0 [.ref a0, .int a1]) = some (.ref a0)) rfl rfl) rfl rfl) (bi_k1 (bi_k1 (rfl : ai_ld 1 (lv_args 0 [.ref a0, .int a1]) = some (.int a1)) rfl rfl) rfl rfl) (bi_k1 bi_e1 rfl rfl) bi_e1 hh
def fX9_shorten_73 (n : Nat) (h : ai_H) (v0 : Nat) (v3 : Int32) (v4 : Int32) (v5 : Int32) (v6 : Int32) : Option (Int32 × ai_H) :=
  (pR n h v0 9 0).bind fun x1 =>
  (gX 1 n h x1 v4).bind fun x2 =>
  (pR n h v0 9 0).bind fun x3 =>
  (gX 1 n h x3 v3).bind fun x4 =>
  if x4 ≤ (x2 + v5) then (
    (gZ v6).bind fun _ =>
    some (v6, h))
  else (
    (pR n h v0 9 0).bind fun x5 =>
    (pR n h v0 9 0).bind fun x6 =>
    (gX 1 n h x6 v4).bind fun x7 =>
    (wX 1 (fun x => x) n h x5 v3 (x7 + v5)).bind fun h8 =>
    some ((1 : Int32), h8))
theorem sX9_shorten_73 {n : Nat} {q : Int32 × ai_H} {h : ai_H} {v0 : Nat} {v3 : Int32} {v4 : Int32} {v5 : Int32} {v6 : Int32} {lv : ai_L} (l0 : ai_ld 0 lv = some (.ref v0)) (l3 : ai_ld 3 lv = some (.int v3)) (l4 : ai_ld 4 lv = some (.int v4)) (l5 : ai_ld 5 lv = some (.int v5)) (l6 : ai_ld 6 lv = some (.int v6)) (hh : fX9_shorten_73 n h v0 v3 v4 v5 v6 = some q) : bi_go 1 tX9_shorten n (fI n q) 73 lv [] h := by
  unfold fX9_shorten_73 at hh
  refine go_al (pc := 73) rfl l0 ?_
  obtain ⟨x1, ex1, hh⟩ := bi_bd hh
  refine go_gfR (pc := 74) rfl ex1 ?_
  refine go_il (pc := 77) rfl l4 ?_
  obtain ⟨x2, ex2, hh⟩ := bi_bd hh
  refine go_iald (pc := 79) rfl ex2 ?_
  refine go_il (pc := 80) rfl l5 ?_
  refine go_iadd (pc := 82) rfl ?_
  refine go_al (pc := 83) rfl l0 ?_
  obtain ⟨x3, ex3, hh⟩ := bi_bd hh
  refine go_gfR (pc := 84) rfl ex3 ?_
  refine go_il (pc := 87) rfl l3 ?_
  obtain ⟨x4, ex4, hh⟩ := bi_bd hh
  refine go_iald (pc := 88) rfl ex4 ?_
  refine bi_ite hh (fun hc hh => ?_) (fun hc hh => ?_)
  · refine go_cmpgeT (pc := 89) rfl hc ?_
    refine go_il (pc := 111) rfl l6 ?_
    obtain ⟨_, ez, hh⟩ := bi_bd hh
    exact go_rz (pc := 113) rfl ez hh
  · refine go_cmpgeF (pc := 89) rfl hc ?_
    refine go_al (pc := 92) rfl l0 ?_
    obtain ⟨x5, ex5, hh⟩ := bi_bd hh
    refine go_gfR (pc := 93) rfl ex5 ?_
    refine go_il (pc := 96) rfl l3 ?_
    refine go_al (pc := 97) rfl l0 ?_
    obtain ⟨x6, ex6, hh⟩ := bi_bd hh
    refine go_gfR (pc := 98) rfl ex6 ?_
    refine go_il (pc := 101) rfl l4 ?_
    obtain ⟨x7, ex7, hh⟩ := bi_bd hh
    refine go_iald (pc := 103) rfl ex7 ?_
    refine go_il (pc := 104) rfl l5 ?_
    refine go_iadd (pc := 106) rfl ?_
    obtain ⟨h8, eh8, hh⟩ := bi_bd hh
    refine go_iast (pc := 107) rfl eh8 ?_
    refine go_pi (pc := 108) rfl ?_
    refine go_is (pc := 109) rfl ?_
    refine go_il (pc := 111) rfl bi_e1 ?_
    exact go_rz (pc := 113) rfl bi_z1 hh
def fX9_shorten (n : Nat) (h : ai_H) (a0 : Nat) (a1 : Nat) (a2 : Int32) : Option (Int32 × ai_H) :=
  (kO n h a0 9).bind fun _ =>
  (pR n h a1 8 1).bind fun x1 =>
  (fX6_cell n h x1 a2 (0 : Int32)).bind fun q2 =>
  (pR n q2.2 a1 8 1).bind fun x3 =>
  (fX6_cell n q2.2 x3 a2 (1 : Int32)).bind fun q4 =>
  (pR n q4.2 a1 8 1).bind fun x5 =>
  (fX6_cell n q4.2 x5 a2 (2 : Int32)).bind fun q6 =>
  (pR n q6.2 a0 9 0).bind fun x7 =>
  (gX 1 n q6.2 x7 q2.1).bind fun x8 =>
  (pR n q6.2 a0 9 0).bind fun x9 =>
  (gX 1 n q6.2 x9 q4.1).bind fun x10 =>
  if x10 ≤ (x8 + q6.1) then (
    fX9_shorten_73 n q6.2 a0 q2.1 q4.1 q6.1 (0 : Int32))
  else (
    (pR n q6.2 a0 9 0).bind fun x11 =>
    (pR n q6.2 a0 9 0).bind fun x12 =>
    (gX 1 n q6.2 x12 q2.1).bind fun x13 =>
    (wX 1 (fun x => x) n q6.2 x11 q4.1 (x13 + q6.1)).bind fun h14 =>
    fX9_shorten_73 n h14 a0 q2.1 q4.1 q6.1 (1 : Int32))
theorem gX9_shorten {n : Nat} {h : ai_H} {a0 : Nat} {a1 : Nat} {a2 : Int32} {q : Int32 × ai_H} (hh : fX9_shorten n h a0 a1 a2 = some q) : kO n h a0 9 = some () := by
  obtain ⟨_, e, -⟩ := bi_bd hh
  exact e
theorem sX9_shorten {n : Nat} {h : ai_H} {a0 : Nat} {a1 : Nat} {a2 : Int32} {q : Int32 × ai_H} (hh : fX9_shorten n h a0 a1 a2 = some q) : bi_sp 2 82 [.ref a0, .ref a1, .int a2] h n (fI n q) := by
  refine bi_en (D := 1) (T := tX9_shorten) (funext fun pc => rfl) rfl (Nat.le_of_ble_eq_true rfl) ?_
  unfold fX9_shorten at hh
  obtain ⟨_, eO, hh⟩ := bi_bd hh
  refine go_al (pc := 0) rfl (rfl : ai_ld 1 (lv_args 0 [.ref a0, .ref a1, .int a2]) = some (.ref a1)) ?_
  obtain ⟨x1, ex1, hh⟩ := bi_bd hh
  refine go_gfR (pc := 1) rfl ex1 ?_
  refine go_il (pc := 4) rfl (rfl : ai_ld 2 (lv_args 0 [.ref a0, .ref a1, .int a2]) = some (.int a2)) ?_
  refine go_pi (pc := 5) rfl ?_
  obtain ⟨q2, eq2, hh⟩ := bi_bd hh
  refine go_ivI (pc := 6) rfl rfl (gX6_cell eq2) (Nat.le_of_ble_eq_true rfl) (bi_up (sX6_cell eq2) (Nat.le_of_ble_eq_true rfl)) ?_
  refine go_is (pc := 9) rfl ?_
  refine go_al (pc := 10) rfl (bi_k1 (rfl : ai_ld 1 (lv_args 0 [.ref a0, .ref a1, .int a2]) = some (.ref a1)) rfl rfl) ?_
  obtain ⟨x3, ex3, hh⟩ := bi_bd hh
  refine go_gfR (pc := 11) rfl ex3 ?_
  refine go_il (pc := 14) rfl (bi_k1 (rfl : ai_ld 2 (lv_args 0 [.ref a0, .ref a1, .int a2]) = some (.int a2)) rfl rfl) ?_
  refine go_pi (pc := 15) rfl ?_
  obtain ⟨q4, eq4, hh⟩ := bi_bd hh
  refine go_ivI (pc := 16) rfl rfl (gX6_cell eq4) (Nat.le_of_ble_eq_true rfl) (bi_up (sX6_cell eq4) (Nat.le_of_ble_eq_true rfl)) ?_
  refine go_is (pc := 19) rfl ?_
  refine go_al (pc := 21) rfl (bi_k1 (bi_k1 (rfl : ai_ld 1 (lv_args 0 [.ref a0, .ref a1, .int a2]) = some (.ref a1)) rfl rfl) rfl rfl) ?_
  obtain ⟨x5, ex5, hh⟩ := bi_bd hh
  refine go_gfR (pc := 22) rfl ex5 ?_
  refine go_il (pc := 25) rfl (bi_k1 (bi_k1 (rfl : ai_ld 2 (lv_args 0 [.ref a0, .ref a1, .int a2]) = some (.int a2)) rfl rfl) rfl rfl) ?_
  refine go_pi (pc := 26) rfl ?_
  obtain ⟨q6, eq6, hh⟩ := bi_bd hh
  refine go_ivI (pc := 27) rfl rfl (gX6_cell eq6) (Nat.le_of_ble_eq_true rfl) (bi_up (sX6_cell eq6) (Nat.le_of_ble_eq_true rfl)) ?_
  refine go_is (pc := 30) rfl ?_
  refine go_pi (pc := 32) rfl ?_
  refine go_is (pc := 33) rfl ?_
  refine go_al (pc := 35) rfl (bi_k1 (bi_k1 (bi_k1 (bi_k1 (rfl : ai_ld 0 (lv_args 0 [.ref a0, .ref a1, .int a2]) = some (.ref a0)) rfl rfl) rfl rfl) rfl rfl) rfl rfl) ?_
  obtain ⟨x7, ex7, hh⟩ := bi_bd hh
  refine go_gfR (pc := 36) rfl ex7 ?_
  refine go_il (pc := 39) rfl (bi_k1 (bi_k1 (bi_k1 bi_e1 rfl rfl) rfl rfl) rfl rfl) ?_
  obtain ⟨x8, ex8, hh⟩ := bi_bd hh
  refine go_iald (pc := 40) rfl ex8 ?_
  refine go_il (pc := 41) rfl (bi_k1 bi_e1 rfl rfl) ?_
  refine go_iadd (pc := 43) rfl ?_
  refine go_al (pc := 44) rfl (bi_k1 (bi_k1 (bi_k1 (bi_k1 (rfl : ai_ld 0 (lv_args 0 [.ref a0, .ref a1, .int a2]) = some (.ref a0)) rfl rfl) rfl rfl) rfl rfl) rfl rfl) ?_
  obtain ⟨x9, ex9, hh⟩ := bi_bd hh
  refine go_gfR (pc := 45) rfl ex9 ?_
  refine go_il (pc := 48) rfl (bi_k1 (bi_k1 bi_e1 rfl rfl) rfl rfl) ?_
  obtain ⟨x10, ex10, hh⟩ := bi_bd hh
  refine go_iald (pc := 50) rfl ex10 ?_
  refine bi_ite hh (fun hc hh => ?_) (fun hc hh => ?_)
  · refine go_cmpgeT (pc := 51) rfl hc ?_
    exact sX9_shorten_73  (bi_k1 (bi_k1 (bi_k1 (bi_k1 (rfl : ai_ld 0 (lv_args 0 [.ref a0, .ref a1, .int a2]) = some (.ref a0)) rfl rfl) rfl rfl) rfl rfl) rfl rfl) (bi_k1 (bi_k1 (bi_k1 bi_e1 rfl rfl) rfl rfl) rfl rfl) (bi_k1 (bi_k1 bi_e1 rfl rfl) rfl rfl) (bi_k1 bi_e1 rfl rfl) bi_e1 hh
  · refine go_cmpgeF (pc := 51) rfl hc ?_
    refine go_al (pc := 54) rfl (bi_k1 (bi_k1 (bi_k1 (bi_k1 (rfl : ai_ld 0 (lv_args 0 [.ref a0, .ref a1, .int a2]) = some (.ref a0)) rfl rfl) rfl rfl) rfl rfl) rfl rfl) ?_
    obtain ⟨x11, ex11, hh⟩ := bi_bd hh
    refine go_gfR (pc := 55) rfl ex11 ?_
    refine go_il (pc := 58) rfl (bi_k1 (bi_k1 bi_e1 rfl rfl) rfl rfl) ?_
    refine go_al (pc := 60) rfl (bi_k1 (bi_k1 (bi_k1 (bi_k1 (rfl : ai_ld 0 (lv_args 0 [.ref a0, .ref a1, .int a2]) = some (.ref a0)) rfl rfl) rfl rfl) rfl rfl) rfl rfl) ?_
    obtain ⟨x12, ex12, hh⟩ := bi_bd hh
    refine go_gfR (pc := 61) rfl ex12 ?_
    refine go_il (pc := 64) rfl (bi_k1 (bi_k1 (bi_k1 bi_e1 rfl rfl) rfl rfl) rfl rfl) ?_
    obtain ⟨x13, ex13, hh⟩ := bi_bd hh
    refine go_iald (pc := 65) rfl ex13 ?_
    refine go_il (pc := 66) rfl (bi_k1 bi_e1 rfl rfl) ?_
    refine go_iadd (pc := 68) rfl ?_
    obtain ⟨h14, eh14, hh⟩ := bi_bd hh
    refine go_iast (pc := 69) rfl eh14 ?_
    refine go_pi (pc := 70) rfl ?_
    refine go_is (pc := 71) rfl ?_
    exact sX9_shorten_73  (bi_k1 (bi_k1 (bi_k1 (bi_k1 (bi_k1 (rfl : ai_ld 0 (lv_args 0 [.ref a0, .ref a1, .int a2]) = some (.ref a0)) rfl rfl) rfl rfl) rfl rfl) rfl rfl) rfl rfl) (bi_k1 (bi_k1 (bi_k1 (bi_k1 bi_e1 rfl rfl) rfl rfl) rfl rfl) rfl rfl) (bi_k1 (bi_k1 (bi_k1 bi_e1 rfl rfl) rfl rfl) rfl rfl) (bi_k1 (bi_k1 bi_e1 rfl rfl) rfl rfl) bi_e1 hh
def fX9_leastLength_88 (n : Nat) (r35 : ai_H → Nat → Nat → Int32 → Int32 → Int32 → Int32 → Option (Int32 × ai_H)) (r53 : ai_H → Nat → Nat → Int32 → Int32 → Int32 → Int32 → Int32 → Option (Int32 × ai_H)) (h : ai_H) (v0 : Nat) (v1 : Nat) (v4 : Int32) (v5 : Int32) (v6 : Int32) (v7 : Int32) (v8 : Int32) : Option (Int32 × ai_H) :=
  r53 h v0 v1 v4 v5 v6 v7 (v8 + 1)
theorem sX9_leastLength_88 {n : Nat} {r35 : ai_H → Nat → Nat → Int32 → Int32 → Int32 → Int32 → Option (Int32 × ai_H)} {r53 : ai_H → Nat → Nat → Int32 → Int32 → Int32 → Int32 → Int32 → Option (Int32 × ai_H)} {q : Int32 × ai_H} {h : ai_H} {v0 : Nat} {v1 : Nat} {v4 : Int32} {v5 : Int32} {v6 : Int32} {v7 : Int32} {v8 : Int32} {lv : ai_L} (R35 : ∀ (h : ai_H) (v0 : Nat) (v1 : Nat) (v4 : Int32) (v5 : Int32) (v6 : Int32) (v7 : Int32) (lv : ai_L), ai_ld 0 lv = some (.ref v0) → ai_ld 1 lv = some (.ref v1) → ai_ld 4 lv = some (.int v4) → ai_ld 5 lv = some (.int v5) → ai_ld 6 lv = some (.int v6) → ai_ld 7 lv = some (.int v7) → r35 h v0 v1 v4 v5 v6 v7 = some q → bi_go 2 tX9_leastLength n (fI n q) 35 lv [] h) (R53 : ∀ (h : ai_H) (v0 : Nat) (v1 : Nat) (v4 : Int32) (v5 : Int32) (v6 : Int32) (v7 : Int32) (v8 : Int32) (lv : ai_L), ai_ld 0 lv = some (.ref v0) → ai_ld 1 lv = some (.ref v1) → ai_ld 4 lv = some (.int v4) → ai_ld 5 lv = some (.int v5) → ai_ld 6 lv = some (.int v6) → ai_ld 7 lv = some (.int v7) → ai_ld 8 lv = some (.int v8) → r53 h v0 v1 v4 v5 v6 v7 v8 = some q → bi_go 2 tX9_leastLength n (fI n q) 53 lv [] h) (l0 : ai_ld 0 lv = some (.ref v0)) (l1 : ai_ld 1 lv = some (.ref v1)) (l4 : ai_ld 4 lv = some (.int v4)) (l5 : ai_ld 5 lv = some (.int v5)) (l6 : ai_ld 6 lv = some (.int v6)) (l7 : ai_ld 7 lv = some (.int v7)) (l8 : ai_ld 8 lv = some (.int v8)) (hh : fX9_leastLength_88 n r35 r53 h v0 v1 v4 v5 v6 v7 v8 = some q) : bi_go 2 tX9_leastLength n (fI n q) 88 lv [] h := by
  unfold fX9_leastLength_88 at hh
  refine go_inc (pc := 88) rfl l8 ?_
  refine go_goto (pc := 91) rfl ?_
  exact R53 _ _ _ _ _ _ _ _ _ (bi_k1 l0 rfl rfl) (bi_k1 l1 rfl rfl) (bi_k1 l4 rfl rfl) (bi_k1 l5 rfl rfl) (bi_k1 l6 rfl rfl) (bi_k1 l7 rfl rfl) bi_e1 hh
def fX9_leastLength_53b (n : Nat) (r35 : ai_H → Nat → Nat → Int32 → Int32 → Int32 → Int32 → Option (Int32 × ai_H)) (r53 : ai_H → Nat → Nat → Int32 → Int32 → Int32 → Int32 → Int32 → Option (Int32 × ai_H)) (h : ai_H) (v0 : Nat) (v1 : Nat) (v4 : Int32) (v5 : Int32) (v6 : Int32) (v7 : Int32) (v8 : Int32) : Option (Int32 × ai_H) :=
  (pR n h v1 8 1).bind fun x1 =>
  (pI n h x1 6 4).bind fun x2 =>
  if x2 ≤ v8 then (
    r35 h v0 v1 v4 v5 v6 (v7 + 1))
  else (
    if ((v5 >>> (v8 &&& 31)) &&& (1 : Int32)) = 0 then (
      fX9_leastLength_88 n r35 r53 h v0 v1 v4 v5 v6 v7 v8)
    else (
      (fX9_shorten n h v0 v1 v8).bind fun q3 =>
      if q3.1 = 0 then (
        fX9_leastLength_88 n r35 r53 q3.2 v0 v1 v4 v5 v6 v7 v8)
      else (
        fX9_leastLength_88 n r35 r53 q3.2 v0 v1 v4 v5 (1 : Int32) v7 v8)))
theorem sX9_leastLength_53b {n : Nat} {r35 : ai_H → Nat → Nat → Int32 → Int32 → Int32 → Int32 → Option (Int32 × ai_H)} {r53 : ai_H → Nat → Nat → Int32 → Int32 → Int32 → Int32 → Int32 → Option (Int32 × ai_H)} {q : Int32 × ai_H} {h : ai_H} {v0 : Nat} {v1 : Nat} {v4 : Int32} {v5 : Int32} {v6 : Int32} {v7 : Int32} {v8 : Int32} {lv : ai_L} (R35 : ∀ (h : ai_H) (v0 : Nat) (v1 : Nat) (v4 : Int32) (v5 : Int32) (v6 : Int32) (v7 : Int32) (lv : ai_L), ai_ld 0 lv = some (.ref v0) → ai_ld 1 lv = some (.ref v1) → ai_ld 4 lv = some (.int v4) → ai_ld 5 lv = some (.int v5) → ai_ld 6 lv = some (.int v6) → ai_ld 7 lv = some (.int v7) → r35 h v0 v1 v4 v5 v6 v7 = some q → bi_go 2 tX9_leastLength n (fI n q) 35 lv [] h) (R53 : ∀ (h : ai_H) (v0 : Nat) (v1 : Nat) (v4 : Int32) (v5 : Int32) (v6 : Int32) (v7 : Int32) (v8 : Int32) (lv : ai_L), ai_ld 0 lv = some (.ref v0) → ai_ld 1 lv = some (.ref v1) → ai_ld 4 lv = some (.int v4) → ai_ld 5 lv = some (.int v5) → ai_ld 6 lv = some (.int v6) → ai_ld 7 lv = some (.int v7) → ai_ld 8 lv = some (.int v8) → r53 h v0 v1 v4 v5 v6 v7 v8 = some q → bi_go 2 tX9_leastLength n (fI n q) 53 lv [] h) (l0 : ai_ld 0 lv = some (.ref v0)) (l1 : ai_ld 1 lv = some (.ref v1)) (l4 : ai_ld 4 lv = some (.int v4)) (l5 : ai_ld 5 lv = some (.int v5)) (l6 : ai_ld 6 lv = some (.int v6)) (l7 : ai_ld 7 lv = some (.int v7)) (l8 : ai_ld 8 lv = some (.int v8)) (hh : fX9_leastLength_53b n r35 r53 h v0 v1 v4 v5 v6 v7 v8 = some q) : bi_go 2 tX9_leastLength n (fI n q) 53 lv [] h := by
  unfold fX9_leastLength_53b at hh
  refine go_il (pc := 53) rfl l8 ?_
  refine go_al (pc := 55) rfl l1 ?_
  obtain ⟨x1, ex1, hh⟩ := bi_bd hh
  refine go_gfR (pc := 56) rfl ex1 ?_
  obtain ⟨x2, ex2, hh⟩ := bi_bd hh
  refine go_gfI (pc := 59) rfl ex2 ?_
  refine bi_ite hh (fun hc hh => ?_) (fun hc hh => ?_)
  · refine go_cmpgeT (pc := 62) rfl hc ?_
    refine go_inc (pc := 94) rfl l7 ?_
    refine go_goto (pc := 97) rfl ?_
    exact R35 _ _ _ _ _ _ _ _ (bi_k1 l0 rfl rfl) (bi_k1 l1 rfl rfl) (bi_k1 l4 rfl rfl) (bi_k1 l5 rfl rfl) (bi_k1 l6 rfl rfl) bi_e1 hh
  · refine go_cmpgeF (pc := 62) rfl hc ?_
    refine go_il (pc := 65) rfl l5 ?_
    refine go_il (pc := 67) rfl l8 ?_
    refine go_ishr (pc := 69) rfl ?_
    refine go_pi (pc := 70) rfl ?_
    refine go_iand (pc := 71) rfl ?_
    refine bi_ite hh (fun hc hh => ?_) (fun hc hh => ?_)
    · refine go_ifeqT (pc := 72) rfl hc ?_
      exact sX9_leastLength_88 R35 R53 l0 l1 l4 l5 l6 l7 l8 hh
    · refine go_ifeqF (pc := 72) rfl hc ?_
      refine go_al (pc := 75) rfl l0 ?_
      refine go_al (pc := 76) rfl l1 ?_
      refine go_il (pc := 77) rfl l8 ?_
      obtain ⟨q3, eq3, hh⟩ := bi_bd hh
      refine go_ivI (pc := 79) rfl rfl (gX9_shorten eq3) (Nat.le_of_ble_eq_true rfl) (bi_up (sX9_shorten eq3) (Nat.le_of_ble_eq_true rfl)) ?_
      refine bi_ite hh (fun hc hh => ?_) (fun hc hh => ?_)
      · refine go_ifeqT (pc := 82) rfl hc ?_
        exact sX9_leastLength_88 R35 R53 l0 l1 l4 l5 l6 l7 l8 hh
      · refine go_ifeqF (pc := 82) rfl hc ?_
        refine go_pi (pc := 85) rfl ?_
        refine go_is (pc := 86) rfl ?_
        exact sX9_leastLength_88 R35 R53 (bi_k1 l0 rfl rfl) (bi_k1 l1 rfl rfl) (bi_k1 l4 rfl rfl) (bi_k1 l5 rfl rfl) bi_e1 (bi_k1 l7 rfl rfl) (bi_k1 l8 rfl rfl) hh
def fX9_leastLength_53 (n : Nat) (r35 : ai_H → Nat → Nat → Int32 → Int32 → Int32 → Int32 → Option (Int32 × ai_H)) : Nat → ai_H → Nat → Nat → Int32 → Int32 → Int32 → Int32 → Int32 → Option (Int32 × ai_H)
  | 0 => fun _ _ _ _ _ _ _ _ => none
  | k + 1 => fun h v0 v1 v4 v5 v6 v7 v8 => fX9_leastLength_53b n r35 (fX9_leastLength_53 n r35 k) h v0 v1 v4 v5 v6 v7 v8
theorem sX9_leastLength_53 {n : Nat} {r35 : ai_H → Nat → Nat → Int32 → Int32 → Int32 → Int32 → Option (Int32 × ai_H)} {q : Int32 × ai_H} (R35 : ∀ (h : ai_H) (v0 : Nat) (v1 : Nat) (v4 : Int32) (v5 : Int32) (v6 : Int32) (v7 : Int32) (lv : ai_L), ai_ld 0 lv = some (.ref v0) → ai_ld 1 lv = some (.ref v1) → ai_ld 4 lv = some (.int v4) → ai_ld 5 lv = some (.int v5) → ai_ld 6 lv = some (.int v6) → ai_ld 7 lv = some (.int v7) → r35 h v0 v1 v4 v5 v6 v7 = some q → bi_go 2 tX9_leastLength n (fI n q) 35 lv [] h) : ∀ (k : Nat) (h : ai_H) (v0 : Nat) (v1 : Nat) (v4 : Int32) (v5 : Int32) (v6 : Int32) (v7 : Int32) (v8 : Int32) (lv : ai_L), ai_ld 0 lv = some (.ref v0) → ai_ld 1 lv = some (.ref v1) → ai_ld 4 lv = some (.int v4) → ai_ld 5 lv = some (.int v5) → ai_ld 6 lv = some (.int v6) → ai_ld 7 lv = some (.int v7) → ai_ld 8 lv = some (.int v8) → fX9_leastLength_53 n r35 k h v0 v1 v4 v5 v6 v7 v8 = some q → bi_go 2 tX9_leastLength n (fI n q) 53 lv [] h
  | 0 => fun _ _ _ _ _ _ _ _ _ _ _ _ _ _ _ _ hh => by cases hh
  | k + 1 => fun h v0 v1 v4 v5 v6 v7 v8 lv l0 l1 l4 l5 l6 l7 l8 hh => sX9_leastLength_53b R35 (sX9_leastLength_53 R35 k) l0 l1 l4 l5 l6 l7 l8 hh
def fX9_leastLength_100 (n : Nat) (h : ai_H) (v0 : Nat) (v4 : Int32) : Option (Int32 × ai_H) :=
  (pR n h v0 9 0).bind fun x1 =>
  (gX 1 n h x1 v4).bind fun x2 =>
  if (1000000 : Int32) ≤ x2 then (
    some ((-2 : Int32), h))
  else (
    (pR n h v0 9 0).bind fun x3 =>
    (gX 1 n h x3 v4).bind fun x4 =>
    some (x4, h))
theorem sX9_leastLength_100 {n : Nat} {q : Int32 × ai_H} {h : ai_H} {v0 : Nat} {v4 : Int32} {lv : ai_L} (l0 : ai_ld 0 lv = some (.ref v0)) (l4 : ai_ld 4 lv = some (.int v4)) (hh : fX9_leastLength_100 n h v0 v4 = some q) : bi_go 2 tX9_leastLength n (fI n q) 100 lv [] h := by
  unfold fX9_leastLength_100 at hh
  refine go_al (pc := 100) rfl l0 ?_
  obtain ⟨x1, ex1, hh⟩ := bi_bd hh
  refine go_gfR (pc := 101) rfl ex1 ?_
  refine go_il (pc := 104) rfl l4 ?_
  obtain ⟨x2, ex2, hh⟩ := bi_bd hh
  refine go_iald (pc := 106) rfl ex2 ?_
  refine go_pi (pc := 107) rfl ?_
  refine bi_ite hh (fun hc hh => ?_) (fun hc hh => ?_)
  · refine go_cmpgeT (pc := 109) rfl hc ?_
    refine go_pi (pc := 122) rfl ?_
    exact go_ri (pc := 124) rfl hh
  · refine go_cmpgeF (pc := 109) rfl hc ?_
    refine go_al (pc := 112) rfl l0 ?_
    obtain ⟨x3, ex3, hh⟩ := bi_bd hh
    refine go_gfR (pc := 113) rfl ex3 ?_
    refine go_il (pc := 116) rfl l4 ?_
    obtain ⟨x4, ex4, hh⟩ := bi_bd hh
    refine go_iald (pc := 118) rfl ex4 ?_
    refine go_goto (pc := 119) rfl ?_
    exact go_ri (pc := 124) rfl hh
def fX9_leastLength_35b (n : Nat) (r35 : ai_H → Nat → Nat → Int32 → Int32 → Int32 → Int32 → Option (Int32 × ai_H)) (h : ai_H) (v0 : Nat) (v1 : Nat) (v4 : Int32) (v5 : Int32) (v6 : Int32) (v7 : Int32) : Option (Int32 × ai_H) :=
  if (7 : Int32) ≤ v7 then (
    fX9_leastLength_100 n h v0 v4)
  else (
    if v6 = 0 then (
      fX9_leastLength_100 n h v0 v4)
    else (
      fX9_leastLength_53 n r35 bi_K h v0 v1 v4 v5 (0 : Int32) v7 (0 : Int32)))
theorem sX9_leastLength_35b {n : Nat} {r35 : ai_H → Nat → Nat → Int32 → Int32 → Int32 → Int32 → Option (Int32 × ai_H)} {q : Int32 × ai_H} {h : ai_H} {v0 : Nat} {v1 : Nat} {v4 : Int32} {v5 : Int32} {v6 : Int32} {v7 : Int32} {lv : ai_L} (R35 : ∀ (h : ai_H) (v0 : Nat) (v1 : Nat) (v4 : Int32) (v5 : Int32) (v6 : Int32) (v7 : Int32) (lv : ai_L), ai_ld 0 lv = some (.ref v0) → ai_ld 1 lv = some (.ref v1) → ai_ld 4 lv = some (.int v4) → ai_ld 5 lv = some (.int v5) → ai_ld 6 lv = some (.int v6) → ai_ld 7 lv = some (.int v7) → r35 h v0 v1 v4 v5 v6 v7 = some q → bi_go 2 tX9_leastLength n (fI n q) 35 lv [] h) (l0 : ai_ld 0 lv = some (.ref v0)) (l1 : ai_ld 1 lv = some (.ref v1)) (l4 : ai_ld 4 lv = some (.int v4)) (l5 : ai_ld 5 lv = some (.int v5)) (l6 : ai_ld 6 lv = some (.int v6)) (l7 : ai_ld 7 lv = some (.int v7)) (hh : fX9_leastLength_35b n r35 h v0 v1 v4 v5 v6 v7 = some q) : bi_go 2 tX9_leastLength n (fI n q) 35 lv [] h := by
  unfold fX9_leastLength_35b at hh
  refine go_il (pc := 35) rfl l7 ?_
  refine go_pi (pc := 37) rfl ?_
  refine bi_ite hh (fun hc hh => ?_) (fun hc hh => ?_)
  · refine go_cmpgeT (pc := 39) rfl hc ?_
    exact sX9_leastLength_100  l0 l4 hh
  · refine go_cmpgeF (pc := 39) rfl hc ?_
    refine go_il (pc := 42) rfl l6 ?_
    refine bi_ite hh (fun hc hh => ?_) (fun hc hh => ?_)
    · refine go_ifeqT (pc := 44) rfl hc ?_
      exact sX9_leastLength_100  l0 l4 hh
    · refine go_ifeqF (pc := 44) rfl hc ?_
      refine go_pi (pc := 47) rfl ?_
      refine go_is (pc := 48) rfl ?_
      refine go_pi (pc := 50) rfl ?_
      refine go_is (pc := 51) rfl ?_
      exact sX9_leastLength_53 R35 _ _ _ _ _ _ _ _ _ _ (bi_k1 (bi_k1 l0 rfl rfl) rfl rfl) (bi_k1 (bi_k1 l1 rfl rfl) rfl rfl) (bi_k1 (bi_k1 l4 rfl rfl) rfl rfl) (bi_k1 (bi_k1 l5 rfl rfl) rfl rfl) (bi_k1 bi_e1 rfl rfl) (bi_k1 (bi_k1 l7 rfl rfl) rfl rfl) bi_e1 hh
def fX9_leastLength_35 (n : Nat) : Nat → ai_H → Nat → Nat → Int32 → Int32 → Int32 → Int32 → Option (Int32 × ai_H)
  | 0 => fun _ _ _ _ _ _ _ => none
  | k + 1 => fun h v0 v1 v4 v5 v6 v7 => fX9_leastLength_35b n (fX9_leastLength_35 n k) h v0 v1 v4 v5 v6 v7
theorem sX9_leastLength_35 {n : Nat} {q : Int32 × ai_H} : ∀ (k : Nat) (h : ai_H) (v0 : Nat) (v1 : Nat) (v4 : Int32) (v5 : Int32) (v6 : Int32) (v7 : Int32) (lv : ai_L), ai_ld 0 lv = some (.ref v0) → ai_ld 1 lv = some (.ref v1) → ai_ld 4 lv = some (.int v4) → ai_ld 5 lv = some (.int v5) → ai_ld 6 lv = some (.int v6) → ai_ld 7 lv = some (.int v7) → fX9_leastLength_35 n k h v0 v1 v4 v5 v6 v7 = some q → bi_go 2 tX9_leastLength n (fI n q) 35 lv [] h
  | 0 => fun _ _ _ _ _ _ _ _ _ _ _ _ _ _ hh => by cases hh
  | k + 1 => fun h v0 v1 v4 v5 v6 v7 lv l0 l1 l4 l5 l6 l7 hh => sX9_leastLength_35b  (sX9_leastLength_35  k) l0 l1 l4 l5 l6 l7 hh
def fX9_leastLength (n : Nat) (h : ai_H) (a0 : Nat) (a1 : Nat) (a2 : Nat) (a3 : Int32) (a4 : Int32) : Option (Int32 × ai_H) :=
  (kO n h a0 9).bind fun _ =>
  (fX9_openFor n h a1 a2 a3).bind fun q1 =>
  (pR n q1.2 a0 9 0).bind fun x2 =>
  (fJ7_fill_53178 n q1.2 x2 (1000000 : Int32)).bind fun q3 =>
  (pR n q3.2 a0 9 0).bind fun x4 =>
  (pR n q3.2 a2 5 7).bind fun x5 =>
  (gX 1 n q3.2 x5 a3).bind fun x6 =>
  (wX 1 (fun x => x) n q3.2 x4 x6 (0 : Int32)).bind fun h7 =>
  fX9_leastLength_35 n bi_K h7 a0 a1 a4 q1.1 (1 : Int32) (0 : Int32)
theorem gX9_leastLength {n : Nat} {h : ai_H} {a0 : Nat} {a1 : Nat} {a2 : Nat} {a3 : Int32} {a4 : Int32} {q : Int32 × ai_H} (hh : fX9_leastLength n h a0 a1 a2 a3 a4 = some q) : kO n h a0 9 = some () := by
  obtain ⟨_, e, -⟩ := bi_bd hh
  exact e
theorem sX9_leastLength {n : Nat} {h : ai_H} {a0 : Nat} {a1 : Nat} {a2 : Nat} {a3 : Int32} {a4 : Int32} {q : Int32 × ai_H} (hh : fX9_leastLength n h a0 a1 a2 a3 a4 = some q) : bi_sp 3 81 [.ref a0, .ref a1, .ref a2, .int a3, .int a4] h n (fI n q) := by
  refine bi_en (D := 2) (T := tX9_leastLength) (funext fun pc => rfl) rfl (Nat.le_of_ble_eq_true rfl) ?_
  unfold fX9_leastLength at hh
  obtain ⟨_, eO, hh⟩ := bi_bd hh
  refine go_al (pc := 0) rfl (rfl : ai_ld 1 (lv_args 0 [.ref a0, .ref a1, .ref a2, .int a3, .int a4]) = some (.ref a1)) ?_
  refine go_al (pc := 1) rfl (rfl : ai_ld 2 (lv_args 0 [.ref a0, .ref a1, .ref a2, .int a3, .int a4]) = some (.ref a2)) ?_
  refine go_il (pc := 2) rfl (rfl : ai_ld 3 (lv_args 0 [.ref a0, .ref a1, .ref a2, .int a3, .int a4]) = some (.int a3)) ?_
  obtain ⟨q1, eq1, hh⟩ := bi_bd hh
  refine go_iSI (pc := 3) rfl (Nat.le_of_ble_eq_true rfl) rfl (Nat.le_of_ble_eq_true rfl) (bi_up (sX9_openFor eq1) (Nat.le_of_ble_eq_true rfl)) ?_
  refine go_is (pc := 6) rfl ?_
  refine go_al (pc := 8) rfl (bi_k1 (rfl : ai_ld 0 (lv_args 0 [.ref a0, .ref a1, .ref a2, .int a3, .int a4]) = some (.ref a0)) rfl rfl) ?_
  obtain ⟨x2, ex2, hh⟩ := bi_bd hh
  refine go_gfR (pc := 9) rfl ex2 ?_
  refine go_pi (pc := 12) rfl ?_
  obtain ⟨q3, eq3, hh⟩ := bi_bd hh
  refine go_iSV (pc := 14) rfl (Nat.le_of_ble_eq_true rfl) rfl (Nat.le_of_ble_eq_true rfl) (bi_up (sJ7_fill_53178 eq3) (Nat.le_of_ble_eq_true rfl)) ?_
  refine go_al (pc := 17) rfl (bi_k1 (rfl : ai_ld 0 (lv_args 0 [.ref a0, .ref a1, .ref a2, .int a3, .int a4]) = some (.ref a0)) rfl rfl) ?_
  obtain ⟨x4, ex4, hh⟩ := bi_bd hh
  refine go_gfR (pc := 18) rfl ex4 ?_
  refine go_al (pc := 21) rfl (bi_k1 (rfl : ai_ld 2 (lv_args 0 [.ref a0, .ref a1, .ref a2, .int a3, .int a4]) = some (.ref a2)) rfl rfl) ?_
  obtain ⟨x5, ex5, hh⟩ := bi_bd hh
  refine go_gfR (pc := 22) rfl ex5 ?_
  refine go_il (pc := 25) rfl (bi_k1 (rfl : ai_ld 3 (lv_args 0 [.ref a0, .ref a1, .ref a2, .int a3, .int a4]) = some (.int a3)) rfl rfl) ?_
  obtain ⟨x6, ex6, hh⟩ := bi_bd hh
  refine go_iald (pc := 26) rfl ex6 ?_
  refine go_pi (pc := 27) rfl ?_
  obtain ⟨h7, eh7, hh⟩ := bi_bd hh
  refine go_iast (pc := 28) rfl eh7 ?_
  refine go_pi (pc := 29) rfl ?_
  refine go_is (pc := 30) rfl ?_
  refine go_pi (pc := 32) rfl ?_
  refine go_is (pc := 33) rfl ?_
  exact sX9_leastLength_35  _ _ _ _ _ _ _ _ _ (bi_k1 (bi_k1 (bi_k1 (rfl : ai_ld 0 (lv_args 0 [.ref a0, .ref a1, .ref a2, .int a3, .int a4]) = some (.ref a0)) rfl rfl) rfl rfl) rfl rfl) (bi_k1 (bi_k1 (bi_k1 (rfl : ai_ld 1 (lv_args 0 [.ref a0, .ref a1, .ref a2, .int a3, .int a4]) = some (.ref a1)) rfl rfl) rfl rfl) rfl rfl) (bi_k1 (bi_k1 (bi_k1 (rfl : ai_ld 4 (lv_args 0 [.ref a0, .ref a1, .ref a2, .int a3, .int a4]) = some (.int a4)) rfl rfl) rfl rfl) rfl rfl) (bi_k1 (bi_k1 bi_e1 rfl rfl) rfl rfl) (bi_k1 bi_e1 rfl rfl) bi_e1 hh
def fX9_lessen_69 (n : Nat) (h : ai_H) (v0 : Nat) (v1 : Int32) (v5 : Int32) : Option (Int32 × ai_H) :=
  (pR n h v0 9 1).bind fun x1 =>
  (gX 1 n h x1 v1).bind fun x2 =>
  if v5 < x2 then (
    (pR n h v0 9 1).bind fun x3 =>
    (wX 1 (fun x => x) n h x3 v1 v5).bind fun h4 =>
    some ((1 : Int32), h4))
  else (
    some ((0 : Int32), h))
theorem sX9_lessen_69 {n : Nat} {q : Int32 × ai_H} {h : ai_H} {v0 : Nat} {v1 : Int32} {v5 : Int32} {lv : ai_L} (l0 : ai_ld 0 lv = some (.ref v0)) (l1 : ai_ld 1 lv = some (.int v1)) (l5 : ai_ld 5 lv = some (.int v5)) (hh : fX9_lessen_69 n h v0 v1 v5 = some q) : bi_go 0 tX9_lessen n (fI n q) 69 lv [] h := by
  unfold fX9_lessen_69 at hh
  refine go_il (pc := 69) rfl l5 ?_
  refine go_al (pc := 71) rfl l0 ?_
  obtain ⟨x1, ex1, hh⟩ := bi_bd hh
  refine go_gfR (pc := 72) rfl ex1 ?_
  refine go_il (pc := 75) rfl l1 ?_
  obtain ⟨x2, ex2, hh⟩ := bi_bd hh
  refine go_iald (pc := 76) rfl ex2 ?_
  refine bi_ite hh (fun hc hh => ?_) (fun hc hh => ?_)
  · refine go_cmpltT (pc := 77) rfl hc ?_
    refine go_al (pc := 82) rfl l0 ?_
    obtain ⟨x3, ex3, hh⟩ := bi_bd hh
    refine go_gfR (pc := 83) rfl ex3 ?_
    refine go_il (pc := 86) rfl l1 ?_
    refine go_il (pc := 87) rfl l5 ?_
    obtain ⟨h4, eh4, hh⟩ := bi_bd hh
    refine go_iast (pc := 89) rfl eh4 ?_
    refine go_pi (pc := 90) rfl ?_
    exact go_rz (pc := 91) rfl bi_z1 hh
  · refine go_cmpltF (pc := 77) rfl hc ?_
    refine go_pi (pc := 80) rfl ?_
    exact go_rz (pc := 81) rfl bi_z0 hh
def fX9_lessen_34 (n : Nat) (h : ai_H) (v0 : Nat) (v1 : Int32) (v2 : Int32) (v3 : Int32) (v4 : Int32) (v5 : Int32) : Option (Int32 × ai_H) :=
  if v4 ≤ 0 then (
    fX9_lessen_69 n h v0 v1 v5)
  else (
    if (1000000 : Int32) ≤ v2 then (
      fX9_lessen_69 n h v0 v1 v5)
    else (
      if ((v2 &&& (127 : Int32)) + v3) ≤ v4 then (
        fX9_lessen_69 n h v0 v1 v5)
      else (
        fX9_lessen_69 n h v0 v1 ((((v2 >>> ((7 : Int32) &&& 31)) + (1 : Int32)) <<< ((7 : Int32) &&& 31)) ||| v3))))
theorem sX9_lessen_34 {n : Nat} {q : Int32 × ai_H} {h : ai_H} {v0 : Nat} {v1 : Int32} {v2 : Int32} {v3 : Int32} {v4 : Int32} {v5 : Int32} {lv : ai_L} (l0 : ai_ld 0 lv = some (.ref v0)) (l1 : ai_ld 1 lv = some (.int v1)) (l2 : ai_ld 2 lv = some (.int v2)) (l3 : ai_ld 3 lv = some (.int v3)) (l4 : ai_ld 4 lv = some (.int v4)) (l5 : ai_ld 5 lv = some (.int v5)) (hh : fX9_lessen_34 n h v0 v1 v2 v3 v4 v5 = some q) : bi_go 0 tX9_lessen n (fI n q) 34 lv [] h := by
  unfold fX9_lessen_34 at hh
  refine go_il (pc := 34) rfl l4 ?_
  refine bi_ite hh (fun hc hh => ?_) (fun hc hh => ?_)
  · refine go_ifleT (pc := 36) rfl hc ?_
    exact sX9_lessen_69  l0 l1 l5 hh
  · refine go_ifleF (pc := 36) rfl hc ?_
    refine go_il (pc := 39) rfl l2 ?_
    refine go_pi (pc := 40) rfl ?_
    refine bi_ite hh (fun hc hh => ?_) (fun hc hh => ?_)
    · refine go_cmpgeT (pc := 42) rfl hc ?_
      exact sX9_lessen_69  l0 l1 l5 hh
    · refine go_cmpgeF (pc := 42) rfl hc ?_
      refine go_il (pc := 45) rfl l2 ?_
      refine go_pi (pc := 46) rfl ?_
      refine go_iand (pc := 48) rfl ?_
      refine go_il (pc := 49) rfl l3 ?_
      refine go_iadd (pc := 50) rfl ?_
      refine go_il (pc := 51) rfl l4 ?_
      refine bi_ite hh (fun hc hh => ?_) (fun hc hh => ?_)
      · refine go_cmpleT (pc := 53) rfl hc ?_
        exact sX9_lessen_69  l0 l1 l5 hh
      · refine go_cmpleF (pc := 53) rfl hc ?_
        refine go_il (pc := 56) rfl l2 ?_
        refine go_pi (pc := 57) rfl ?_
        refine go_ishr (pc := 59) rfl ?_
        refine go_pi (pc := 60) rfl ?_
        refine go_iadd (pc := 61) rfl ?_
        refine go_pi (pc := 62) rfl ?_
        refine go_ishl (pc := 64) rfl ?_
        refine go_il (pc := 65) rfl l3 ?_
        refine go_ior (pc := 66) rfl ?_
        refine go_is (pc := 67) rfl ?_
        exact sX9_lessen_69  (bi_k1 l0 rfl rfl) (bi_k1 l1 rfl rfl) bi_e1 hh
def fX9_lessen_14 (n : Nat) (h : ai_H) (v0 : Nat) (v1 : Int32) (v2 : Int32) (v3 : Int32) (v4 : Int32) (s0 : Int32) : Option (Int32 × ai_H) :=
  if v4 ≤ 0 then (
    fX9_lessen_34 n h v0 v1 v2 v3 v4 s0)
  else (
    if v3 ≤ v4 then (
      fX9_lessen_34 n h v0 v1 v2 v3 v4 s0)
    else (
      fX9_lessen_69 n h v0 v1 (1000000 : Int32)))
theorem sX9_lessen_14 {n : Nat} {q : Int32 × ai_H} {h : ai_H} {v0 : Nat} {v1 : Int32} {v2 : Int32} {v3 : Int32} {v4 : Int32} {s0 : Int32} {lv : ai_L} (l0 : ai_ld 0 lv = some (.ref v0)) (l1 : ai_ld 1 lv = some (.int v1)) (l2 : ai_ld 2 lv = some (.int v2)) (l3 : ai_ld 3 lv = some (.int v3)) (l4 : ai_ld 4 lv = some (.int v4)) (hh : fX9_lessen_14 n h v0 v1 v2 v3 v4 s0 = some q) : bi_go 0 tX9_lessen n (fI n q) 14 lv [.int s0] h := by
  unfold fX9_lessen_14 at hh
  refine go_is (pc := 14) rfl ?_
  refine go_il (pc := 16) rfl (bi_k1 l4 rfl rfl) ?_
  refine bi_ite hh (fun hc hh => ?_) (fun hc hh => ?_)
  · refine go_ifleT (pc := 18) rfl hc ?_
    exact sX9_lessen_34  (bi_k1 l0 rfl rfl) (bi_k1 l1 rfl rfl) (bi_k1 l2 rfl rfl) (bi_k1 l3 rfl rfl) (bi_k1 l4 rfl rfl) bi_e1 hh
  · refine go_ifleF (pc := 18) rfl hc ?_
    refine go_il (pc := 21) rfl (bi_k1 l3 rfl rfl) ?_
    refine go_il (pc := 22) rfl (bi_k1 l4 rfl rfl) ?_
    refine bi_ite hh (fun hc hh => ?_) (fun hc hh => ?_)
    · refine go_cmpleT (pc := 24) rfl hc ?_
      exact sX9_lessen_34  (bi_k1 l0 rfl rfl) (bi_k1 l1 rfl rfl) (bi_k1 l2 rfl rfl) (bi_k1 l3 rfl rfl) (bi_k1 l4 rfl rfl) bi_e1 hh
    · refine go_cmpleF (pc := 24) rfl hc ?_
      refine go_pi (pc := 27) rfl ?_
      refine go_is (pc := 29) rfl ?_
      refine go_goto (pc := 31) rfl ?_
      exact sX9_lessen_69  (bi_k1 (bi_k1 l0 rfl rfl) rfl rfl) (bi_k1 (bi_k1 l1 rfl rfl) rfl rfl) bi_e1 hh
def fX9_lessen (n : Nat) (h : ai_H) (a0 : Nat) (a1 : Int32) (a2 : Int32) (a3 : Int32) (a4 : Int32) : Option (Int32 × ai_H) :=
  (kO n h a0 9).bind fun _ =>
  if a2 < (1000000 : Int32) then (
    fX9_lessen_14 n h a0 a1 a2 a3 a4 (a2 + a3))
  else (
    fX9_lessen_14 n h a0 a1 a2 a3 a4 (1000000 : Int32))
theorem gX9_lessen {n : Nat} {h : ai_H} {a0 : Nat} {a1 : Int32} {a2 : Int32} {a3 : Int32} {a4 : Int32} {q : Int32 × ai_H} (hh : fX9_lessen n h a0 a1 a2 a3 a4 = some q) : kO n h a0 9 = some () := by
  obtain ⟨_, e, -⟩ := bi_bd hh
  exact e
theorem sX9_lessen {n : Nat} {h : ai_H} {a0 : Nat} {a1 : Int32} {a2 : Int32} {a3 : Int32} {a4 : Int32} {q : Int32 × ai_H} (hh : fX9_lessen n h a0 a1 a2 a3 a4 = some q) : bi_sp 1 85 [.ref a0, .int a1, .int a2, .int a3, .int a4] h n (fI n q) := by
  refine bi_en (D := 0) (T := tX9_lessen) (funext fun pc => rfl) rfl (Nat.le_of_ble_eq_true rfl) ?_
  unfold fX9_lessen at hh
  obtain ⟨_, eO, hh⟩ := bi_bd hh
  refine go_il (pc := 0) rfl (rfl : ai_ld 2 (lv_args 0 [.ref a0, .int a1, .int a2, .int a3, .int a4]) = some (.int a2)) ?_
  refine go_pi (pc := 1) rfl ?_
  refine bi_ite hh (fun hc hh => ?_) (fun hc hh => ?_)
  · refine go_cmpltT (pc := 3) rfl hc ?_
    refine go_il (pc := 11) rfl (rfl : ai_ld 2 (lv_args 0 [.ref a0, .int a1, .int a2, .int a3, .int a4]) = some (.int a2)) ?_
    refine go_il (pc := 12) rfl (rfl : ai_ld 3 (lv_args 0 [.ref a0, .int a1, .int a2, .int a3, .int a4]) = some (.int a3)) ?_
    refine go_iadd (pc := 13) rfl ?_
    exact sX9_lessen_14  (rfl : ai_ld 0 (lv_args 0 [.ref a0, .int a1, .int a2, .int a3, .int a4]) = some (.ref a0)) (rfl : ai_ld 1 (lv_args 0 [.ref a0, .int a1, .int a2, .int a3, .int a4]) = some (.int a1)) (rfl : ai_ld 2 (lv_args 0 [.ref a0, .int a1, .int a2, .int a3, .int a4]) = some (.int a2)) (rfl : ai_ld 3 (lv_args 0 [.ref a0, .int a1, .int a2, .int a3, .int a4]) = some (.int a3)) (rfl : ai_ld 4 (lv_args 0 [.ref a0, .int a1, .int a2, .int a3, .int a4]) = some (.int a4)) hh
  · refine go_cmpltF (pc := 3) rfl hc ?_
    refine go_pi (pc := 6) rfl ?_
    refine go_goto (pc := 8) rfl ?_
    exact sX9_lessen_14  (rfl : ai_ld 0 (lv_args 0 [.ref a0, .int a1, .int a2, .int a3, .int a4]) = some (.ref a0)) (rfl : ai_ld 1 (lv_args 0 [.ref a0, .int a1, .int a2, .int a3, .int a4]) = some (.int a1)) (rfl : ai_ld 2 (lv_args 0 [.ref a0, .int a1, .int a2, .int a3, .int a4]) = some (.int a2)) (rfl : ai_ld 3 (lv_args 0 [.ref a0, .int a1, .int a2, .int a3, .int a4]) = some (.int a3)) (rfl : ai_ld 4 (lv_args 0 [.ref a0, .int a1, .int a2, .int a3, .int a4]) = some (.int a4)) hh
