/-! ===== methods as functions, part 8 ===== -/
def fX9_matchFrom_10 (n : Nat) (cX9_matchFrom : ai_H → Nat → Int32 → Int32 → Int32 → Int32 → Option (Unit × ai_H)) (h : ai_H) (v0 : Nat) (v4 : Int32) : Option (Unit × ai_H) :=
  (pI n h v0 9 6).bind fun x1 =>
  if v4 ≤ x1 then (
    some ((), h))
  else (
    (sF n h v0 9 6 (.int) (.int v4)).bind fun h2 =>
    (pR n h2 v0 9 4).bind fun x3 =>
    (pR n h2 v0 9 5).bind fun x4 =>
    (cA n h2 x3 (0 : Int32) x4 (0 : Int32) (4 : Int32)).bind fun h5 =>
    some ((), h5))
theorem sX9_matchFrom_10 {n : Nat} {D : Nat} {cX9_matchFrom : ai_H → Nat → Int32 → Int32 → Int32 → Int32 → Option (Unit × ai_H)} {q : Unit × ai_H} {h : ai_H} {v0 : Nat} {v4 : Int32} {lv : ai_L} (hD : 0 ≤ D) (CX9_matchFrom : ∀ (h : ai_H) (a0 : Nat) (a1 : Int32) (a2 : Int32) (a3 : Int32) (a4 : Int32) (q : Unit × ai_H), cX9_matchFrom h a0 a1 a2 a3 a4 = some q → kO n h a0 9 = some () ∧ bi_sp D 87 [.ref a0, .int a1, .int a2, .int a3, .int a4] h n (fV n q)) (l0 : ai_ld 0 lv = some (.ref v0)) (l4 : ai_ld 4 lv = some (.int v4)) (hh : fX9_matchFrom_10 n cX9_matchFrom h v0 v4 = some q) : bi_go D tX9_matchFrom n (fV n q) 10 lv [] h := by
  unfold fX9_matchFrom_10 at hh
  refine go_il (pc := 10) rfl l4 ?_
  refine go_al (pc := 12) rfl l0 ?_
  obtain ⟨x1, ex1, hh⟩ := bi_bd hh
  refine go_gfI (pc := 13) rfl ex1 ?_
  refine bi_ite hh (fun hc hh => ?_) (fun hc hh => ?_)
  · refine go_cmpleT (pc := 16) rfl hc ?_
    exact go_rv (pc := 39) rfl hh
  · refine go_cmpleF (pc := 16) rfl hc ?_
    refine go_al (pc := 19) rfl l0 ?_
    refine go_il (pc := 20) rfl l4 ?_
    obtain ⟨h2, eh2, hh⟩ := bi_bd hh
    refine go_pf (pc := 22) rfl eh2 ?_
    refine go_al (pc := 25) rfl l0 ?_
    obtain ⟨x3, ex3, hh⟩ := bi_bd hh
    refine go_gfR (pc := 26) rfl ex3 ?_
    refine go_pi (pc := 29) rfl ?_
    refine go_al (pc := 30) rfl l0 ?_
    obtain ⟨x4, ex4, hh⟩ := bi_bd hh
    refine go_gfR (pc := 31) rfl ex4 ?_
    refine go_pi (pc := 34) rfl ?_
    refine go_pi (pc := 35) rfl ?_
    obtain ⟨h5, eh5, hh⟩ := bi_bd hh
    refine go_cp (pc := 36) rfl eh5 (Nat.le_of_ble_eq_true rfl) ?_
    exact go_rv (pc := 39) rfl hh
def fX9_matchFrom_102 (n : Nat) (cX9_matchFrom : ai_H → Nat → Int32 → Int32 → Int32 → Int32 → Option (Unit × ai_H)) (r43 : ai_H → Nat → Int32 → Int32 → Int32 → Int32 → Int32 → Option (Unit × ai_H)) (h : ai_H) (v0 : Nat) (v1 : Int32) (v2 : Int32) (v3 : Int32) (v4 : Int32) (v5 : Int32) : Option (Unit × ai_H) :=
  r43 h v0 v1 v2 v3 v4 (v5 + 1)
theorem sX9_matchFrom_102 {n : Nat} {D : Nat} {cX9_matchFrom : ai_H → Nat → Int32 → Int32 → Int32 → Int32 → Option (Unit × ai_H)} {r43 : ai_H → Nat → Int32 → Int32 → Int32 → Int32 → Int32 → Option (Unit × ai_H)} {q : Unit × ai_H} {h : ai_H} {v0 : Nat} {v1 : Int32} {v2 : Int32} {v3 : Int32} {v4 : Int32} {v5 : Int32} {lv : ai_L} (hD : 0 ≤ D) (CX9_matchFrom : ∀ (h : ai_H) (a0 : Nat) (a1 : Int32) (a2 : Int32) (a3 : Int32) (a4 : Int32) (q : Unit × ai_H), cX9_matchFrom h a0 a1 a2 a3 a4 = some q → kO n h a0 9 = some () ∧ bi_sp D 87 [.ref a0, .int a1, .int a2, .int a3, .int a4] h n (fV n q)) (R43 : ∀ (h : ai_H) (v0 : Nat) (v1 : Int32) (v2 : Int32) (v3 : Int32) (v4 : Int32) (v5 : Int32) (lv : ai_L), ai_ld 0 lv = some (.ref v0) → ai_ld 1 lv = some (.int v1) → ai_ld 2 lv = some (.int v2) → ai_ld 3 lv = some (.int v3) → ai_ld 4 lv = some (.int v4) → ai_ld 5 lv = some (.int v5) → r43 h v0 v1 v2 v3 v4 v5 = some q → bi_go D tX9_matchFrom n (fV n q) 43 lv [] h) (l0 : ai_ld 0 lv = some (.ref v0)) (l1 : ai_ld 1 lv = some (.int v1)) (l2 : ai_ld 2 lv = some (.int v2)) (l3 : ai_ld 3 lv = some (.int v3)) (l4 : ai_ld 4 lv = some (.int v4)) (l5 : ai_ld 5 lv = some (.int v5)) (hh : fX9_matchFrom_102 n cX9_matchFrom r43 h v0 v1 v2 v3 v4 v5 = some q) : bi_go D tX9_matchFrom n (fV n q) 102 lv [] h := by
  unfold fX9_matchFrom_102 at hh
  refine go_inc (pc := 102) rfl l5 ?_
  refine go_goto (pc := 105) rfl ?_
  exact R43 _ _ _ _ _ _ _ _ (bi_k1 l0 rfl rfl) (bi_k1 l1 rfl rfl) (bi_k1 l2 rfl rfl) (bi_k1 l3 rfl rfl) (bi_k1 l4 rfl rfl) bi_e1 hh
def fX9_matchFrom_43b (n : Nat) (cX9_matchFrom : ai_H → Nat → Int32 → Int32 → Int32 → Int32 → Option (Unit × ai_H)) (r43 : ai_H → Nat → Int32 → Int32 → Int32 → Int32 → Int32 → Option (Unit × ai_H)) (h : ai_H) (v0 : Nat) (v1 : Int32) (v2 : Int32) (v3 : Int32) (v4 : Int32) (v5 : Int32) : Option (Unit × ai_H) :=
  if (9 : Int32) ≤ v5 then (
    (pR n h v0 9 4).bind fun x1 =>
    (wX 1 (fun x => x) n h x1 v1 (-2 : Int32)).bind fun h2 =>
    (cX9_matchFrom h2 v0 (v1 + (1 : Int32)) v2 v3 v4).bind fun q3 =>
    some ((), q3.2))
  else (
    (pR n h v0 9 2).bind fun x4 =>
    (gX 1 n h x4 v1).bind fun x5 =>
    if ((x5 &&& (v3 ^^^ (-1 : Int32))) &&& ((1 : Int32) <<< (v5 &&& 31))) = 0 then (
      fX9_matchFrom_102 n cX9_matchFrom r43 h v0 v1 v2 v3 v4 v5)
    else (
      (pR n h v0 9 4).bind fun x6 =>
      (wX 1 (fun x => x) n h x6 v1 v5).bind fun h7 =>
      (pR n h7 v0 9 3).bind fun x8 =>
      (gX 1 n h7 x8 v5).bind fun x9 =>
      (cX9_matchFrom h7 v0 (v1 + (1 : Int32)) v2 (v3 ||| ((1 : Int32) <<< (v5 &&& 31))) (v4 + x9)).bind fun q10 =>
      fX9_matchFrom_102 n cX9_matchFrom r43 q10.2 v0 v1 v2 v3 v4 v5))
theorem sX9_matchFrom_43b {n : Nat} {D : Nat} {cX9_matchFrom : ai_H → Nat → Int32 → Int32 → Int32 → Int32 → Option (Unit × ai_H)} {r43 : ai_H → Nat → Int32 → Int32 → Int32 → Int32 → Int32 → Option (Unit × ai_H)} {q : Unit × ai_H} {h : ai_H} {v0 : Nat} {v1 : Int32} {v2 : Int32} {v3 : Int32} {v4 : Int32} {v5 : Int32} {lv : ai_L} (hD : 0 ≤ D) (CX9_matchFrom : ∀ (h : ai_H) (a0 : Nat) (a1 : Int32) (a2 : Int32) (a3 : Int32) (a4 : Int32) (q : Unit × ai_H), cX9_matchFrom h a0 a1 a2 a3 a4 = some q → kO n h a0 9 = some () ∧ bi_sp D 87 [.ref a0, .int a1, .int a2, .int a3, .int a4] h n (fV n q)) (R43 : ∀ (h : ai_H) (v0 : Nat) (v1 : Int32) (v2 : Int32) (v3 : Int32) (v4 : Int32) (v5 : Int32) (lv : ai_L), ai_ld 0 lv = some (.ref v0) → ai_ld 1 lv = some (.int v1) → ai_ld 2 lv = some (.int v2) → ai_ld 3 lv = some (.int v3) → ai_ld 4 lv = some (.int v4) → ai_ld 5 lv = some (.int v5) → r43 h v0 v1 v2 v3 v4 v5 = some q → bi_go D tX9_matchFrom n (fV n q) 43 lv [] h) (l0 : ai_ld 0 lv = some (.ref v0)) (l1 : ai_ld 1 lv = some (.int v1)) (l2 : ai_ld 2 lv = some (.int v2)) (l3 : ai_ld 3 lv = some (.int v3)) (l4 : ai_ld 4 lv = some (.int v4)) (l5 : ai_ld 5 lv = some (.int v5)) (hh : fX9_matchFrom_43b n cX9_matchFrom r43 h v0 v1 v2 v3 v4 v5 = some q) : bi_go D tX9_matchFrom n (fV n q) 43 lv [] h := by
  unfold fX9_matchFrom_43b at hh
  refine go_il (pc := 43) rfl l5 ?_
  refine go_pi (pc := 45) rfl ?_
  refine bi_ite hh (fun hc hh => ?_) (fun hc hh => ?_)
  · refine go_cmpgeT (pc := 47) rfl hc ?_
    refine go_al (pc := 108) rfl l0 ?_
    obtain ⟨x1, ex1, hh⟩ := bi_bd hh
    refine go_gfR (pc := 109) rfl ex1 ?_
    refine go_il (pc := 112) rfl l1 ?_
    refine go_pi (pc := 113) rfl ?_
    obtain ⟨h2, eh2, hh⟩ := bi_bd hh
    refine go_iast (pc := 115) rfl eh2 ?_
    refine go_al (pc := 116) rfl l0 ?_
    refine go_il (pc := 117) rfl l1 ?_
    refine go_pi (pc := 118) rfl ?_
    refine go_iadd (pc := 119) rfl ?_
    refine go_il (pc := 120) rfl l2 ?_
    refine go_il (pc := 121) rfl l3 ?_
    refine go_il (pc := 122) rfl l4 ?_
    obtain ⟨q3, eq3, hh⟩ := bi_bd hh
    refine go_ivV (pc := 124) rfl rfl (CX9_matchFrom _ _ _ _ _ _ _ eq3).1 (Nat.le_of_ble_eq_true rfl) (CX9_matchFrom _ _ _ _ _ _ _ eq3).2 ?_
    exact go_rv (pc := 127) rfl hh
  · refine go_cmpgeF (pc := 47) rfl hc ?_
    refine go_pi (pc := 50) rfl ?_
    refine go_il (pc := 51) rfl l5 ?_
    refine go_ishl (pc := 53) rfl ?_
    refine go_is (pc := 54) rfl ?_
    refine go_al (pc := 56) rfl (bi_k1 l0 rfl rfl) ?_
    obtain ⟨x4, ex4, hh⟩ := bi_bd hh
    refine go_gfR (pc := 57) rfl ex4 ?_
    refine go_il (pc := 60) rfl (bi_k1 l1 rfl rfl) ?_
    obtain ⟨x5, ex5, hh⟩ := bi_bd hh
    refine go_iald (pc := 61) rfl ex5 ?_
    refine go_il (pc := 62) rfl (bi_k1 l3 rfl rfl) ?_
    refine go_pi (pc := 63) rfl ?_
    refine go_ixor (pc := 64) rfl ?_
    refine go_iand (pc := 65) rfl ?_
    refine go_il (pc := 66) rfl bi_e1 ?_
    refine go_iand (pc := 68) rfl ?_
    refine bi_ite hh (fun hc hh => ?_) (fun hc hh => ?_)
    · refine go_ifeqT (pc := 69) rfl hc ?_
      exact sX9_matchFrom_102 hD CX9_matchFrom R43 (bi_k1 l0 rfl rfl) (bi_k1 l1 rfl rfl) (bi_k1 l2 rfl rfl) (bi_k1 l3 rfl rfl) (bi_k1 l4 rfl rfl) (bi_k1 l5 rfl rfl) hh
    · refine go_ifeqF (pc := 69) rfl hc ?_
      refine go_al (pc := 72) rfl (bi_k1 l0 rfl rfl) ?_
      obtain ⟨x6, ex6, hh⟩ := bi_bd hh
      refine go_gfR (pc := 73) rfl ex6 ?_
      refine go_il (pc := 76) rfl (bi_k1 l1 rfl rfl) ?_
      refine go_il (pc := 77) rfl (bi_k1 l5 rfl rfl) ?_
      obtain ⟨h7, eh7, hh⟩ := bi_bd hh
      refine go_iast (pc := 79) rfl eh7 ?_
      refine go_al (pc := 80) rfl (bi_k1 l0 rfl rfl) ?_
      refine go_il (pc := 81) rfl (bi_k1 l1 rfl rfl) ?_
      refine go_pi (pc := 82) rfl ?_
      refine go_iadd (pc := 83) rfl ?_
      refine go_il (pc := 84) rfl (bi_k1 l2 rfl rfl) ?_
      refine go_il (pc := 85) rfl (bi_k1 l3 rfl rfl) ?_
      refine go_il (pc := 86) rfl bi_e1 ?_
      refine go_ior (pc := 88) rfl ?_
      refine go_il (pc := 89) rfl (bi_k1 l4 rfl rfl) ?_
      refine go_al (pc := 91) rfl (bi_k1 l0 rfl rfl) ?_
      obtain ⟨x8, ex8, hh⟩ := bi_bd hh
      refine go_gfR (pc := 92) rfl ex8 ?_
      refine go_il (pc := 95) rfl (bi_k1 l5 rfl rfl) ?_
      obtain ⟨x9, ex9, hh⟩ := bi_bd hh
      refine go_iald (pc := 97) rfl ex9 ?_
      refine go_iadd (pc := 98) rfl ?_
      obtain ⟨q10, eq10, hh⟩ := bi_bd hh
      refine go_ivV (pc := 99) rfl rfl (CX9_matchFrom _ _ _ _ _ _ _ eq10).1 (Nat.le_of_ble_eq_true rfl) (CX9_matchFrom _ _ _ _ _ _ _ eq10).2 ?_
      exact sX9_matchFrom_102 hD CX9_matchFrom R43 (bi_k1 l0 rfl rfl) (bi_k1 l1 rfl rfl) (bi_k1 l2 rfl rfl) (bi_k1 l3 rfl rfl) (bi_k1 l4 rfl rfl) (bi_k1 l5 rfl rfl) hh
def fX9_matchFrom_43 (n : Nat) (cX9_matchFrom : ai_H → Nat → Int32 → Int32 → Int32 → Int32 → Option (Unit × ai_H)) : Nat → ai_H → Nat → Int32 → Int32 → Int32 → Int32 → Int32 → Option (Unit × ai_H)
  | 0 => fun _ _ _ _ _ _ _ => none
  | k + 1 => fun h v0 v1 v2 v3 v4 v5 => fX9_matchFrom_43b n cX9_matchFrom (fX9_matchFrom_43 n cX9_matchFrom k) h v0 v1 v2 v3 v4 v5
theorem sX9_matchFrom_43 {n : Nat} {D : Nat} {cX9_matchFrom : ai_H → Nat → Int32 → Int32 → Int32 → Int32 → Option (Unit × ai_H)} {q : Unit × ai_H} (hD : 0 ≤ D) (CX9_matchFrom : ∀ (h : ai_H) (a0 : Nat) (a1 : Int32) (a2 : Int32) (a3 : Int32) (a4 : Int32) (q : Unit × ai_H), cX9_matchFrom h a0 a1 a2 a3 a4 = some q → kO n h a0 9 = some () ∧ bi_sp D 87 [.ref a0, .int a1, .int a2, .int a3, .int a4] h n (fV n q)) : ∀ (k : Nat) (h : ai_H) (v0 : Nat) (v1 : Int32) (v2 : Int32) (v3 : Int32) (v4 : Int32) (v5 : Int32) (lv : ai_L), ai_ld 0 lv = some (.ref v0) → ai_ld 1 lv = some (.int v1) → ai_ld 2 lv = some (.int v2) → ai_ld 3 lv = some (.int v3) → ai_ld 4 lv = some (.int v4) → ai_ld 5 lv = some (.int v5) → fX9_matchFrom_43 n cX9_matchFrom k h v0 v1 v2 v3 v4 v5 = some q → bi_go D tX9_matchFrom n (fV n q) 43 lv [] h
  | 0 => fun _ _ _ _ _ _ _ _ _ _ _ _ _ _ hh => by cases hh
  | k + 1 => fun h v0 v1 v2 v3 v4 v5 lv l0 l1 l2 l3 l4 l5 hh => sX9_matchFrom_43b hD CX9_matchFrom (sX9_matchFrom_43 hD CX9_matchFrom k) l0 l1 l2 l3 l4 l5 hh
def fX9_matchFrom (n : Nat) (cX9_matchFrom : ai_H → Nat → Int32 → Int32 → Int32 → Int32 → Option (Unit × ai_H)) (h : ai_H) (a0 : Nat) (a1 : Int32) (a2 : Int32) (a3 : Int32) (a4 : Int32) : Option (Unit × ai_H) :=
  (kO n h a0 9).bind fun _ =>
  if a2 ≤ a1 then (
    fX9_matchFrom_10 n cX9_matchFrom h a0 a4)
  else (
    if a1 < (4 : Int32) then (
      fX9_matchFrom_43 n cX9_matchFrom bi_K h a0 a1 a2 a3 a4 (0 : Int32))
    else (
      fX9_matchFrom_10 n cX9_matchFrom h a0 a4))
theorem gX9_matchFrom {n : Nat} {cX9_matchFrom : ai_H → Nat → Int32 → Int32 → Int32 → Int32 → Option (Unit × ai_H)} {h : ai_H} {a0 : Nat} {a1 : Int32} {a2 : Int32} {a3 : Int32} {a4 : Int32} {q : Unit × ai_H} (hh : fX9_matchFrom n cX9_matchFrom h a0 a1 a2 a3 a4 = some q) : kO n h a0 9 = some () := by
  obtain ⟨_, e, -⟩ := bi_bd hh
  exact e
theorem sX9_matchFrom {n : Nat} {D : Nat} {cX9_matchFrom : ai_H → Nat → Int32 → Int32 → Int32 → Int32 → Option (Unit × ai_H)} {h : ai_H} {a0 : Nat} {a1 : Int32} {a2 : Int32} {a3 : Int32} {a4 : Int32} {q : Unit × ai_H} (hD : 0 ≤ D) (CX9_matchFrom : ∀ (h : ai_H) (a0 : Nat) (a1 : Int32) (a2 : Int32) (a3 : Int32) (a4 : Int32) (q : Unit × ai_H), cX9_matchFrom h a0 a1 a2 a3 a4 = some q → kO n h a0 9 = some () ∧ bi_sp D 87 [.ref a0, .int a1, .int a2, .int a3, .int a4] h n (fV n q)) (hh : fX9_matchFrom n cX9_matchFrom h a0 a1 a2 a3 a4 = some q) : bi_sp (D + 1) 87 [.ref a0, .int a1, .int a2, .int a3, .int a4] h n (fV n q) := by
  refine bi_en (D := D) (T := tX9_matchFrom) (funext fun pc => rfl) rfl (Nat.le_of_ble_eq_true rfl) ?_
  unfold fX9_matchFrom at hh
  obtain ⟨_, eO, hh⟩ := bi_bd hh
  refine go_il (pc := 0) rfl (rfl : ai_ld 1 (lv_args 0 [.ref a0, .int a1, .int a2, .int a3, .int a4]) = some (.int a1)) ?_
  refine go_il (pc := 1) rfl (rfl : ai_ld 2 (lv_args 0 [.ref a0, .int a1, .int a2, .int a3, .int a4]) = some (.int a2)) ?_
  refine bi_ite hh (fun hc hh => ?_) (fun hc hh => ?_)
  · refine go_cmpgeT (pc := 2) rfl hc ?_
    exact sX9_matchFrom_10 hD CX9_matchFrom (rfl : ai_ld 0 (lv_args 0 [.ref a0, .int a1, .int a2, .int a3, .int a4]) = some (.ref a0)) (rfl : ai_ld 4 (lv_args 0 [.ref a0, .int a1, .int a2, .int a3, .int a4]) = some (.int a4)) hh
  · refine go_cmpgeF (pc := 2) rfl hc ?_
    refine go_il (pc := 5) rfl (rfl : ai_ld 1 (lv_args 0 [.ref a0, .int a1, .int a2, .int a3, .int a4]) = some (.int a1)) ?_
    refine go_pi (pc := 6) rfl ?_
    refine bi_ite hh (fun hc hh => ?_) (fun hc hh => ?_)
    · refine go_cmpltT (pc := 7) rfl hc ?_
      refine go_pi (pc := 40) rfl ?_
      refine go_is (pc := 41) rfl ?_
      exact sX9_matchFrom_43 hD CX9_matchFrom _ _ _ _ _ _ _ _ _ (bi_k1 (rfl : ai_ld 0 (lv_args 0 [.ref a0, .int a1, .int a2, .int a3, .int a4]) = some (.ref a0)) rfl rfl) (bi_k1 (rfl : ai_ld 1 (lv_args 0 [.ref a0, .int a1, .int a2, .int a3, .int a4]) = some (.int a1)) rfl rfl) (bi_k1 (rfl : ai_ld 2 (lv_args 0 [.ref a0, .int a1, .int a2, .int a3, .int a4]) = some (.int a2)) rfl rfl) (bi_k1 (rfl : ai_ld 3 (lv_args 0 [.ref a0, .int a1, .int a2, .int a3, .int a4]) = some (.int a3)) rfl rfl) (bi_k1 (rfl : ai_ld 4 (lv_args 0 [.ref a0, .int a1, .int a2, .int a3, .int a4]) = some (.int a4)) rfl rfl) bi_e1 hh
    · refine go_cmpltF (pc := 7) rfl hc ?_
      exact sX9_matchFrom_10 hD CX9_matchFrom (rfl : ai_ld 0 (lv_args 0 [.ref a0, .int a1, .int a2, .int a3, .int a4]) = some (.ref a0)) (rfl : ai_ld 4 (lv_args 0 [.ref a0, .int a1, .int a2, .int a3, .int a4]) = some (.int a4)) hh
def fs2 (n : Nat) : Nat → (ai_H → Nat → Int32 → Int32 → Int32 → Int32 → Option (Unit × ai_H))
  | 0 => fun _ _ _ _ _ _ => none
  | k + 1 => fun h a0 a1 a2 a3 a4 => fX9_matchFrom n (fs2 n k) h a0 a1 a2 a3 a4
theorem ss2 {n : Nat} : ∀ k : Nat, (∀ (h : ai_H) (a0 : Nat) (a1 : Int32) (a2 : Int32) (a3 : Int32) (a4 : Int32) (q : Unit × ai_H), (fs2 n k) h a0 a1 a2 a3 a4 = some q → kO n h a0 9 = some () ∧ bi_sp (0 + k) 87 [.ref a0, .int a1, .int a2, .int a3, .int a4] h n (fV n q))
  | 0 => fun _ _ _ _ _ _ _ hh => (by cases hh)
  | k + 1 => fun _ _ _ _ _ _ _ hh => ⟨gX9_matchFrom (cX9_matchFrom := (fs2 n k)) hh, sX9_matchFrom (cX9_matchFrom := (fs2 n k)) (D := 0 + k) (Nat.le_add_right _ _) (ss2 k) hh⟩
def FX9_matchFrom (n : Nat) (h : ai_H) (a0 : Nat) (a1 : Int32) (a2 : Int32) (a3 : Int32) (a4 : Int32) : Option (Unit × ai_H) := (fs2 n bi_N) h a0 a1 a2 a3 a4
theorem GX9_matchFrom {n : Nat} {h : ai_H} {a0 : Nat} {a1 : Int32} {a2 : Int32} {a3 : Int32} {a4 : Int32} {q : Unit × ai_H} (hh : FX9_matchFrom n h a0 a1 a2 a3 a4 = some q) : kO n h a0 9 = some () := ((ss2 bi_N) _ _ _ _ _ _ _ hh).1
theorem SX9_matchFrom {n : Nat} {h : ai_H} {a0 : Nat} {a1 : Int32} {a2 : Int32} {a3 : Int32} {a4 : Int32} {q : Unit × ai_H} (hh : FX9_matchFrom n h a0 a1 a2 a3 a4 = some q) : bi_sp (0 + bi_N) 87 [.ref a0, .int a1, .int a2, .int a3, .int a4] h n (fV n q) := ((ss2 bi_N) _ _ _ _ _ _ _ hh).2
def fX9_matchAll_84 (n : Nat) (r2 : ai_H → Nat → Nat → Nat → Int32 → Option (Unit × ai_H)) (r31 : ai_H → Nat → Nat → Nat → Int32 → Int32 → Int32 → Option (Unit × ai_H)) (h : ai_H) (v0 : Nat) (v1 : Nat) (v2 : Nat) (v3 : Int32) (v4 : Int32) (v5 : Int32) : Option (Unit × ai_H) :=
  r31 h v0 v1 v2 v3 v4 (v5 + 1)
theorem sX9_matchAll_84 {n : Nat} {r2 : ai_H → Nat → Nat → Nat → Int32 → Option (Unit × ai_H)} {r31 : ai_H → Nat → Nat → Nat → Int32 → Int32 → Int32 → Option (Unit × ai_H)} {q : Unit × ai_H} {h : ai_H} {v0 : Nat} {v1 : Nat} {v2 : Nat} {v3 : Int32} {v4 : Int32} {v5 : Int32} {lv : ai_L} (R2 : ∀ (h : ai_H) (v0 : Nat) (v1 : Nat) (v2 : Nat) (v3 : Int32) (lv : ai_L), ai_ld 0 lv = some (.ref v0) → ai_ld 1 lv = some (.ref v1) → ai_ld 2 lv = some (.ref v2) → ai_ld 3 lv = some (.int v3) → r2 h v0 v1 v2 v3 = some q → bi_go 300 tX9_matchAll n (fV n q) 2 lv [] h) (R31 : ∀ (h : ai_H) (v0 : Nat) (v1 : Nat) (v2 : Nat) (v3 : Int32) (v4 : Int32) (v5 : Int32) (lv : ai_L), ai_ld 0 lv = some (.ref v0) → ai_ld 1 lv = some (.ref v1) → ai_ld 2 lv = some (.ref v2) → ai_ld 3 lv = some (.int v3) → ai_ld 4 lv = some (.int v4) → ai_ld 5 lv = some (.int v5) → r31 h v0 v1 v2 v3 v4 v5 = some q → bi_go 300 tX9_matchAll n (fV n q) 31 lv [] h) (l0 : ai_ld 0 lv = some (.ref v0)) (l1 : ai_ld 1 lv = some (.ref v1)) (l2 : ai_ld 2 lv = some (.ref v2)) (l3 : ai_ld 3 lv = some (.int v3)) (l4 : ai_ld 4 lv = some (.int v4)) (l5 : ai_ld 5 lv = some (.int v5)) (hh : fX9_matchAll_84 n r2 r31 h v0 v1 v2 v3 v4 v5 = some q) : bi_go 300 tX9_matchAll n (fV n q) 84 lv [] h := by
  unfold fX9_matchAll_84 at hh
  refine go_inc (pc := 84) rfl l5 ?_
  refine go_goto (pc := 87) rfl ?_
  exact R31 _ _ _ _ _ _ _ _ (bi_k1 l0 rfl rfl) (bi_k1 l1 rfl rfl) (bi_k1 l2 rfl rfl) (bi_k1 l3 rfl rfl) (bi_k1 l4 rfl rfl) bi_e1 hh
def fX9_matchAll_31b (n : Nat) (r2 : ai_H → Nat → Nat → Nat → Int32 → Option (Unit × ai_H)) (r31 : ai_H → Nat → Nat → Nat → Int32 → Int32 → Int32 → Option (Unit × ai_H)) (h : ai_H) (v0 : Nat) (v1 : Nat) (v2 : Nat) (v3 : Int32) (v4 : Int32) (v5 : Int32) : Option (Unit × ai_H) :=
  (pR n h v1 8 1).bind fun x1 =>
  (pI n h x1 6 4).bind fun x2 =>
  if x2 ≤ v5 then (
    r2 h v0 v1 v2 (v3 + 1))
  else (
    if ((v4 >>> (v5 &&& 31)) &&& (1 : Int32)) = 0 then (
      fX9_matchAll_84 n r2 r31 h v0 v1 v2 v3 v4 v5)
    else (
      (fX8_ends n h v1 v5).bind fun q3 =>
      (pR n q3.2 v2 5 7).bind fun x4 =>
      (gX 1 n q3.2 x4 v3).bind fun x5 =>
      if ((q3.1 >>> (x5 &&& 31)) &&& (1 : Int32)) = 0 then (
        fX9_matchAll_84 n r2 r31 q3.2 v0 v1 v2 v3 v4 v5)
      else (
        (pR n q3.2 v0 9 2).bind fun x6 =>
        (gX 1 n q3.2 x6 v3).bind fun x7 =>
        (wX 1 (fun x => x) n q3.2 x6 v3 (x7 ||| ((1 : Int32) <<< (v5 &&& 31)))).bind fun h8 =>
        fX9_matchAll_84 n r2 r31 h8 v0 v1 v2 v3 v4 v5)))
theorem sX9_matchAll_31b {n : Nat} {r2 : ai_H → Nat → Nat → Nat → Int32 → Option (Unit × ai_H)} {r31 : ai_H → Nat → Nat → Nat → Int32 → Int32 → Int32 → Option (Unit × ai_H)} {q : Unit × ai_H} {h : ai_H} {v0 : Nat} {v1 : Nat} {v2 : Nat} {v3 : Int32} {v4 : Int32} {v5 : Int32} {lv : ai_L} (R2 : ∀ (h : ai_H) (v0 : Nat) (v1 : Nat) (v2 : Nat) (v3 : Int32) (lv : ai_L), ai_ld 0 lv = some (.ref v0) → ai_ld 1 lv = some (.ref v1) → ai_ld 2 lv = some (.ref v2) → ai_ld 3 lv = some (.int v3) → r2 h v0 v1 v2 v3 = some q → bi_go 300 tX9_matchAll n (fV n q) 2 lv [] h) (R31 : ∀ (h : ai_H) (v0 : Nat) (v1 : Nat) (v2 : Nat) (v3 : Int32) (v4 : Int32) (v5 : Int32) (lv : ai_L), ai_ld 0 lv = some (.ref v0) → ai_ld 1 lv = some (.ref v1) → ai_ld 2 lv = some (.ref v2) → ai_ld 3 lv = some (.int v3) → ai_ld 4 lv = some (.int v4) → ai_ld 5 lv = some (.int v5) → r31 h v0 v1 v2 v3 v4 v5 = some q → bi_go 300 tX9_matchAll n (fV n q) 31 lv [] h) (l0 : ai_ld 0 lv = some (.ref v0)) (l1 : ai_ld 1 lv = some (.ref v1)) (l2 : ai_ld 2 lv = some (.ref v2)) (l3 : ai_ld 3 lv = some (.int v3)) (l4 : ai_ld 4 lv = some (.int v4)) (l5 : ai_ld 5 lv = some (.int v5)) (hh : fX9_matchAll_31b n r2 r31 h v0 v1 v2 v3 v4 v5 = some q) : bi_go 300 tX9_matchAll n (fV n q) 31 lv [] h := by
  unfold fX9_matchAll_31b at hh
  refine go_il (pc := 31) rfl l5 ?_
  refine go_al (pc := 33) rfl l1 ?_
  obtain ⟨x1, ex1, hh⟩ := bi_bd hh
  refine go_gfR (pc := 34) rfl ex1 ?_
  obtain ⟨x2, ex2, hh⟩ := bi_bd hh
  refine go_gfI (pc := 37) rfl ex2 ?_
  refine bi_ite hh (fun hc hh => ?_) (fun hc hh => ?_)
  · refine go_cmpgeT (pc := 40) rfl hc ?_
    refine go_inc (pc := 90) rfl l3 ?_
    refine go_goto (pc := 93) rfl ?_
    exact R2 _ _ _ _ _ _ (bi_k1 l0 rfl rfl) (bi_k1 l1 rfl rfl) (bi_k1 l2 rfl rfl) bi_e1 hh
  · refine go_cmpgeF (pc := 40) rfl hc ?_
    refine go_il (pc := 43) rfl l4 ?_
    refine go_il (pc := 45) rfl l5 ?_
    refine go_ishr (pc := 47) rfl ?_
    refine go_pi (pc := 48) rfl ?_
    refine go_iand (pc := 49) rfl ?_
    refine bi_ite hh (fun hc hh => ?_) (fun hc hh => ?_)
    · refine go_ifeqT (pc := 50) rfl hc ?_
      exact sX9_matchAll_84 R2 R31 l0 l1 l2 l3 l4 l5 hh
    · refine go_ifeqF (pc := 50) rfl hc ?_
      refine go_al (pc := 53) rfl l1 ?_
      refine go_il (pc := 54) rfl l5 ?_
      obtain ⟨q3, eq3, hh⟩ := bi_bd hh
      refine go_ivI (pc := 56) rfl rfl (gX8_ends eq3) (Nat.le_of_ble_eq_true rfl) (bi_up (sX8_ends eq3) (Nat.le_of_ble_eq_true rfl)) ?_
      refine go_al (pc := 59) rfl l2 ?_
      obtain ⟨x4, ex4, hh⟩ := bi_bd hh
      refine go_gfR (pc := 60) rfl ex4 ?_
      refine go_il (pc := 63) rfl l3 ?_
      obtain ⟨x5, ex5, hh⟩ := bi_bd hh
      refine go_iald (pc := 64) rfl ex5 ?_
      refine go_ishr (pc := 65) rfl ?_
      refine go_pi (pc := 66) rfl ?_
      refine go_iand (pc := 67) rfl ?_
      refine bi_ite hh (fun hc hh => ?_) (fun hc hh => ?_)
      · refine go_ifeqT (pc := 68) rfl hc ?_
        exact sX9_matchAll_84 R2 R31 l0 l1 l2 l3 l4 l5 hh
      · refine go_ifeqF (pc := 68) rfl hc ?_
        refine go_al (pc := 71) rfl l0 ?_
        obtain ⟨x6, ex6, hh⟩ := bi_bd hh
        refine go_gfR (pc := 72) rfl ex6 ?_
        refine go_il (pc := 75) rfl l3 ?_
        refine go_dup2 (pc := 76) rfl rfl rfl ?_
        obtain ⟨x7, ex7, hh⟩ := bi_bd hh
        refine go_iald (pc := 77) rfl ex7 ?_
        refine go_pi (pc := 78) rfl ?_
        refine go_il (pc := 79) rfl l5 ?_
        refine go_ishl (pc := 81) rfl ?_
        refine go_ior (pc := 82) rfl ?_
        obtain ⟨h8, eh8, hh⟩ := bi_bd hh
        refine go_iast (pc := 83) rfl eh8 ?_
        exact sX9_matchAll_84 R2 R31 l0 l1 l2 l3 l4 l5 hh
def fX9_matchAll_31 (n : Nat) (r2 : ai_H → Nat → Nat → Nat → Int32 → Option (Unit × ai_H)) : Nat → ai_H → Nat → Nat → Nat → Int32 → Int32 → Int32 → Option (Unit × ai_H)
  | 0 => fun _ _ _ _ _ _ _ => none
  | k + 1 => fun h v0 v1 v2 v3 v4 v5 => fX9_matchAll_31b n r2 (fX9_matchAll_31 n r2 k) h v0 v1 v2 v3 v4 v5
theorem sX9_matchAll_31 {n : Nat} {r2 : ai_H → Nat → Nat → Nat → Int32 → Option (Unit × ai_H)} {q : Unit × ai_H} (R2 : ∀ (h : ai_H) (v0 : Nat) (v1 : Nat) (v2 : Nat) (v3 : Int32) (lv : ai_L), ai_ld 0 lv = some (.ref v0) → ai_ld 1 lv = some (.ref v1) → ai_ld 2 lv = some (.ref v2) → ai_ld 3 lv = some (.int v3) → r2 h v0 v1 v2 v3 = some q → bi_go 300 tX9_matchAll n (fV n q) 2 lv [] h) : ∀ (k : Nat) (h : ai_H) (v0 : Nat) (v1 : Nat) (v2 : Nat) (v3 : Int32) (v4 : Int32) (v5 : Int32) (lv : ai_L), ai_ld 0 lv = some (.ref v0) → ai_ld 1 lv = some (.ref v1) → ai_ld 2 lv = some (.ref v2) → ai_ld 3 lv = some (.int v3) → ai_ld 4 lv = some (.int v4) → ai_ld 5 lv = some (.int v5) → fX9_matchAll_31 n r2 k h v0 v1 v2 v3 v4 v5 = some q → bi_go 300 tX9_matchAll n (fV n q) 31 lv [] h
  | 0 => fun _ _ _ _ _ _ _ _ _ _ _ _ _ _ hh => by cases hh
  | k + 1 => fun h v0 v1 v2 v3 v4 v5 lv l0 l1 l2 l3 l4 l5 hh => sX9_matchAll_31b R2 (sX9_matchAll_31 R2 k) l0 l1 l2 l3 l4 l5 hh
def fX9_matchAll_2b (n : Nat) (r2 : ai_H → Nat → Nat → Nat → Int32 → Option (Unit × ai_H)) (h : ai_H) (v0 : Nat) (v1 : Nat) (v2 : Nat) (v3 : Int32) : Option (Unit × ai_H) :=
  (pR n h v1 8 2).bind fun x1 =>
  (pI n h x1 6 4).bind fun x2 =>
  if x2 ≤ v3 then (
    (pR n h v2 5 5).bind fun x3 =>
    (pR n h v0 9 3).bind fun x4 =>
    (cA n h x3 (0 : Int32) x4 (0 : Int32) (9 : Int32)).bind fun h5 =>
    (pR n h5 v0 9 4).bind fun x6 =>
    (fJ7_fill_53178 n h5 x6 (-2 : Int32)).bind fun q7 =>
    (sF n q7.2 v0 9 6 (.int) (.int (-1 : Int32))).bind fun h8 =>
    (pR n h8 v1 8 2).bind fun x9 =>
    (pI n h8 x9 6 4).bind fun x10 =>
    (FX9_matchFrom n h8 v0 (0 : Int32) x10 (0 : Int32) (0 : Int32)).bind fun q11 =>
    some ((), q11.2))
  else (
    (fX9_openFor n h v1 v2 v3).bind fun q12 =>
    (pR n q12.2 v0 9 2).bind fun x13 =>
    (wX 1 (fun x => x) n q12.2 x13 v3 (0 : Int32)).bind fun h14 =>
    fX9_matchAll_31 n r2 bi_K h14 v0 v1 v2 v3 q12.1 (0 : Int32))
theorem sX9_matchAll_2b {n : Nat} {r2 : ai_H → Nat → Nat → Nat → Int32 → Option (Unit × ai_H)} {q : Unit × ai_H} {h : ai_H} {v0 : Nat} {v1 : Nat} {v2 : Nat} {v3 : Int32} {lv : ai_L} (R2 : ∀ (h : ai_H) (v0 : Nat) (v1 : Nat) (v2 : Nat) (v3 : Int32) (lv : ai_L), ai_ld 0 lv = some (.ref v0) → ai_ld 1 lv = some (.ref v1) → ai_ld 2 lv = some (.ref v2) → ai_ld 3 lv = some (.int v3) → r2 h v0 v1 v2 v3 = some q → bi_go 300 tX9_matchAll n (fV n q) 2 lv [] h) (l0 : ai_ld 0 lv = some (.ref v0)) (l1 : ai_ld 1 lv = some (.ref v1)) (l2 : ai_ld 2 lv = some (.ref v2)) (l3 : ai_ld 3 lv = some (.int v3)) (hh : fX9_matchAll_2b n r2 h v0 v1 v2 v3 = some q) : bi_go 300 tX9_matchAll n (fV n q) 2 lv [] h := by
  unfold fX9_matchAll_2b at hh
  refine go_il (pc := 2) rfl l3 ?_
  refine go_al (pc := 3) rfl l1 ?_
  obtain ⟨x1, ex1, hh⟩ := bi_bd hh
  refine go_gfR (pc := 4) rfl ex1 ?_
  obtain ⟨x2, ex2, hh⟩ := bi_bd hh
  refine go_gfI (pc := 7) rfl ex2 ?_
  refine bi_ite hh (fun hc hh => ?_) (fun hc hh => ?_)
  · refine go_cmpgeT (pc := 10) rfl hc ?_
    refine go_al (pc := 96) rfl l2 ?_
    obtain ⟨x3, ex3, hh⟩ := bi_bd hh
    refine go_gfR (pc := 97) rfl ex3 ?_
    refine go_pi (pc := 100) rfl ?_
    refine go_al (pc := 101) rfl l0 ?_
    obtain ⟨x4, ex4, hh⟩ := bi_bd hh
    refine go_gfR (pc := 102) rfl ex4 ?_
    refine go_pi (pc := 105) rfl ?_
    refine go_pi (pc := 106) rfl ?_
    obtain ⟨h5, eh5, hh⟩ := bi_bd hh
    refine go_cp (pc := 108) rfl eh5 (Nat.le_of_ble_eq_true rfl) ?_
    refine go_al (pc := 111) rfl l0 ?_
    obtain ⟨x6, ex6, hh⟩ := bi_bd hh
    refine go_gfR (pc := 112) rfl ex6 ?_
    refine go_pi (pc := 115) rfl ?_
    obtain ⟨q7, eq7, hh⟩ := bi_bd hh
    refine go_iSV (pc := 117) rfl (Nat.le_of_ble_eq_true rfl) rfl (Nat.le_of_ble_eq_true rfl) (bi_up (sJ7_fill_53178 eq7) (Nat.le_of_ble_eq_true rfl)) ?_
    refine go_al (pc := 120) rfl l0 ?_
    refine go_pi (pc := 121) rfl ?_
    obtain ⟨h8, eh8, hh⟩ := bi_bd hh
    refine go_pf (pc := 122) rfl eh8 ?_
    refine go_al (pc := 125) rfl l0 ?_
    refine go_pi (pc := 126) rfl ?_
    refine go_al (pc := 127) rfl l1 ?_
    obtain ⟨x9, ex9, hh⟩ := bi_bd hh
    refine go_gfR (pc := 128) rfl ex9 ?_
    obtain ⟨x10, ex10, hh⟩ := bi_bd hh
    refine go_gfI (pc := 131) rfl ex10 ?_
    refine go_pi (pc := 134) rfl ?_
    refine go_pi (pc := 135) rfl ?_
    obtain ⟨q11, eq11, hh⟩ := bi_bd hh
    refine go_ivV (pc := 136) rfl rfl (GX9_matchFrom eq11) (Nat.le_of_ble_eq_true rfl) (bi_up (SX9_matchFrom eq11) (Nat.le_of_ble_eq_true rfl)) ?_
    exact go_rv (pc := 139) rfl hh
  · refine go_cmpgeF (pc := 10) rfl hc ?_
    refine go_al (pc := 13) rfl l1 ?_
    refine go_al (pc := 14) rfl l2 ?_
    refine go_il (pc := 15) rfl l3 ?_
    obtain ⟨q12, eq12, hh⟩ := bi_bd hh
    refine go_iSI (pc := 16) rfl (Nat.le_of_ble_eq_true rfl) rfl (Nat.le_of_ble_eq_true rfl) (bi_up (sX9_openFor eq12) (Nat.le_of_ble_eq_true rfl)) ?_
    refine go_is (pc := 19) rfl ?_
    refine go_al (pc := 21) rfl (bi_k1 l0 rfl rfl) ?_
    obtain ⟨x13, ex13, hh⟩ := bi_bd hh
    refine go_gfR (pc := 22) rfl ex13 ?_
    refine go_il (pc := 25) rfl (bi_k1 l3 rfl rfl) ?_
    refine go_pi (pc := 26) rfl ?_
    obtain ⟨h14, eh14, hh⟩ := bi_bd hh
    refine go_iast (pc := 27) rfl eh14 ?_
    refine go_pi (pc := 28) rfl ?_
    refine go_is (pc := 29) rfl ?_
    exact sX9_matchAll_31 R2 _ _ _ _ _ _ _ _ _ (bi_k1 (bi_k1 l0 rfl rfl) rfl rfl) (bi_k1 (bi_k1 l1 rfl rfl) rfl rfl) (bi_k1 (bi_k1 l2 rfl rfl) rfl rfl) (bi_k1 (bi_k1 l3 rfl rfl) rfl rfl) (bi_k1 bi_e1 rfl rfl) bi_e1 hh
def fX9_matchAll_2 (n : Nat) : Nat → ai_H → Nat → Nat → Nat → Int32 → Option (Unit × ai_H)
  | 0 => fun _ _ _ _ _ => none
  | k + 1 => fun h v0 v1 v2 v3 => fX9_matchAll_2b n (fX9_matchAll_2 n k) h v0 v1 v2 v3
theorem sX9_matchAll_2 {n : Nat} {q : Unit × ai_H} : ∀ (k : Nat) (h : ai_H) (v0 : Nat) (v1 : Nat) (v2 : Nat) (v3 : Int32) (lv : ai_L), ai_ld 0 lv = some (.ref v0) → ai_ld 1 lv = some (.ref v1) → ai_ld 2 lv = some (.ref v2) → ai_ld 3 lv = some (.int v3) → fX9_matchAll_2 n k h v0 v1 v2 v3 = some q → bi_go 300 tX9_matchAll n (fV n q) 2 lv [] h
  | 0 => fun _ _ _ _ _ _ _ _ _ _ hh => by cases hh
  | k + 1 => fun h v0 v1 v2 v3 lv l0 l1 l2 l3 hh => sX9_matchAll_2b  (sX9_matchAll_2  k) l0 l1 l2 l3 hh
def fX9_matchAll (n : Nat) (h : ai_H) (a0 : Nat) (a1 : Nat) (a2 : Nat) : Option (Unit × ai_H) :=
  (kO n h a0 9).bind fun _ =>
  fX9_matchAll_2 n bi_K h a0 a1 a2 (0 : Int32)
theorem gX9_matchAll {n : Nat} {h : ai_H} {a0 : Nat} {a1 : Nat} {a2 : Nat} {q : Unit × ai_H} (hh : fX9_matchAll n h a0 a1 a2 = some q) : kO n h a0 9 = some () := by
  obtain ⟨_, e, -⟩ := bi_bd hh
  exact e
theorem sX9_matchAll {n : Nat} {h : ai_H} {a0 : Nat} {a1 : Nat} {a2 : Nat} {q : Unit × ai_H} (hh : fX9_matchAll n h a0 a1 a2 = some q) : bi_sp 301 86 [.ref a0, .ref a1, .ref a2] h n (fV n q) := by
  refine bi_en (D := 300) (T := tX9_matchAll) (funext fun pc => rfl) rfl (Nat.le_of_ble_eq_true rfl) ?_
  unfold fX9_matchAll at hh
  obtain ⟨_, eO, hh⟩ := bi_bd hh
  refine go_pi (pc := 0) rfl ?_
  refine go_is (pc := 1) rfl ?_
  exact sX9_matchAll_2  _ _ _ _ _ _ _ (bi_k1 (rfl : ai_ld 0 (lv_args 0 [.ref a0, .ref a1, .ref a2]) = some (.ref a0)) rfl rfl) (bi_k1 (rfl : ai_ld 1 (lv_args 0 [.ref a0, .ref a1, .ref a2]) = some (.ref a1)) rfl rfl) (bi_k1 (rfl : ai_ld 2 (lv_args 0 [.ref a0, .ref a1, .ref a2]) = some (.ref a2)) rfl rfl) bi_e1 hh
def fX10_putFour_3b (n : Nat) (r3 : ai_H → Nat → Int32 → Int32 → Option (Unit × ai_H)) (h : ai_H) (v0 : Nat) (v1 : Int32) (v2 : Int32) : Option (Unit × ai_H) :=
  if v2 < 0 then (
    some ((), h))
  else (
    (pI n h v0 10 1).bind fun x1 =>
    if (700 : Int32) ≤ x1 then (
      some ((), h))
    else (
      (pR n h v0 10 0).bind fun x2 =>
      (pI n h v0 10 1).bind fun x3 =>
      (wB n h x2 x3 ((v1 >>> (v2 &&& 31)).toInt8.toInt32)).bind fun h4 =>
      (pI n h4 v0 10 1).bind fun x5 =>
      (sF n h4 v0 10 1 (.int) (.int (x5 + (1 : Int32)))).bind fun h6 =>
      r3 h6 v0 v1 (v2 + (-8))))
theorem sX10_putFour_3b {n : Nat} {r3 : ai_H → Nat → Int32 → Int32 → Option (Unit × ai_H)} {q : Unit × ai_H} {h : ai_H} {v0 : Nat} {v1 : Int32} {v2 : Int32} {lv : ai_L} (R3 : ∀ (h : ai_H) (v0 : Nat) (v1 : Int32) (v2 : Int32) (lv : ai_L), ai_ld 0 lv = some (.ref v0) → ai_ld 1 lv = some (.int v1) → ai_ld 2 lv = some (.int v2) → r3 h v0 v1 v2 = some q → bi_go 0 tX10_putFour n (fV n q) 3 lv [] h) (l0 : ai_ld 0 lv = some (.ref v0)) (l1 : ai_ld 1 lv = some (.int v1)) (l2 : ai_ld 2 lv = some (.int v2)) (hh : fX10_putFour_3b n r3 h v0 v1 v2 = some q) : bi_go 0 tX10_putFour n (fV n q) 3 lv [] h := by
  unfold fX10_putFour_3b at hh
  refine go_il (pc := 3) rfl l2 ?_
  refine bi_ite hh (fun hc hh => ?_) (fun hc hh => ?_)
  · refine go_ifltT (pc := 4) rfl hc ?_
    exact go_rv (pc := 46) rfl hh
  · refine go_ifltF (pc := 4) rfl hc ?_
    refine go_al (pc := 7) rfl l0 ?_
    obtain ⟨x1, ex1, hh⟩ := bi_bd hh
    refine go_gfI (pc := 8) rfl ex1 ?_
    refine go_pi (pc := 11) rfl ?_
    refine bi_ite hh (fun hc hh => ?_) (fun hc hh => ?_)
    · refine go_cmpgeT (pc := 14) rfl hc ?_
      exact go_rv (pc := 46) rfl hh
    · refine go_cmpgeF (pc := 14) rfl hc ?_
      refine go_al (pc := 17) rfl l0 ?_
      obtain ⟨x2, ex2, hh⟩ := bi_bd hh
      refine go_gfR (pc := 18) rfl ex2 ?_
      refine go_al (pc := 21) rfl l0 ?_
      obtain ⟨x3, ex3, hh⟩ := bi_bd hh
      refine go_gfI (pc := 22) rfl ex3 ?_
      refine go_il (pc := 25) rfl l1 ?_
      refine go_il (pc := 26) rfl l2 ?_
      refine go_ishr (pc := 27) rfl ?_
      refine go_i2b (pc := 28) rfl ?_
      obtain ⟨h4, eh4, hh⟩ := bi_bd hh
      refine go_bast (pc := 29) rfl eh4 ?_
      refine go_al (pc := 30) rfl l0 ?_
      refine go_dup (pc := 31) rfl rfl ?_
      obtain ⟨x5, ex5, hh⟩ := bi_bd hh
      refine go_gfI (pc := 32) rfl ex5 ?_
      refine go_pi (pc := 35) rfl ?_
      refine go_iadd (pc := 36) rfl ?_
      obtain ⟨h6, eh6, hh⟩ := bi_bd hh
      refine go_pf (pc := 37) rfl eh6 ?_
      refine go_inc (pc := 40) rfl l2 ?_
      refine go_goto (pc := 43) rfl ?_
      exact R3 _ _ _ _ _ (bi_k1 l0 rfl rfl) (bi_k1 l1 rfl rfl) bi_e1 hh
def fX10_putFour_3 (n : Nat) : Nat → ai_H → Nat → Int32 → Int32 → Option (Unit × ai_H)
  | 0 => fun _ _ _ _ => none
  | k + 1 => fun h v0 v1 v2 => fX10_putFour_3b n (fX10_putFour_3 n k) h v0 v1 v2
theorem sX10_putFour_3 {n : Nat} {q : Unit × ai_H} : ∀ (k : Nat) (h : ai_H) (v0 : Nat) (v1 : Int32) (v2 : Int32) (lv : ai_L), ai_ld 0 lv = some (.ref v0) → ai_ld 1 lv = some (.int v1) → ai_ld 2 lv = some (.int v2) → fX10_putFour_3 n k h v0 v1 v2 = some q → bi_go 0 tX10_putFour n (fV n q) 3 lv [] h
  | 0 => fun _ _ _ _ _ _ _ _ hh => by cases hh
  | k + 1 => fun h v0 v1 v2 lv l0 l1 l2 hh => sX10_putFour_3b  (sX10_putFour_3  k) l0 l1 l2 hh
def fX10_putFour (n : Nat) (h : ai_H) (a0 : Nat) (a1 : Int32) : Option (Unit × ai_H) :=
  (kO n h a0 10).bind fun _ =>
  fX10_putFour_3 n bi_K h a0 a1 (24 : Int32)
theorem gX10_putFour {n : Nat} {h : ai_H} {a0 : Nat} {a1 : Int32} {q : Unit × ai_H} (hh : fX10_putFour n h a0 a1 = some q) : kO n h a0 10 = some () := by
  obtain ⟨_, e, -⟩ := bi_bd hh
  exact e
theorem sX10_putFour {n : Nat} {h : ai_H} {a0 : Nat} {a1 : Int32} {q : Unit × ai_H} (hh : fX10_putFour n h a0 a1 = some q) : bi_sp 1 90 [.ref a0, .int a1] h n (fV n q) := by
  refine bi_en (D := 0) (T := tX10_putFour) (funext fun pc => rfl) rfl (Nat.le_of_ble_eq_true rfl) ?_
  unfold fX10_putFour at hh
  obtain ⟨_, eO, hh⟩ := bi_bd hh
  refine go_pi (pc := 0) rfl ?_
  refine go_is (pc := 2) rfl ?_
  exact sX10_putFour_3  _ _ _ _ _ _ (bi_k1 (rfl : ai_ld 0 (lv_args 0 [.ref a0, .int a1]) = some (.ref a0)) rfl rfl) (bi_k1 (rfl : ai_ld 1 (lv_args 0 [.ref a0, .int a1]) = some (.int a1)) rfl rfl) bi_e1 hh
def fX10_feed (n : Nat) (h : ai_H) (a0 : Nat) (a1 : Int32) (a2 : Int32) (a3 : Int32) (a4 : Int32) (a5 : Int32) : Option (Int32 × ai_H) :=
  (kO n h a0 10).bind fun _ =>
  (pI n h a0 10 1).bind fun x1 =>
  if (x1 + (20 : Int32)) ≤ (700 : Int32) then (
    (fX10_putFour n h a0 a1).bind fun q2 =>
    (fX10_putFour n q2.2 a0 a2).bind fun q3 =>
    (fX10_putFour n q3.2 a0 a3).bind fun q4 =>
    (fX10_putFour n q4.2 a0 a4).bind fun q5 =>
    (fX10_putFour n q5.2 a0 a5).bind fun q6 =>
    (pI n q6.2 a0 10 1).bind fun x7 =>
    some (x7, q6.2))
  else (
    some ((-1 : Int32), h))
theorem gX10_feed {n : Nat} {h : ai_H} {a0 : Nat} {a1 : Int32} {a2 : Int32} {a3 : Int32} {a4 : Int32} {a5 : Int32} {q : Int32 × ai_H} (hh : fX10_feed n h a0 a1 a2 a3 a4 a5 = some q) : kO n h a0 10 = some () := by
  obtain ⟨_, e, -⟩ := bi_bd hh
  exact e
theorem sX10_feed {n : Nat} {h : ai_H} {a0 : Nat} {a1 : Int32} {a2 : Int32} {a3 : Int32} {a4 : Int32} {a5 : Int32} {q : Int32 × ai_H} (hh : fX10_feed n h a0 a1 a2 a3 a4 a5 = some q) : bi_sp 2 89 [.ref a0, .int a1, .int a2, .int a3, .int a4, .int a5] h n (fI n q) := by
  refine bi_en (D := 1) (T := tX10_feed) (funext fun pc => rfl) rfl (Nat.le_of_ble_eq_true rfl) ?_
  unfold fX10_feed at hh
  obtain ⟨_, eO, hh⟩ := bi_bd hh
  refine go_al (pc := 0) rfl (rfl : ai_ld 0 (lv_args 0 [.ref a0, .int a1, .int a2, .int a3, .int a4, .int a5]) = some (.ref a0)) ?_
  obtain ⟨x1, ex1, hh⟩ := bi_bd hh
  refine go_gfI (pc := 1) rfl ex1 ?_
  refine go_pi (pc := 4) rfl ?_
  refine go_iadd (pc := 6) rfl ?_
  refine go_pi (pc := 7) rfl ?_
  refine bi_ite hh (fun hc hh => ?_) (fun hc hh => ?_)
  · refine go_cmpleT (pc := 10) rfl hc ?_
    refine go_al (pc := 15) rfl (rfl : ai_ld 0 (lv_args 0 [.ref a0, .int a1, .int a2, .int a3, .int a4, .int a5]) = some (.ref a0)) ?_
    refine go_il (pc := 16) rfl (rfl : ai_ld 1 (lv_args 0 [.ref a0, .int a1, .int a2, .int a3, .int a4, .int a5]) = some (.int a1)) ?_
    obtain ⟨q2, eq2, hh⟩ := bi_bd hh
    refine go_ivV (pc := 17) rfl rfl (gX10_putFour eq2) (Nat.le_of_ble_eq_true rfl) (bi_up (sX10_putFour eq2) (Nat.le_of_ble_eq_true rfl)) ?_
    refine go_al (pc := 20) rfl (rfl : ai_ld 0 (lv_args 0 [.ref a0, .int a1, .int a2, .int a3, .int a4, .int a5]) = some (.ref a0)) ?_
    refine go_il (pc := 21) rfl (rfl : ai_ld 2 (lv_args 0 [.ref a0, .int a1, .int a2, .int a3, .int a4, .int a5]) = some (.int a2)) ?_
    obtain ⟨q3, eq3, hh⟩ := bi_bd hh
    refine go_ivV (pc := 22) rfl rfl (gX10_putFour eq3) (Nat.le_of_ble_eq_true rfl) (bi_up (sX10_putFour eq3) (Nat.le_of_ble_eq_true rfl)) ?_
    refine go_al (pc := 25) rfl (rfl : ai_ld 0 (lv_args 0 [.ref a0, .int a1, .int a2, .int a3, .int a4, .int a5]) = some (.ref a0)) ?_
    refine go_il (pc := 26) rfl (rfl : ai_ld 3 (lv_args 0 [.ref a0, .int a1, .int a2, .int a3, .int a4, .int a5]) = some (.int a3)) ?_
    obtain ⟨q4, eq4, hh⟩ := bi_bd hh
    refine go_ivV (pc := 27) rfl rfl (gX10_putFour eq4) (Nat.le_of_ble_eq_true rfl) (bi_up (sX10_putFour eq4) (Nat.le_of_ble_eq_true rfl)) ?_
    refine go_al (pc := 30) rfl (rfl : ai_ld 0 (lv_args 0 [.ref a0, .int a1, .int a2, .int a3, .int a4, .int a5]) = some (.ref a0)) ?_
    refine go_il (pc := 31) rfl (rfl : ai_ld 4 (lv_args 0 [.ref a0, .int a1, .int a2, .int a3, .int a4, .int a5]) = some (.int a4)) ?_
    obtain ⟨q5, eq5, hh⟩ := bi_bd hh
    refine go_ivV (pc := 33) rfl rfl (gX10_putFour eq5) (Nat.le_of_ble_eq_true rfl) (bi_up (sX10_putFour eq5) (Nat.le_of_ble_eq_true rfl)) ?_
    refine go_al (pc := 36) rfl (rfl : ai_ld 0 (lv_args 0 [.ref a0, .int a1, .int a2, .int a3, .int a4, .int a5]) = some (.ref a0)) ?_
    refine go_il (pc := 37) rfl (rfl : ai_ld 5 (lv_args 0 [.ref a0, .int a1, .int a2, .int a3, .int a4, .int a5]) = some (.int a5)) ?_
    obtain ⟨q6, eq6, hh⟩ := bi_bd hh
    refine go_ivV (pc := 39) rfl rfl (gX10_putFour eq6) (Nat.le_of_ble_eq_true rfl) (bi_up (sX10_putFour eq6) (Nat.le_of_ble_eq_true rfl)) ?_
    refine go_al (pc := 42) rfl (rfl : ai_ld 0 (lv_args 0 [.ref a0, .int a1, .int a2, .int a3, .int a4, .int a5]) = some (.ref a0)) ?_
    obtain ⟨x7, ex7, hh⟩ := bi_bd hh
    refine go_gfI (pc := 43) rfl ex7 ?_
    exact go_ri (pc := 46) rfl hh
  · refine go_cmpleF (pc := 10) rfl hc ?_
    refine go_pi (pc := 13) rfl ?_
    exact go_ri (pc := 14) rfl hh
def fX10_fault (n : Nat) (h : ai_H) (a0 : Nat) (a1 : Int32) : Option (Int32 × ai_H) :=
  (kO n h a0 10).bind fun _ =>
  if a1 = 0 then (
    (pR n h a0 10 2).bind fun x1 =>
    (pI n h x1 3 3).bind fun x2 =>
    some (x2, h))
  else (
    if a1 = 1 then (
      (pR n h a0 10 2).bind fun x3 =>
      (pI n h x3 3 4).bind fun x4 =>
      some (x4, h))
    else (
      some ((-1 : Int32), h)))
theorem gX10_fault {n : Nat} {h : ai_H} {a0 : Nat} {a1 : Int32} {q : Int32 × ai_H} (hh : fX10_fault n h a0 a1 = some q) : kO n h a0 10 = some () := by
  obtain ⟨_, e, -⟩ := bi_bd hh
  exact e
theorem sX10_fault {n : Nat} {h : ai_H} {a0 : Nat} {a1 : Int32} {q : Int32 × ai_H} (hh : fX10_fault n h a0 a1 = some q) : bi_sp 1 92 [.ref a0, .int a1] h n (fI n q) := by
  refine bi_en (D := 0) (T := tX10_fault) (funext fun pc => rfl) rfl (Nat.le_of_ble_eq_true rfl) ?_
  unfold fX10_fault at hh
  obtain ⟨_, eO, hh⟩ := bi_bd hh
  refine go_il (pc := 0) rfl (rfl : ai_ld 1 (lv_args 0 [.ref a0, .int a1]) = some (.int a1)) ?_
  refine bi_ite hh (fun hc0 hh => ?_) (fun hc0 hh => ?_)
  · refine go_swc (t := 28) 0 (pc := 1) rfl hc0 (by decide) ?_
    refine go_al (pc := 28) rfl (rfl : ai_ld 0 (lv_args 0 [.ref a0, .int a1]) = some (.ref a0)) ?_
    obtain ⟨x1, ex1, hh⟩ := bi_bd hh
    refine go_gfR (pc := 29) rfl ex1 ?_
    obtain ⟨x2, ex2, hh⟩ := bi_bd hh
    refine go_gfI (pc := 32) rfl ex2 ?_
    exact go_ri (pc := 35) rfl hh
  · skip
    refine bi_ite hh (fun hc1 hh => ?_) (fun hc1 hh => ?_)
    · refine go_swc (t := 36) 1 (pc := 1) rfl hc1 (by decide) ?_
      refine go_al (pc := 36) rfl (rfl : ai_ld 0 (lv_args 0 [.ref a0, .int a1]) = some (.ref a0)) ?_
      obtain ⟨x3, ex3, hh⟩ := bi_bd hh
      refine go_gfR (pc := 37) rfl ex3 ?_
      obtain ⟨x4, ex4, hh⟩ := bi_bd hh
      refine go_gfI (pc := 40) rfl ex4 ?_
      exact go_ri (pc := 43) rfl hh
    · skip
      refine go_swd (pc := 1) rfl (fun i hi => match i, hi with | 0, _ => Or.inr (lv_neT hc0 (by decide)) | 1, _ => Or.inr (lv_neT hc1 (by decide)) | i + 2, hi => absurd hi (Nat.not_lt.mpr (Nat.le_add_left _ _))) ?_
      refine go_pi (pc := 44) rfl ?_
      exact go_ri (pc := 45) rfl hh
def fX10_named (n : Nat) (h : ai_H) (a0 : Nat) (a1 : Int32) (a2 : Int32) : Option (Int32 × ai_H) :=
  (kO n h a0 10).bind fun _ =>
  if a1 = 0 then (
    (pR n h a0 10 3).bind fun x1 =>
    (pR n h x1 8 0).bind fun x2 =>
    (fX6_find n h x2 a2).bind fun q3 =>
    some (q3.1, q3.2))
  else (
    if a1 = 1 then (
      (pR n h a0 10 3).bind fun x4 =>
      (pR n h x4 8 1).bind fun x5 =>
      (fX6_find n h x5 a2).bind fun q6 =>
      some (q6.1, q6.2))
    else (
      if a1 = 2 then (
        (pR n h a0 10 3).bind fun x7 =>
        (pR n h x7 8 2).bind fun x8 =>
        (fX6_find n h x8 a2).bind fun q9 =>
        some (q9.1, q9.2))
      else (
        some ((-1 : Int32), h))))
theorem gX10_named {n : Nat} {h : ai_H} {a0 : Nat} {a1 : Int32} {a2 : Int32} {q : Int32 × ai_H} (hh : fX10_named n h a0 a1 a2 = some q) : kO n h a0 10 = some () := by
  obtain ⟨_, e, -⟩ := bi_bd hh
  exact e
theorem sX10_named {n : Nat} {h : ai_H} {a0 : Nat} {a1 : Int32} {a2 : Int32} {q : Int32 × ai_H} (hh : fX10_named n h a0 a1 a2 = some q) : bi_sp 2 93 [.ref a0, .int a1, .int a2] h n (fI n q) := by
  refine bi_en (D := 1) (T := tX10_named) (funext fun pc => rfl) rfl (Nat.le_of_ble_eq_true rfl) ?_
  unfold fX10_named at hh
  obtain ⟨_, eO, hh⟩ := bi_bd hh
  refine go_il (pc := 0) rfl (rfl : ai_ld 1 (lv_args 0 [.ref a0, .int a1, .int a2]) = some (.int a1)) ?_
  refine bi_ite hh (fun hc0 hh => ?_) (fun hc0 hh => ?_)
  · refine go_swc (t := 28) 0 (pc := 1) rfl hc0 (by decide) ?_
    refine go_al (pc := 28) rfl (rfl : ai_ld 0 (lv_args 0 [.ref a0, .int a1, .int a2]) = some (.ref a0)) ?_
    obtain ⟨x1, ex1, hh⟩ := bi_bd hh
    refine go_gfR (pc := 29) rfl ex1 ?_
    obtain ⟨x2, ex2, hh⟩ := bi_bd hh
    refine go_gfR (pc := 32) rfl ex2 ?_
    refine go_il (pc := 35) rfl (rfl : ai_ld 2 (lv_args 0 [.ref a0, .int a1, .int a2]) = some (.int a2)) ?_
    obtain ⟨q3, eq3, hh⟩ := bi_bd hh
    refine go_ivI (pc := 36) rfl rfl (gX6_find eq3) (Nat.le_of_ble_eq_true rfl) (bi_up (sX6_find eq3) (Nat.le_of_ble_eq_true rfl)) ?_
    exact go_ri (pc := 39) rfl hh
  · skip
    refine bi_ite hh (fun hc1 hh => ?_) (fun hc1 hh => ?_)
    · refine go_swc (t := 40) 1 (pc := 1) rfl hc1 (by decide) ?_
      refine go_al (pc := 40) rfl (rfl : ai_ld 0 (lv_args 0 [.ref a0, .int a1, .int a2]) = some (.ref a0)) ?_
      obtain ⟨x4, ex4, hh⟩ := bi_bd hh
      refine go_gfR (pc := 41) rfl ex4 ?_
      obtain ⟨x5, ex5, hh⟩ := bi_bd hh
      refine go_gfR (pc := 44) rfl ex5 ?_
      refine go_il (pc := 47) rfl (rfl : ai_ld 2 (lv_args 0 [.ref a0, .int a1, .int a2]) = some (.int a2)) ?_
      obtain ⟨q6, eq6, hh⟩ := bi_bd hh
      refine go_ivI (pc := 48) rfl rfl (gX6_find eq6) (Nat.le_of_ble_eq_true rfl) (bi_up (sX6_find eq6) (Nat.le_of_ble_eq_true rfl)) ?_
      exact go_ri (pc := 51) rfl hh
    · skip
      refine bi_ite hh (fun hc2 hh => ?_) (fun hc2 hh => ?_)
      · refine go_swc (t := 52) 2 (pc := 1) rfl hc2 (by decide) ?_
        refine go_al (pc := 52) rfl (rfl : ai_ld 0 (lv_args 0 [.ref a0, .int a1, .int a2]) = some (.ref a0)) ?_
        obtain ⟨x7, ex7, hh⟩ := bi_bd hh
        refine go_gfR (pc := 53) rfl ex7 ?_
        obtain ⟨x8, ex8, hh⟩ := bi_bd hh
        refine go_gfR (pc := 56) rfl ex8 ?_
        refine go_il (pc := 59) rfl (rfl : ai_ld 2 (lv_args 0 [.ref a0, .int a1, .int a2]) = some (.int a2)) ?_
        obtain ⟨q9, eq9, hh⟩ := bi_bd hh
        refine go_ivI (pc := 60) rfl rfl (gX6_find eq9) (Nat.le_of_ble_eq_true rfl) (bi_up (sX6_find eq9) (Nat.le_of_ble_eq_true rfl)) ?_
        exact go_ri (pc := 63) rfl hh
      · skip
        refine go_swd (pc := 1) rfl (fun i hi => match i, hi with | 0, _ => Or.inr (lv_neT hc0 (by decide)) | 1, _ => Or.inr (lv_neT hc1 (by decide)) | 2, _ => Or.inr (lv_neT hc2 (by decide)) | i + 3, hi => absurd hi (Nat.not_lt.mpr (Nat.le_add_left _ _))) ?_
        refine go_pi (pc := 64) rfl ?_
        exact go_ri (pc := 65) rfl hh
def fX10_isPlace (n : Nat) (h : ai_H) (a0 : Nat) (a1 : Int32) : Option (Int32 × ai_H) :=
  (kO n h a0 10).bind fun _ =>
  if a1 < 0 then (
    some ((0 : Int32), h))
  else (
    (pR n h a0 10 3).bind fun x1 =>
    (pR n h x1 8 0).bind fun x2 =>
    (pI n h x2 6 4).bind fun x3 =>
    if x3 ≤ a1 then (
      some ((0 : Int32), h))
    else (
      some ((1 : Int32), h)))
theorem gX10_isPlace {n : Nat} {h : ai_H} {a0 : Nat} {a1 : Int32} {q : Int32 × ai_H} (hh : fX10_isPlace n h a0 a1 = some q) : kO n h a0 10 = some () := by
  obtain ⟨_, e, -⟩ := bi_bd hh
  exact e
theorem sX10_isPlace {n : Nat} {h : ai_H} {a0 : Nat} {a1 : Int32} {q : Int32 × ai_H} (hh : fX10_isPlace n h a0 a1 = some q) : bi_sp 1 94 [.ref a0, .int a1] h n (fI n q) := by
  refine bi_en (D := 0) (T := tX10_isPlace) (funext fun pc => rfl) rfl (Nat.le_of_ble_eq_true rfl) ?_
  unfold fX10_isPlace at hh
  obtain ⟨_, eO, hh⟩ := bi_bd hh
  refine go_il (pc := 0) rfl (rfl : ai_ld 1 (lv_args 0 [.ref a0, .int a1]) = some (.int a1)) ?_
  refine bi_ite hh (fun hc hh => ?_) (fun hc hh => ?_)
  · refine go_ifltT (pc := 1) rfl hc ?_
    refine go_pi (pc := 22) rfl ?_
    exact go_rz (pc := 23) rfl bi_z0 hh
  · refine go_ifltF (pc := 1) rfl hc ?_
    refine go_il (pc := 4) rfl (rfl : ai_ld 1 (lv_args 0 [.ref a0, .int a1]) = some (.int a1)) ?_
    refine go_al (pc := 5) rfl (rfl : ai_ld 0 (lv_args 0 [.ref a0, .int a1]) = some (.ref a0)) ?_
    obtain ⟨x1, ex1, hh⟩ := bi_bd hh
    refine go_gfR (pc := 6) rfl ex1 ?_
    obtain ⟨x2, ex2, hh⟩ := bi_bd hh
    refine go_gfR (pc := 9) rfl ex2 ?_
    obtain ⟨x3, ex3, hh⟩ := bi_bd hh
    refine go_gfI (pc := 12) rfl ex3 ?_
    refine bi_ite hh (fun hc hh => ?_) (fun hc hh => ?_)
    · refine go_cmpgeT (pc := 15) rfl hc ?_
      refine go_pi (pc := 22) rfl ?_
      exact go_rz (pc := 23) rfl bi_z0 hh
    · refine go_cmpgeF (pc := 15) rfl hc ?_
      refine go_pi (pc := 18) rfl ?_
      refine go_goto (pc := 19) rfl ?_
      exact go_rz (pc := 23) rfl bi_z1 hh
def fX10_isPath (n : Nat) (h : ai_H) (a0 : Nat) (a1 : Int32) : Option (Int32 × ai_H) :=
  (kO n h a0 10).bind fun _ =>
  if a1 < 0 then (
    some ((0 : Int32), h))
  else (
    (pR n h a0 10 3).bind fun x1 =>
    (pR n h x1 8 1).bind fun x2 =>
    (pI n h x2 6 4).bind fun x3 =>
    if x3 ≤ a1 then (
      some ((0 : Int32), h))
    else (
      some ((1 : Int32), h)))
theorem gX10_isPath {n : Nat} {h : ai_H} {a0 : Nat} {a1 : Int32} {q : Int32 × ai_H} (hh : fX10_isPath n h a0 a1 = some q) : kO n h a0 10 = some () := by
  obtain ⟨_, e, -⟩ := bi_bd hh
  exact e
theorem sX10_isPath {n : Nat} {h : ai_H} {a0 : Nat} {a1 : Int32} {q : Int32 × ai_H} (hh : fX10_isPath n h a0 a1 = some q) : bi_sp 1 95 [.ref a0, .int a1] h n (fI n q) := by
  refine bi_en (D := 0) (T := tX10_isPath) (funext fun pc => rfl) rfl (Nat.le_of_ble_eq_true rfl) ?_
  unfold fX10_isPath at hh
  obtain ⟨_, eO, hh⟩ := bi_bd hh
  refine go_il (pc := 0) rfl (rfl : ai_ld 1 (lv_args 0 [.ref a0, .int a1]) = some (.int a1)) ?_
  refine bi_ite hh (fun hc hh => ?_) (fun hc hh => ?_)
  · refine go_ifltT (pc := 1) rfl hc ?_
    refine go_pi (pc := 22) rfl ?_
    exact go_rz (pc := 23) rfl bi_z0 hh
  · refine go_ifltF (pc := 1) rfl hc ?_
    refine go_il (pc := 4) rfl (rfl : ai_ld 1 (lv_args 0 [.ref a0, .int a1]) = some (.int a1)) ?_
    refine go_al (pc := 5) rfl (rfl : ai_ld 0 (lv_args 0 [.ref a0, .int a1]) = some (.ref a0)) ?_
    obtain ⟨x1, ex1, hh⟩ := bi_bd hh
    refine go_gfR (pc := 6) rfl ex1 ?_
    obtain ⟨x2, ex2, hh⟩ := bi_bd hh
    refine go_gfR (pc := 9) rfl ex2 ?_
    obtain ⟨x3, ex3, hh⟩ := bi_bd hh
    refine go_gfI (pc := 12) rfl ex3 ?_
    refine bi_ite hh (fun hc hh => ?_) (fun hc hh => ?_)
    · refine go_cmpgeT (pc := 15) rfl hc ?_
      refine go_pi (pc := 22) rfl ?_
      exact go_rz (pc := 23) rfl bi_z0 hh
    · refine go_cmpgeF (pc := 15) rfl hc ?_
      refine go_pi (pc := 18) rfl ?_
      refine go_goto (pc := 19) rfl ?_
      exact go_rz (pc := 23) rfl bi_z1 hh
def fX10_isWalker (n : Nat) (h : ai_H) (a0 : Nat) (a1 : Int32) : Option (Int32 × ai_H) :=
  (kO n h a0 10).bind fun _ =>
  if a1 < 0 then (
    some ((0 : Int32), h))
  else (
    (pR n h a0 10 3).bind fun x1 =>
    (pR n h x1 8 2).bind fun x2 =>
    (pI n h x2 6 4).bind fun x3 =>
    if x3 ≤ a1 then (
      some ((0 : Int32), h))
    else (
      some ((1 : Int32), h)))
theorem gX10_isWalker {n : Nat} {h : ai_H} {a0 : Nat} {a1 : Int32} {q : Int32 × ai_H} (hh : fX10_isWalker n h a0 a1 = some q) : kO n h a0 10 = some () := by
  obtain ⟨_, e, -⟩ := bi_bd hh
  exact e
theorem sX10_isWalker {n : Nat} {h : ai_H} {a0 : Nat} {a1 : Int32} {q : Int32 × ai_H} (hh : fX10_isWalker n h a0 a1 = some q) : bi_sp 1 96 [.ref a0, .int a1] h n (fI n q) := by
  refine bi_en (D := 0) (T := tX10_isWalker) (funext fun pc => rfl) rfl (Nat.le_of_ble_eq_true rfl) ?_
  unfold fX10_isWalker at hh
  obtain ⟨_, eO, hh⟩ := bi_bd hh
  refine go_il (pc := 0) rfl (rfl : ai_ld 1 (lv_args 0 [.ref a0, .int a1]) = some (.int a1)) ?_
  refine bi_ite hh (fun hc hh => ?_) (fun hc hh => ?_)
  · refine go_ifltT (pc := 1) rfl hc ?_
    refine go_pi (pc := 22) rfl ?_
    exact go_rz (pc := 23) rfl bi_z0 hh
  · refine go_ifltF (pc := 1) rfl hc ?_
    refine go_il (pc := 4) rfl (rfl : ai_ld 1 (lv_args 0 [.ref a0, .int a1]) = some (.int a1)) ?_
    refine go_al (pc := 5) rfl (rfl : ai_ld 0 (lv_args 0 [.ref a0, .int a1]) = some (.ref a0)) ?_
    obtain ⟨x1, ex1, hh⟩ := bi_bd hh
    refine go_gfR (pc := 6) rfl ex1 ?_
    obtain ⟨x2, ex2, hh⟩ := bi_bd hh
    refine go_gfR (pc := 9) rfl ex2 ?_
    obtain ⟨x3, ex3, hh⟩ := bi_bd hh
    refine go_gfI (pc := 12) rfl ex3 ?_
    refine bi_ite hh (fun hc hh => ?_) (fun hc hh => ?_)
    · refine go_cmpgeT (pc := 15) rfl hc ?_
      refine go_pi (pc := 22) rfl ?_
      exact go_rz (pc := 23) rfl bi_z0 hh
    · refine go_cmpgeF (pc := 15) rfl hc ?_
      refine go_pi (pc := 18) rfl ?_
      refine go_goto (pc := 19) rfl ?_
      exact go_rz (pc := 23) rfl bi_z1 hh
def fX10_path (n : Nat) (h : ai_H) (a0 : Nat) (a1 : Int32) (a2 : Int32) : Option ((Int32 ⊕ Nat) × ai_H) :=
  (kO n h a0 10).bind fun _ =>
  (fX10_isPath n h a0 a1).bind fun q1 =>
  if ¬ q1.1 = 0 then (
    if a2 = 0 then (
      (pR n q1.2 a0 10 3).bind fun x2 =>
      (pR n q1.2 x2 8 1).bind fun x3 =>
      (fX6_cell n q1.2 x3 a1 (0 : Int32)).bind fun q4 =>
      some (.inl q4.1, q4.2))
    else (
      if a2 = 1 then (
        (pR n q1.2 a0 10 3).bind fun x5 =>
        (pR n q1.2 x5 8 1).bind fun x6 =>
        (fX6_cell n q1.2 x6 a1 (1 : Int32)).bind fun q7 =>
        some (.inl q7.1, q7.2))
      else (
        if a2 = 2 then (
          (pR n q1.2 a0 10 3).bind fun x8 =>
          (pR n q1.2 x8 8 1).bind fun x9 =>
          (fX6_cell n q1.2 x9 a1 (2 : Int32)).bind fun q10 =>
          some (.inl q10.1, q10.2))
        else (
          if a2 = 3 then (
            (pR n q1.2 a0 10 3).bind fun x11 =>
            (pR n q1.2 x11 8 1).bind fun x12 =>
            (fX6_cell n q1.2 x12 a1 (3 : Int32)).bind fun q13 =>
            some (.inl q13.1, q13.2))
          else (
            if a2 = 4 then (
              (pR n q1.2 a0 10 5).bind fun x14 =>
              (pR n q1.2 x14 5 5).bind fun x15 =>
              (gX 1 n q1.2 x15 a1).bind fun x16 =>
              some (.inl x16, q1.2))
            else (
              if a2 = 5 then (
                (pR n q1.2 a0 10 5).bind fun x17 =>
                (fX5_isKept n q1.2 x17 a1).bind fun q18 =>
                if q18.1 = 0 then (
                  some (.inl (0 : Int32), q18.2))
                else (
                  some (.inl (1 : Int32), q18.2)))
              else (
                if a2 = 6 then (
                  (pR n q1.2 a0 10 5).bind fun x19 =>
                  (pR n q1.2 x19 5 6).bind fun x20 =>
                  (gX 1 n q1.2 x20 a1).bind fun x21 =>
                  some (.inl x21, q1.2))
                else (
                  if a2 = 7 then (
                    (pR n q1.2 a0 10 3).bind fun x22 =>
                    (pR n q1.2 a0 10 5).bind fun x23 =>
                    (pI n q1.2 x23 5 0).bind fun x24 =>
                    (fX8_isBullOn n q1.2 x22 a1 x24).bind fun q25 =>
                    if q25.1 = 0 then (
                      some (.inl (0 : Int32), q25.2))
                    else (
                      some (.inl (1 : Int32), q25.2)))
                  else (
                    some (.inr 2, q1.2))))))))))
  else (
    some (.inr 1, q1.2))
theorem gX10_path {n : Nat} {h : ai_H} {a0 : Nat} {a1 : Int32} {a2 : Int32} {q : (Int32 ⊕ Nat) × ai_H} (hh : fX10_path n h a0 a1 a2 = some q) : kO n h a0 10 = some () := by
  obtain ⟨_, e, -⟩ := bi_bd hh
  exact e
theorem sX10_path {n : Nat} {h : ai_H} {a0 : Nat} {a1 : Int32} {a2 : Int32} {q : (Int32 ⊕ Nat) × ai_H} (hh : fX10_path n h a0 a1 a2 = some q) : bi_sp 3 98 [.ref a0, .int a1, .int a2] h n (tI n q) := by
  refine bi_en (D := 2) (T := tX10_path) (funext fun pc => rfl) rfl (Nat.le_of_ble_eq_true rfl) ?_
  unfold fX10_path at hh
  obtain ⟨_, eO, hh⟩ := bi_bd hh
  refine go_al (pc := 0) rfl (rfl : ai_ld 0 (lv_args 0 [.ref a0, .int a1, .int a2]) = some (.ref a0)) ?_
  refine go_il (pc := 1) rfl (rfl : ai_ld 1 (lv_args 0 [.ref a0, .int a1, .int a2]) = some (.int a1)) ?_
  obtain ⟨q1, eq1, hh⟩ := bi_bd hh
  refine go_ivI (pc := 2) rfl rfl (gX10_isPath eq1) (Nat.le_of_ble_eq_true rfl) (bi_up (sX10_isPath eq1) (Nat.le_of_ble_eq_true rfl)) ?_
  refine bi_ite hh (fun hc hh => ?_) (fun hc hh => ?_)
  · refine go_ifneT (pc := 5) rfl hc ?_
    refine go_il (pc := 18) rfl (rfl : ai_ld 2 (lv_args 0 [.ref a0, .int a1, .int a2]) = some (.int a2)) ?_
    refine bi_ite hh (fun hc0 hh => ?_) (fun hc0 hh => ?_)
    · refine go_swc (t := 64) 0 (pc := 19) rfl hc0 (by decide) ?_
      refine go_al (pc := 64) rfl (rfl : ai_ld 0 (lv_args 0 [.ref a0, .int a1, .int a2]) = some (.ref a0)) ?_
      obtain ⟨x2, ex2, hh⟩ := bi_bd hh
      refine go_gfR (pc := 65) rfl ex2 ?_
      obtain ⟨x3, ex3, hh⟩ := bi_bd hh
      refine go_gfR (pc := 68) rfl ex3 ?_
      refine go_il (pc := 71) rfl (rfl : ai_ld 1 (lv_args 0 [.ref a0, .int a1, .int a2]) = some (.int a1)) ?_
      refine go_pi (pc := 72) rfl ?_
      obtain ⟨q4, eq4, hh⟩ := bi_bd hh
      refine go_ivI (pc := 73) rfl rfl (gX6_cell eq4) (Nat.le_of_ble_eq_true rfl) (bi_up (sX6_cell eq4) (Nat.le_of_ble_eq_true rfl)) ?_
      exact go_tri (pc := 76) rfl hh
    · skip
      refine bi_ite hh (fun hc1 hh => ?_) (fun hc1 hh => ?_)
      · refine go_swc (t := 77) 1 (pc := 19) rfl hc1 (by decide) ?_
        refine go_al (pc := 77) rfl (rfl : ai_ld 0 (lv_args 0 [.ref a0, .int a1, .int a2]) = some (.ref a0)) ?_
        obtain ⟨x5, ex5, hh⟩ := bi_bd hh
        refine go_gfR (pc := 78) rfl ex5 ?_
        obtain ⟨x6, ex6, hh⟩ := bi_bd hh
        refine go_gfR (pc := 81) rfl ex6 ?_
        refine go_il (pc := 84) rfl (rfl : ai_ld 1 (lv_args 0 [.ref a0, .int a1, .int a2]) = some (.int a1)) ?_
        refine go_pi (pc := 85) rfl ?_
        obtain ⟨q7, eq7, hh⟩ := bi_bd hh
        refine go_ivI (pc := 86) rfl rfl (gX6_cell eq7) (Nat.le_of_ble_eq_true rfl) (bi_up (sX6_cell eq7) (Nat.le_of_ble_eq_true rfl)) ?_
        exact go_tri (pc := 89) rfl hh
      · skip
        refine bi_ite hh (fun hc2 hh => ?_) (fun hc2 hh => ?_)
        · refine go_swc (t := 90) 2 (pc := 19) rfl hc2 (by decide) ?_
          refine go_al (pc := 90) rfl (rfl : ai_ld 0 (lv_args 0 [.ref a0, .int a1, .int a2]) = some (.ref a0)) ?_
          obtain ⟨x8, ex8, hh⟩ := bi_bd hh
          refine go_gfR (pc := 91) rfl ex8 ?_
          obtain ⟨x9, ex9, hh⟩ := bi_bd hh
          refine go_gfR (pc := 94) rfl ex9 ?_
          refine go_il (pc := 97) rfl (rfl : ai_ld 1 (lv_args 0 [.ref a0, .int a1, .int a2]) = some (.int a1)) ?_
          refine go_pi (pc := 98) rfl ?_
          obtain ⟨q10, eq10, hh⟩ := bi_bd hh
          refine go_ivI (pc := 99) rfl rfl (gX6_cell eq10) (Nat.le_of_ble_eq_true rfl) (bi_up (sX6_cell eq10) (Nat.le_of_ble_eq_true rfl)) ?_
          exact go_tri (pc := 102) rfl hh
        · skip
          refine bi_ite hh (fun hc3 hh => ?_) (fun hc3 hh => ?_)
          · refine go_swc (t := 103) 3 (pc := 19) rfl hc3 (by decide) ?_
            refine go_al (pc := 103) rfl (rfl : ai_ld 0 (lv_args 0 [.ref a0, .int a1, .int a2]) = some (.ref a0)) ?_
            obtain ⟨x11, ex11, hh⟩ := bi_bd hh
            refine go_gfR (pc := 104) rfl ex11 ?_
            obtain ⟨x12, ex12, hh⟩ := bi_bd hh
            refine go_gfR (pc := 107) rfl ex12 ?_
            refine go_il (pc := 110) rfl (rfl : ai_ld 1 (lv_args 0 [.ref a0, .int a1, .int a2]) = some (.int a1)) ?_
            refine go_pi (pc := 111) rfl ?_
            obtain ⟨q13, eq13, hh⟩ := bi_bd hh
            refine go_ivI (pc := 112) rfl rfl (gX6_cell eq13) (Nat.le_of_ble_eq_true rfl) (bi_up (sX6_cell eq13) (Nat.le_of_ble_eq_true rfl)) ?_
            exact go_tri (pc := 115) rfl hh
          · skip
            refine bi_ite hh (fun hc4 hh => ?_) (fun hc4 hh => ?_)
            · refine go_swc (t := 116) 4 (pc := 19) rfl hc4 (by decide) ?_
              refine go_al (pc := 116) rfl (rfl : ai_ld 0 (lv_args 0 [.ref a0, .int a1, .int a2]) = some (.ref a0)) ?_
              obtain ⟨x14, ex14, hh⟩ := bi_bd hh
              refine go_gfR (pc := 117) rfl ex14 ?_
              obtain ⟨x15, ex15, hh⟩ := bi_bd hh
              refine go_gfR (pc := 120) rfl ex15 ?_
              refine go_il (pc := 123) rfl (rfl : ai_ld 1 (lv_args 0 [.ref a0, .int a1, .int a2]) = some (.int a1)) ?_
              obtain ⟨x16, ex16, hh⟩ := bi_bd hh
              refine go_iald (pc := 124) rfl ex16 ?_
              exact go_tri (pc := 125) rfl hh
            · skip
              refine bi_ite hh (fun hc5 hh => ?_) (fun hc5 hh => ?_)
              · refine go_swc (t := 126) 5 (pc := 19) rfl hc5 (by decide) ?_
                refine go_al (pc := 126) rfl (rfl : ai_ld 0 (lv_args 0 [.ref a0, .int a1, .int a2]) = some (.ref a0)) ?_
                obtain ⟨x17, ex17, hh⟩ := bi_bd hh
                refine go_gfR (pc := 127) rfl ex17 ?_
                refine go_il (pc := 130) rfl (rfl : ai_ld 1 (lv_args 0 [.ref a0, .int a1, .int a2]) = some (.int a1)) ?_
                obtain ⟨q18, eq18, hh⟩ := bi_bd hh
                refine go_ivI (pc := 131) rfl rfl (gX5_isKept eq18) (Nat.le_of_ble_eq_true rfl) (bi_up (sX5_isKept eq18) (Nat.le_of_ble_eq_true rfl)) ?_
                refine bi_ite hh (fun hc hh => ?_) (fun hc hh => ?_)
                · refine go_ifeqT (pc := 134) rfl hc ?_
                  refine go_pi (pc := 141) rfl ?_
                  exact go_tri (pc := 142) rfl hh
                · refine go_ifeqF (pc := 134) rfl hc ?_
                  refine go_pi (pc := 137) rfl ?_
                  refine go_goto (pc := 138) rfl ?_
                  exact go_tri (pc := 142) rfl hh
              · skip
                refine bi_ite hh (fun hc6 hh => ?_) (fun hc6 hh => ?_)
                · refine go_swc (t := 143) 6 (pc := 19) rfl hc6 (by decide) ?_
                  refine go_al (pc := 143) rfl (rfl : ai_ld 0 (lv_args 0 [.ref a0, .int a1, .int a2]) = some (.ref a0)) ?_
                  obtain ⟨x19, ex19, hh⟩ := bi_bd hh
                  refine go_gfR (pc := 144) rfl ex19 ?_
                  obtain ⟨x20, ex20, hh⟩ := bi_bd hh
                  refine go_gfR (pc := 147) rfl ex20 ?_
                  refine go_il (pc := 150) rfl (rfl : ai_ld 1 (lv_args 0 [.ref a0, .int a1, .int a2]) = some (.int a1)) ?_
                  obtain ⟨x21, ex21, hh⟩ := bi_bd hh
                  refine go_iald (pc := 151) rfl ex21 ?_
                  exact go_tri (pc := 152) rfl hh
                · skip
                  refine bi_ite hh (fun hc7 hh => ?_) (fun hc7 hh => ?_)
                  · refine go_swc (t := 153) 7 (pc := 19) rfl hc7 (by decide) ?_
                    refine go_al (pc := 153) rfl (rfl : ai_ld 0 (lv_args 0 [.ref a0, .int a1, .int a2]) = some (.ref a0)) ?_
                    obtain ⟨x22, ex22, hh⟩ := bi_bd hh
                    refine go_gfR (pc := 154) rfl ex22 ?_
                    refine go_il (pc := 157) rfl (rfl : ai_ld 1 (lv_args 0 [.ref a0, .int a1, .int a2]) = some (.int a1)) ?_
                    refine go_al (pc := 158) rfl (rfl : ai_ld 0 (lv_args 0 [.ref a0, .int a1, .int a2]) = some (.ref a0)) ?_
                    obtain ⟨x23, ex23, hh⟩ := bi_bd hh
                    refine go_gfR (pc := 159) rfl ex23 ?_
                    obtain ⟨x24, ex24, hh⟩ := bi_bd hh
                    refine go_gfI (pc := 162) rfl ex24 ?_
                    obtain ⟨q25, eq25, hh⟩ := bi_bd hh
                    refine go_ivI (pc := 165) rfl rfl (gX8_isBullOn eq25) (Nat.le_of_ble_eq_true rfl) (bi_up (sX8_isBullOn eq25) (Nat.le_of_ble_eq_true rfl)) ?_
                    refine bi_ite hh (fun hc hh => ?_) (fun hc hh => ?_)
                    · refine go_ifeqT (pc := 168) rfl hc ?_
                      refine go_pi (pc := 175) rfl ?_
                      exact go_tri (pc := 176) rfl hh
                    · refine go_ifeqF (pc := 168) rfl hc ?_
                      refine go_pi (pc := 171) rfl ?_
                      refine go_goto (pc := 172) rfl ?_
                      exact go_tri (pc := 176) rfl hh
                  · skip
                    refine go_swd (pc := 19) rfl (fun i hi => match i, hi with | 0, _ => Or.inr (lv_neT hc0 (by decide)) | 1, _ => Or.inr (lv_neT hc1 (by decide)) | 2, _ => Or.inr (lv_neT hc2 (by decide)) | 3, _ => Or.inr (lv_neT hc3 (by decide)) | 4, _ => Or.inr (lv_neT hc4 (by decide)) | 5, _ => Or.inr (lv_neT hc5 (by decide)) | 6, _ => Or.inr (lv_neT hc6 (by decide)) | 7, _ => Or.inr (lv_neT hc7 (by decide)) | i + 8, hi => absurd hi (Nat.not_lt.mpr (Nat.le_add_left _ _))) ?_
                    exact go_th (pc := 177) rfl (Nat.le_of_ble_eq_true rfl) (bi_xI hh)
  · refine go_ifneF (pc := 5) rfl hc ?_
    exact go_th (pc := 8) rfl (Nat.le_of_ble_eq_true rfl) (bi_xI hh)
def fX10_pathsHeCanGo_52 (n : Nat) (r20 : ai_H → Nat → Int32 → Int32 → Int32 → Option (Int32 × ai_H)) (h : ai_H) (v0 : Nat) (v1 : Int32) (v2 : Int32) (v3 : Int32) : Option (Int32 × ai_H) :=
  r20 h v0 v1 v2 (v3 + 1)
theorem sX10_pathsHeCanGo_52 {n : Nat} {r20 : ai_H → Nat → Int32 → Int32 → Int32 → Option (Int32 × ai_H)} {q : Int32 × ai_H} {h : ai_H} {v0 : Nat} {v1 : Int32} {v2 : Int32} {v3 : Int32} {lv : ai_L} (R20 : ∀ (h : ai_H) (v0 : Nat) (v1 : Int32) (v2 : Int32) (v3 : Int32) (lv : ai_L), ai_ld 0 lv = some (.ref v0) → ai_ld 1 lv = some (.int v1) → ai_ld 2 lv = some (.int v2) → ai_ld 3 lv = some (.int v3) → r20 h v0 v1 v2 v3 = some q → bi_go 3 tX10_pathsHeCanGo n (fI n q) 20 lv [] h) (l0 : ai_ld 0 lv = some (.ref v0)) (l1 : ai_ld 1 lv = some (.int v1)) (l2 : ai_ld 2 lv = some (.int v2)) (l3 : ai_ld 3 lv = some (.int v3)) (hh : fX10_pathsHeCanGo_52 n r20 h v0 v1 v2 v3 = some q) : bi_go 3 tX10_pathsHeCanGo n (fI n q) 52 lv [] h := by
  unfold fX10_pathsHeCanGo_52 at hh
  refine go_inc (pc := 52) rfl l3 ?_
  refine go_goto (pc := 55) rfl ?_
  exact R20 _ _ _ _ _ _ (bi_k1 l0 rfl rfl) (bi_k1 l1 rfl rfl) (bi_k1 l2 rfl rfl) bi_e1 hh
def fX10_pathsHeCanGo_20b (n : Nat) (r20 : ai_H → Nat → Int32 → Int32 → Int32 → Option (Int32 × ai_H)) (h : ai_H) (v0 : Nat) (v1 : Int32) (v2 : Int32) (v3 : Int32) : Option (Int32 × ai_H) :=
  (pR n h v0 10 3).bind fun x1 =>
  (pR n h x1 8 1).bind fun x2 =>
  (pI n h x2 6 4).bind fun x3 =>
  if x3 ≤ v3 then (
    some (v2, h))
  else (
    (pR n h v0 10 11).bind fun x4 =>
    (fX0_costIfHeCan n h x4 v1 v3).bind fun q5 =>
    if q5.1 < 0 then (
      fX10_pathsHeCanGo_52 n r20 q5.2 v0 v1 v2 v3)
    else (
      fX10_pathsHeCanGo_52 n r20 q5.2 v0 v1 (v2 ||| ((1 : Int32) <<< (v3 &&& 31))) v3))
theorem sX10_pathsHeCanGo_20b {n : Nat} {r20 : ai_H → Nat → Int32 → Int32 → Int32 → Option (Int32 × ai_H)} {q : Int32 × ai_H} {h : ai_H} {v0 : Nat} {v1 : Int32} {v2 : Int32} {v3 : Int32} {lv : ai_L} (R20 : ∀ (h : ai_H) (v0 : Nat) (v1 : Int32) (v2 : Int32) (v3 : Int32) (lv : ai_L), ai_ld 0 lv = some (.ref v0) → ai_ld 1 lv = some (.int v1) → ai_ld 2 lv = some (.int v2) → ai_ld 3 lv = some (.int v3) → r20 h v0 v1 v2 v3 = some q → bi_go 3 tX10_pathsHeCanGo n (fI n q) 20 lv [] h) (l0 : ai_ld 0 lv = some (.ref v0)) (l1 : ai_ld 1 lv = some (.int v1)) (l2 : ai_ld 2 lv = some (.int v2)) (l3 : ai_ld 3 lv = some (.int v3)) (hh : fX10_pathsHeCanGo_20b n r20 h v0 v1 v2 v3 = some q) : bi_go 3 tX10_pathsHeCanGo n (fI n q) 20 lv [] h := by
  unfold fX10_pathsHeCanGo_20b at hh
  refine go_il (pc := 20) rfl l3 ?_
  refine go_al (pc := 21) rfl l0 ?_
  obtain ⟨x1, ex1, hh⟩ := bi_bd hh
  refine go_gfR (pc := 22) rfl ex1 ?_
  obtain ⟨x2, ex2, hh⟩ := bi_bd hh
  refine go_gfR (pc := 25) rfl ex2 ?_
  obtain ⟨x3, ex3, hh⟩ := bi_bd hh
  refine go_gfI (pc := 28) rfl ex3 ?_
  refine bi_ite hh (fun hc hh => ?_) (fun hc hh => ?_)
  · refine go_cmpgeT (pc := 31) rfl hc ?_
    refine go_il (pc := 58) rfl l2 ?_
    exact go_ri (pc := 59) rfl hh
  · refine go_cmpgeF (pc := 31) rfl hc ?_
    refine go_al (pc := 34) rfl l0 ?_
    obtain ⟨x4, ex4, hh⟩ := bi_bd hh
    refine go_gfR (pc := 35) rfl ex4 ?_
    refine go_il (pc := 38) rfl l1 ?_
    refine go_il (pc := 39) rfl l3 ?_
    obtain ⟨q5, eq5, hh⟩ := bi_bd hh
    refine go_ivI (pc := 40) rfl rfl (gX0_costIfHeCan eq5) (Nat.le_of_ble_eq_true rfl) (bi_up (sX0_costIfHeCan eq5) (Nat.le_of_ble_eq_true rfl)) ?_
    refine bi_ite hh (fun hc hh => ?_) (fun hc hh => ?_)
    · refine go_ifltT (pc := 43) rfl hc ?_
      exact sX10_pathsHeCanGo_52 R20 l0 l1 l2 l3 hh
    · refine go_ifltF (pc := 43) rfl hc ?_
      refine go_il (pc := 46) rfl l2 ?_
      refine go_pi (pc := 47) rfl ?_
      refine go_il (pc := 48) rfl l3 ?_
      refine go_ishl (pc := 49) rfl ?_
      refine go_ior (pc := 50) rfl ?_
      refine go_is (pc := 51) rfl ?_
      exact sX10_pathsHeCanGo_52 R20 (bi_k1 l0 rfl rfl) (bi_k1 l1 rfl rfl) bi_e1 (bi_k1 l3 rfl rfl) hh
def fX10_pathsHeCanGo_20 (n : Nat) : Nat → ai_H → Nat → Int32 → Int32 → Int32 → Option (Int32 × ai_H)
  | 0 => fun _ _ _ _ _ => none
  | k + 1 => fun h v0 v1 v2 v3 => fX10_pathsHeCanGo_20b n (fX10_pathsHeCanGo_20 n k) h v0 v1 v2 v3
theorem sX10_pathsHeCanGo_20 {n : Nat} {q : Int32 × ai_H} : ∀ (k : Nat) (h : ai_H) (v0 : Nat) (v1 : Int32) (v2 : Int32) (v3 : Int32) (lv : ai_L), ai_ld 0 lv = some (.ref v0) → ai_ld 1 lv = some (.int v1) → ai_ld 2 lv = some (.int v2) → ai_ld 3 lv = some (.int v3) → fX10_pathsHeCanGo_20 n k h v0 v1 v2 v3 = some q → bi_go 3 tX10_pathsHeCanGo n (fI n q) 20 lv [] h
  | 0 => fun _ _ _ _ _ _ _ _ _ _ hh => by cases hh
  | k + 1 => fun h v0 v1 v2 v3 lv l0 l1 l2 l3 hh => sX10_pathsHeCanGo_20b  (sX10_pathsHeCanGo_20  k) l0 l1 l2 l3 hh
def fX10_pathsHeCanGo (n : Nat) (h : ai_H) (a0 : Nat) (a1 : Int32) : Option (Int32 × ai_H) :=
  (kO n h a0 10).bind fun _ =>
  (pR n h a0 10 11).bind fun x1 =>
  (pR n h a0 10 3).bind fun x2 =>
  (pR n h a0 10 5).bind fun x3 =>
  (fX0_begin n h x1 x2 x3 (0 : Int32)).bind fun q4 =>
  fX10_pathsHeCanGo_20 n bi_K q4.2 a0 a1 (0 : Int32) (0 : Int32)
theorem gX10_pathsHeCanGo {n : Nat} {h : ai_H} {a0 : Nat} {a1 : Int32} {q : Int32 × ai_H} (hh : fX10_pathsHeCanGo n h a0 a1 = some q) : kO n h a0 10 = some () := by
  obtain ⟨_, e, -⟩ := bi_bd hh
  exact e
theorem sX10_pathsHeCanGo {n : Nat} {h : ai_H} {a0 : Nat} {a1 : Int32} {q : Int32 × ai_H} (hh : fX10_pathsHeCanGo n h a0 a1 = some q) : bi_sp 4 100 [.ref a0, .int a1] h n (fI n q) := by
  refine bi_en (D := 3) (T := tX10_pathsHeCanGo) (funext fun pc => rfl) rfl (Nat.le_of_ble_eq_true rfl) ?_
  unfold fX10_pathsHeCanGo at hh
  obtain ⟨_, eO, hh⟩ := bi_bd hh
  refine go_al (pc := 0) rfl (rfl : ai_ld 0 (lv_args 0 [.ref a0, .int a1]) = some (.ref a0)) ?_
  obtain ⟨x1, ex1, hh⟩ := bi_bd hh
  refine go_gfR (pc := 1) rfl ex1 ?_
  refine go_al (pc := 4) rfl (rfl : ai_ld 0 (lv_args 0 [.ref a0, .int a1]) = some (.ref a0)) ?_
  obtain ⟨x2, ex2, hh⟩ := bi_bd hh
  refine go_gfR (pc := 5) rfl ex2 ?_
  refine go_al (pc := 8) rfl (rfl : ai_ld 0 (lv_args 0 [.ref a0, .int a1]) = some (.ref a0)) ?_
  obtain ⟨x3, ex3, hh⟩ := bi_bd hh
  refine go_gfR (pc := 9) rfl ex3 ?_
  refine go_pi (pc := 12) rfl ?_
  obtain ⟨q4, eq4, hh⟩ := bi_bd hh
  refine go_ivV (pc := 13) rfl rfl (gX0_begin eq4) (Nat.le_of_ble_eq_true rfl) (bi_up (sX0_begin eq4) (Nat.le_of_ble_eq_true rfl)) ?_
  refine go_pi (pc := 16) rfl ?_
  refine go_is (pc := 17) rfl ?_
  refine go_pi (pc := 18) rfl ?_
  refine go_is (pc := 19) rfl ?_
  exact sX10_pathsHeCanGo_20  _ _ _ _ _ _ _ (bi_k1 (bi_k1 (rfl : ai_ld 0 (lv_args 0 [.ref a0, .int a1]) = some (.ref a0)) rfl rfl) rfl rfl) (bi_k1 (bi_k1 (rfl : ai_ld 1 (lv_args 0 [.ref a0, .int a1]) = some (.int a1)) rfl rfl) rfl rfl) (bi_k1 bi_e1 rfl rfl) bi_e1 hh
def fX10_walker (n : Nat) (h : ai_H) (a0 : Nat) (a1 : Int32) (a2 : Int32) : Option (Int32 × ai_H) :=
  (kO n h a0 10).bind fun _ =>
  (fX10_isWalker n h a0 a1).bind fun q1 =>
  if ¬ q1.1 = 0 then (
    if a2 = 0 then (
      (pR n q1.2 a0 10 5).bind fun x2 =>
      (pR n q1.2 x2 5 7).bind fun x3 =>
      (gX 1 n q1.2 x3 a1).bind fun x4 =>
      some (x4, q1.2))
    else (
      if a2 = 1 then (
        (pR n q1.2 a0 10 3).bind fun x5 =>
        (pR n q1.2 x5 8 2).bind fun x6 =>
        (fX6_cell n q1.2 x6 a1 (1 : Int32)).bind fun q7 =>
        some (q7.1, q7.2))
      else (
        if a2 = 2 then (
          (pR n q1.2 a0 10 3).bind fun x8 =>
          (pR n q1.2 x8 8 2).bind fun x9 =>
          (fX6_cell n q1.2 x9 a1 (2 : Int32)).bind fun q10 =>
          some (q10.1, q10.2))
        else (
          if a2 = 3 then (
            (pR n q1.2 a0 10 5).bind fun x11 =>
            (pR n q1.2 x11 5 8).bind fun x12 =>
            (gX 1 n q1.2 x12 a1).bind fun x13 =>
            some (x13, q1.2))
          else (
            if a2 = 4 then (
              (fX10_pathsHeCanGo n q1.2 a0 a1).bind fun q14 =>
              some (q14.1, q14.2))
            else (
              some ((-1 : Int32), q1.2)))))))
  else (
    some ((-1 : Int32), q1.2))
theorem gX10_walker {n : Nat} {h : ai_H} {a0 : Nat} {a1 : Int32} {a2 : Int32} {q : Int32 × ai_H} (hh : fX10_walker n h a0 a1 a2 = some q) : kO n h a0 10 = some () := by
  obtain ⟨_, e, -⟩ := bi_bd hh
  exact e
theorem sX10_walker {n : Nat} {h : ai_H} {a0 : Nat} {a1 : Int32} {a2 : Int32} {q : Int32 × ai_H} (hh : fX10_walker n h a0 a1 a2 = some q) : bi_sp 5 99 [.ref a0, .int a1, .int a2] h n (fI n q) := by
  refine bi_en (D := 4) (T := tX10_walker) (funext fun pc => rfl) rfl (Nat.le_of_ble_eq_true rfl) ?_
  unfold fX10_walker at hh
  obtain ⟨_, eO, hh⟩ := bi_bd hh
  refine go_al (pc := 0) rfl (rfl : ai_ld 0 (lv_args 0 [.ref a0, .int a1, .int a2]) = some (.ref a0)) ?_
  refine go_il (pc := 1) rfl (rfl : ai_ld 1 (lv_args 0 [.ref a0, .int a1, .int a2]) = some (.int a1)) ?_
  obtain ⟨q1, eq1, hh⟩ := bi_bd hh
  refine go_ivI (pc := 2) rfl rfl (gX10_isWalker eq1) (Nat.le_of_ble_eq_true rfl) (bi_up (sX10_isWalker eq1) (Nat.le_of_ble_eq_true rfl)) ?_
  refine bi_ite hh (fun hc hh => ?_) (fun hc hh => ?_)
  · refine go_ifneT (pc := 5) rfl hc ?_
    refine go_il (pc := 10) rfl (rfl : ai_ld 2 (lv_args 0 [.ref a0, .int a1, .int a2]) = some (.int a2)) ?_
    refine bi_ite hh (fun hc0 hh => ?_) (fun hc0 hh => ?_)
    · refine go_swc (t := 44) 0 (pc := 11) rfl hc0 (by decide) ?_
      refine go_al (pc := 44) rfl (rfl : ai_ld 0 (lv_args 0 [.ref a0, .int a1, .int a2]) = some (.ref a0)) ?_
      obtain ⟨x2, ex2, hh⟩ := bi_bd hh
      refine go_gfR (pc := 45) rfl ex2 ?_
      obtain ⟨x3, ex3, hh⟩ := bi_bd hh
      refine go_gfR (pc := 48) rfl ex3 ?_
      refine go_il (pc := 51) rfl (rfl : ai_ld 1 (lv_args 0 [.ref a0, .int a1, .int a2]) = some (.int a1)) ?_
      obtain ⟨x4, ex4, hh⟩ := bi_bd hh
      refine go_iald (pc := 52) rfl ex4 ?_
      exact go_ri (pc := 53) rfl hh
    · skip
      refine bi_ite hh (fun hc1 hh => ?_) (fun hc1 hh => ?_)
      · refine go_swc (t := 54) 1 (pc := 11) rfl hc1 (by decide) ?_
        refine go_al (pc := 54) rfl (rfl : ai_ld 0 (lv_args 0 [.ref a0, .int a1, .int a2]) = some (.ref a0)) ?_
        obtain ⟨x5, ex5, hh⟩ := bi_bd hh
        refine go_gfR (pc := 55) rfl ex5 ?_
        obtain ⟨x6, ex6, hh⟩ := bi_bd hh
        refine go_gfR (pc := 58) rfl ex6 ?_
        refine go_il (pc := 61) rfl (rfl : ai_ld 1 (lv_args 0 [.ref a0, .int a1, .int a2]) = some (.int a1)) ?_
        refine go_pi (pc := 62) rfl ?_
        obtain ⟨q7, eq7, hh⟩ := bi_bd hh
        refine go_ivI (pc := 63) rfl rfl (gX6_cell eq7) (Nat.le_of_ble_eq_true rfl) (bi_up (sX6_cell eq7) (Nat.le_of_ble_eq_true rfl)) ?_
        exact go_ri (pc := 66) rfl hh
      · skip
        refine bi_ite hh (fun hc2 hh => ?_) (fun hc2 hh => ?_)
        · refine go_swc (t := 67) 2 (pc := 11) rfl hc2 (by decide) ?_
          refine go_al (pc := 67) rfl (rfl : ai_ld 0 (lv_args 0 [.ref a0, .int a1, .int a2]) = some (.ref a0)) ?_
          obtain ⟨x8, ex8, hh⟩ := bi_bd hh
          refine go_gfR (pc := 68) rfl ex8 ?_
          obtain ⟨x9, ex9, hh⟩ := bi_bd hh
          refine go_gfR (pc := 71) rfl ex9 ?_
          refine go_il (pc := 74) rfl (rfl : ai_ld 1 (lv_args 0 [.ref a0, .int a1, .int a2]) = some (.int a1)) ?_
          refine go_pi (pc := 75) rfl ?_
          obtain ⟨q10, eq10, hh⟩ := bi_bd hh
          refine go_ivI (pc := 76) rfl rfl (gX6_cell eq10) (Nat.le_of_ble_eq_true rfl) (bi_up (sX6_cell eq10) (Nat.le_of_ble_eq_true rfl)) ?_
          exact go_ri (pc := 79) rfl hh
        · skip
          refine bi_ite hh (fun hc3 hh => ?_) (fun hc3 hh => ?_)
          · refine go_swc (t := 80) 3 (pc := 11) rfl hc3 (by decide) ?_
            refine go_al (pc := 80) rfl (rfl : ai_ld 0 (lv_args 0 [.ref a0, .int a1, .int a2]) = some (.ref a0)) ?_
            obtain ⟨x11, ex11, hh⟩ := bi_bd hh
            refine go_gfR (pc := 81) rfl ex11 ?_
            obtain ⟨x12, ex12, hh⟩ := bi_bd hh
            refine go_gfR (pc := 84) rfl ex12 ?_
            refine go_il (pc := 87) rfl (rfl : ai_ld 1 (lv_args 0 [.ref a0, .int a1, .int a2]) = some (.int a1)) ?_
            obtain ⟨x13, ex13, hh⟩ := bi_bd hh
            refine go_iald (pc := 88) rfl ex13 ?_
            exact go_ri (pc := 89) rfl hh
          · skip
            refine bi_ite hh (fun hc4 hh => ?_) (fun hc4 hh => ?_)
            · refine go_swc (t := 90) 4 (pc := 11) rfl hc4 (by decide) ?_
              refine go_al (pc := 90) rfl (rfl : ai_ld 0 (lv_args 0 [.ref a0, .int a1, .int a2]) = some (.ref a0)) ?_
              refine go_il (pc := 91) rfl (rfl : ai_ld 1 (lv_args 0 [.ref a0, .int a1, .int a2]) = some (.int a1)) ?_
              obtain ⟨q14, eq14, hh⟩ := bi_bd hh
              refine go_ivI (pc := 92) rfl rfl (gX10_pathsHeCanGo eq14) (Nat.le_of_ble_eq_true rfl) (bi_up (sX10_pathsHeCanGo eq14) (Nat.le_of_ble_eq_true rfl)) ?_
              exact go_ri (pc := 95) rfl hh
            · skip
              refine go_swd (pc := 11) rfl (fun i hi => match i, hi with | 0, _ => Or.inr (lv_neT hc0 (by decide)) | 1, _ => Or.inr (lv_neT hc1 (by decide)) | 2, _ => Or.inr (lv_neT hc2 (by decide)) | 3, _ => Or.inr (lv_neT hc3 (by decide)) | 4, _ => Or.inr (lv_neT hc4 (by decide)) | i + 5, hi => absurd hi (Nat.not_lt.mpr (Nat.le_add_left _ _))) ?_
              refine go_pi (pc := 96) rfl ?_
              exact go_ri (pc := 97) rfl hh
  · refine go_ifneF (pc := 5) rfl hc ?_
    refine go_pi (pc := 8) rfl ?_
    exact go_ri (pc := 9) rfl hh
