/-! ===== methods as functions, part 6 ===== -/
def fX4_isSo_84 (n : Nat) (r2 : ai_H → Nat → Int32 → Nat → Int32 → Option (Int32 × ai_H)) (h : ai_H) (v0 : Nat) (v1 : Int32) (v2 : Nat) (v3 : Int32) : Option (Int32 × ai_H) :=
  r2 h v0 v1 v2 (v3 + 1)
theorem sX4_isSo_84 {n : Nat} {r2 : ai_H → Nat → Int32 → Nat → Int32 → Option (Int32 × ai_H)} {q : Int32 × ai_H} {h : ai_H} {v0 : Nat} {v1 : Int32} {v2 : Nat} {v3 : Int32} {lv : ai_L} (R2 : ∀ (h : ai_H) (v0 : Nat) (v1 : Int32) (v2 : Nat) (v3 : Int32) (lv : ai_L), ai_ld 0 lv = some (.ref v0) → ai_ld 1 lv = some (.int v1) → ai_ld 2 lv = some (.ref v2) → ai_ld 3 lv = some (.int v3) → r2 h v0 v1 v2 v3 = some q → bi_go 0 tX4_isSo n (fI n q) 2 lv [] h) (l0 : ai_ld 0 lv = some (.ref v0)) (l1 : ai_ld 1 lv = some (.int v1)) (l2 : ai_ld 2 lv = some (.ref v2)) (l3 : ai_ld 3 lv = some (.int v3)) (hh : fX4_isSo_84 n r2 h v0 v1 v2 v3 = some q) : bi_go 0 tX4_isSo n (fI n q) 84 lv [] h := by
  unfold fX4_isSo_84 at hh
  refine go_inc (pc := 84) rfl l3 ?_
  refine go_goto (pc := 87) rfl ?_
  exact R2 _ _ _ _ _ _ (bi_k1 l0 rfl rfl) (bi_k1 l1 rfl rfl) (bi_k1 l2 rfl rfl) bi_e1 hh
def fX4_isSo_79 (n : Nat) (r2 : ai_H → Nat → Int32 → Nat → Int32 → Option (Int32 × ai_H)) (h : ai_H) (v0 : Nat) (v1 : Int32) (v2 : Nat) (v3 : Int32) (s0 : Int32) (s1 : Int32) : Option (Int32 × ai_H) :=
  if s1 = s0 then (
    fX4_isSo_84 n r2 h v0 v1 v2 v3)
  else (
    some ((0 : Int32), h))
theorem sX4_isSo_79 {n : Nat} {r2 : ai_H → Nat → Int32 → Nat → Int32 → Option (Int32 × ai_H)} {q : Int32 × ai_H} {h : ai_H} {v0 : Nat} {v1 : Int32} {v2 : Nat} {v3 : Int32} {s0 : Int32} {s1 : Int32} {lv : ai_L} (R2 : ∀ (h : ai_H) (v0 : Nat) (v1 : Int32) (v2 : Nat) (v3 : Int32) (lv : ai_L), ai_ld 0 lv = some (.ref v0) → ai_ld 1 lv = some (.int v1) → ai_ld 2 lv = some (.ref v2) → ai_ld 3 lv = some (.int v3) → r2 h v0 v1 v2 v3 = some q → bi_go 0 tX4_isSo n (fI n q) 2 lv [] h) (l0 : ai_ld 0 lv = some (.ref v0)) (l1 : ai_ld 1 lv = some (.int v1)) (l2 : ai_ld 2 lv = some (.ref v2)) (l3 : ai_ld 3 lv = some (.int v3)) (hh : fX4_isSo_79 n r2 h v0 v1 v2 v3 s0 s1 = some q) : bi_go 0 tX4_isSo n (fI n q) 79 lv [.int s0, .int s1] h := by
  unfold fX4_isSo_79 at hh
  refine bi_ite hh (fun hc hh => ?_) (fun hc hh => ?_)
  · refine go_cmpeqT (pc := 79) rfl hc ?_
    exact sX4_isSo_84 R2 l0 l1 l2 l3 hh
  · refine go_cmpeqF (pc := 79) rfl hc ?_
    refine go_pi (pc := 82) rfl ?_
    exact go_rz (pc := 83) rfl bi_z0 hh
def fX4_isSo_61 (n : Nat) (r2 : ai_H → Nat → Int32 → Nat → Int32 → Option (Int32 × ai_H)) (h : ai_H) (v0 : Nat) (v1 : Int32) (v2 : Nat) (v3 : Int32) (s0 : Int32) : Option (Int32 × ai_H) :=
  (pR n h v0 4 0).bind fun x1 =>
  (gX 1 n h x1 v3).bind fun x2 =>
  if ¬ x2 = 0 then (
    fX4_isSo_79 n r2 h v0 v1 v2 v3 (0 : Int32) s0)
  else (
    fX4_isSo_79 n r2 h v0 v1 v2 v3 (1 : Int32) s0)
theorem sX4_isSo_61 {n : Nat} {r2 : ai_H → Nat → Int32 → Nat → Int32 → Option (Int32 × ai_H)} {q : Int32 × ai_H} {h : ai_H} {v0 : Nat} {v1 : Int32} {v2 : Nat} {v3 : Int32} {s0 : Int32} {lv : ai_L} (R2 : ∀ (h : ai_H) (v0 : Nat) (v1 : Int32) (v2 : Nat) (v3 : Int32) (lv : ai_L), ai_ld 0 lv = some (.ref v0) → ai_ld 1 lv = some (.int v1) → ai_ld 2 lv = some (.ref v2) → ai_ld 3 lv = some (.int v3) → r2 h v0 v1 v2 v3 = some q → bi_go 0 tX4_isSo n (fI n q) 2 lv [] h) (l0 : ai_ld 0 lv = some (.ref v0)) (l1 : ai_ld 1 lv = some (.int v1)) (l2 : ai_ld 2 lv = some (.ref v2)) (l3 : ai_ld 3 lv = some (.int v3)) (hh : fX4_isSo_61 n r2 h v0 v1 v2 v3 s0 = some q) : bi_go 0 tX4_isSo n (fI n q) 61 lv [.int s0] h := by
  unfold fX4_isSo_61 at hh
  refine go_is (pc := 61) rfl ?_
  refine go_il (pc := 63) rfl bi_e1 ?_
  refine go_al (pc := 65) rfl (bi_k1 l0 rfl rfl) ?_
  obtain ⟨x1, ex1, hh⟩ := bi_bd hh
  refine go_gfR (pc := 66) rfl ex1 ?_
  refine go_il (pc := 69) rfl (bi_k1 l3 rfl rfl) ?_
  obtain ⟨x2, ex2, hh⟩ := bi_bd hh
  refine go_iald (pc := 70) rfl ex2 ?_
  refine bi_ite hh (fun hc hh => ?_) (fun hc hh => ?_)
  · refine go_ifneT (pc := 71) rfl hc ?_
    refine go_pi (pc := 78) rfl ?_
    exact sX4_isSo_79 R2 (bi_k1 l0 rfl rfl) (bi_k1 l1 rfl rfl) (bi_k1 l2 rfl rfl) (bi_k1 l3 rfl rfl) hh
  · refine go_ifneF (pc := 71) rfl hc ?_
    refine go_pi (pc := 74) rfl ?_
    refine go_goto (pc := 75) rfl ?_
    exact sX4_isSo_79 R2 (bi_k1 l0 rfl rfl) (bi_k1 l1 rfl rfl) (bi_k1 l2 rfl rfl) (bi_k1 l3 rfl rfl) hh
def fX4_isSo_2b (n : Nat) (r2 : ai_H → Nat → Int32 → Nat → Int32 → Option (Int32 × ai_H)) (h : ai_H) (v0 : Nat) (v1 : Int32) (v2 : Nat) (v3 : Int32) : Option (Int32 × ai_H) :=
  (pI n h v0 4 5).bind fun x1 =>
  if x1 ≤ v3 then (
    some ((1 : Int32), h))
  else (
    (pR n h v0 4 4).bind fun x2 =>
    (gB n h x2 v3).bind fun x3 =>
    if x3 = 0 then (
      fX4_isSo_84 n r2 h v0 v1 v2 v3)
    else (
      (pR n h v0 4 0).bind fun x4 =>
      (gX 1 n h x4 v3).bind fun x5 =>
      if x5 = (2 : Int32) then (
        fX4_isSo_84 n r2 h v0 v1 v2 v3)
      else (
        (pR n h v0 4 1).bind fun x6 =>
        (gX 1 n h x6 v3).bind fun x7 =>
        if ¬ x7 = v1 then (
          fX4_isSo_84 n r2 h v0 v1 v2 v3)
        else (
          (pR n h v0 4 2).bind fun x8 =>
          (gX 1 n h x8 v3).bind fun x9 =>
          (gX 1 n h v2 x9).bind fun x10 =>
          (pR n h v0 4 3).bind fun x11 =>
          (gX 1 n h x11 v3).bind fun x12 =>
          if ¬ x10 = x12 then (
            fX4_isSo_61 n r2 h v0 v1 v2 v3 (0 : Int32))
          else (
            fX4_isSo_61 n r2 h v0 v1 v2 v3 (1 : Int32))))))
theorem sX4_isSo_2b {n : Nat} {r2 : ai_H → Nat → Int32 → Nat → Int32 → Option (Int32 × ai_H)} {q : Int32 × ai_H} {h : ai_H} {v0 : Nat} {v1 : Int32} {v2 : Nat} {v3 : Int32} {lv : ai_L} (R2 : ∀ (h : ai_H) (v0 : Nat) (v1 : Int32) (v2 : Nat) (v3 : Int32) (lv : ai_L), ai_ld 0 lv = some (.ref v0) → ai_ld 1 lv = some (.int v1) → ai_ld 2 lv = some (.ref v2) → ai_ld 3 lv = some (.int v3) → r2 h v0 v1 v2 v3 = some q → bi_go 0 tX4_isSo n (fI n q) 2 lv [] h) (l0 : ai_ld 0 lv = some (.ref v0)) (l1 : ai_ld 1 lv = some (.int v1)) (l2 : ai_ld 2 lv = some (.ref v2)) (l3 : ai_ld 3 lv = some (.int v3)) (hh : fX4_isSo_2b n r2 h v0 v1 v2 v3 = some q) : bi_go 0 tX4_isSo n (fI n q) 2 lv [] h := by
  unfold fX4_isSo_2b at hh
  refine go_il (pc := 2) rfl l3 ?_
  refine go_al (pc := 3) rfl l0 ?_
  obtain ⟨x1, ex1, hh⟩ := bi_bd hh
  refine go_gfI (pc := 4) rfl ex1 ?_
  refine bi_ite hh (fun hc hh => ?_) (fun hc hh => ?_)
  · refine go_cmpgeT (pc := 7) rfl hc ?_
    refine go_pi (pc := 90) rfl ?_
    exact go_rz (pc := 91) rfl bi_z1 hh
  · refine go_cmpgeF (pc := 7) rfl hc ?_
    refine go_al (pc := 10) rfl l0 ?_
    obtain ⟨x2, ex2, hh⟩ := bi_bd hh
    refine go_gfR (pc := 11) rfl ex2 ?_
    refine go_il (pc := 14) rfl l3 ?_
    obtain ⟨x3, ex3, hh⟩ := bi_bd hh
    refine go_bald (pc := 15) rfl ex3 ?_
    refine bi_ite hh (fun hc hh => ?_) (fun hc hh => ?_)
    · refine go_ifeqT (pc := 16) rfl hc ?_
      exact sX4_isSo_84 R2 l0 l1 l2 l3 hh
    · refine go_ifeqF (pc := 16) rfl hc ?_
      refine go_al (pc := 19) rfl l0 ?_
      obtain ⟨x4, ex4, hh⟩ := bi_bd hh
      refine go_gfR (pc := 20) rfl ex4 ?_
      refine go_il (pc := 23) rfl l3 ?_
      obtain ⟨x5, ex5, hh⟩ := bi_bd hh
      refine go_iald (pc := 24) rfl ex5 ?_
      refine go_pi (pc := 25) rfl ?_
      refine bi_ite hh (fun hc hh => ?_) (fun hc hh => ?_)
      · refine go_cmpeqT (pc := 26) rfl hc ?_
        exact sX4_isSo_84 R2 l0 l1 l2 l3 hh
      · refine go_cmpeqF (pc := 26) rfl hc ?_
        refine go_al (pc := 29) rfl l0 ?_
        obtain ⟨x6, ex6, hh⟩ := bi_bd hh
        refine go_gfR (pc := 30) rfl ex6 ?_
        refine go_il (pc := 33) rfl l3 ?_
        obtain ⟨x7, ex7, hh⟩ := bi_bd hh
        refine go_iald (pc := 34) rfl ex7 ?_
        refine go_il (pc := 35) rfl l1 ?_
        refine bi_ite hh (fun hc hh => ?_) (fun hc hh => ?_)
        · refine go_cmpneT (pc := 36) rfl hc ?_
          exact sX4_isSo_84 R2 l0 l1 l2 l3 hh
        · refine go_cmpneF (pc := 36) rfl hc ?_
          refine go_al (pc := 39) rfl l2 ?_
          refine go_al (pc := 40) rfl l0 ?_
          obtain ⟨x8, ex8, hh⟩ := bi_bd hh
          refine go_gfR (pc := 41) rfl ex8 ?_
          refine go_il (pc := 44) rfl l3 ?_
          obtain ⟨x9, ex9, hh⟩ := bi_bd hh
          refine go_iald (pc := 45) rfl ex9 ?_
          obtain ⟨x10, ex10, hh⟩ := bi_bd hh
          refine go_iald (pc := 46) rfl ex10 ?_
          refine go_al (pc := 47) rfl l0 ?_
          obtain ⟨x11, ex11, hh⟩ := bi_bd hh
          refine go_gfR (pc := 48) rfl ex11 ?_
          refine go_il (pc := 51) rfl l3 ?_
          obtain ⟨x12, ex12, hh⟩ := bi_bd hh
          refine go_iald (pc := 52) rfl ex12 ?_
          refine bi_ite hh (fun hc hh => ?_) (fun hc hh => ?_)
          · refine go_cmpneT (pc := 53) rfl hc ?_
            refine go_pi (pc := 60) rfl ?_
            exact sX4_isSo_61 R2 l0 l1 l2 l3 hh
          · refine go_cmpneF (pc := 53) rfl hc ?_
            refine go_pi (pc := 56) rfl ?_
            refine go_goto (pc := 57) rfl ?_
            exact sX4_isSo_61 R2 l0 l1 l2 l3 hh
def fX4_isSo_2 (n : Nat) : Nat → ai_H → Nat → Int32 → Nat → Int32 → Option (Int32 × ai_H)
  | 0 => fun _ _ _ _ _ => none
  | k + 1 => fun h v0 v1 v2 v3 => fX4_isSo_2b n (fX4_isSo_2 n k) h v0 v1 v2 v3
theorem sX4_isSo_2 {n : Nat} {q : Int32 × ai_H} : ∀ (k : Nat) (h : ai_H) (v0 : Nat) (v1 : Int32) (v2 : Nat) (v3 : Int32) (lv : ai_L), ai_ld 0 lv = some (.ref v0) → ai_ld 1 lv = some (.int v1) → ai_ld 2 lv = some (.ref v2) → ai_ld 3 lv = some (.int v3) → fX4_isSo_2 n k h v0 v1 v2 v3 = some q → bi_go 0 tX4_isSo n (fI n q) 2 lv [] h
  | 0 => fun _ _ _ _ _ _ _ _ _ _ hh => by cases hh
  | k + 1 => fun h v0 v1 v2 v3 lv l0 l1 l2 l3 hh => sX4_isSo_2b  (sX4_isSo_2  k) l0 l1 l2 l3 hh
def fX4_isSo (n : Nat) (h : ai_H) (a0 : Nat) (a1 : Int32) (a2 : Nat) : Option (Int32 × ai_H) :=
  (kO n h a0 4).bind fun _ =>
  fX4_isSo_2 n bi_K h a0 a1 a2 (0 : Int32)
theorem gX4_isSo {n : Nat} {h : ai_H} {a0 : Nat} {a1 : Int32} {a2 : Nat} {q : Int32 × ai_H} (hh : fX4_isSo n h a0 a1 a2 = some q) : kO n h a0 4 = some () := by
  obtain ⟨_, e, -⟩ := bi_bd hh
  exact e
theorem sX4_isSo {n : Nat} {h : ai_H} {a0 : Nat} {a1 : Int32} {a2 : Nat} {q : Int32 × ai_H} (hh : fX4_isSo n h a0 a1 a2 = some q) : bi_sp 1 47 [.ref a0, .int a1, .ref a2] h n (fI n q) := by
  refine bi_en (D := 0) (T := tX4_isSo) (funext fun pc => rfl) rfl (Nat.le_of_ble_eq_true rfl) ?_
  unfold fX4_isSo at hh
  obtain ⟨_, eO, hh⟩ := bi_bd hh
  refine go_pi (pc := 0) rfl ?_
  refine go_is (pc := 1) rfl ?_
  exact sX4_isSo_2  _ _ _ _ _ _ _ (bi_k1 (rfl : ai_ld 0 (lv_args 0 [.ref a0, .int a1, .ref a2]) = some (.ref a0)) rfl rfl) (bi_k1 (rfl : ai_ld 1 (lv_args 0 [.ref a0, .int a1, .ref a2]) = some (.int a1)) rfl rfl) (bi_k1 (rfl : ai_ld 2 (lv_args 0 [.ref a0, .int a1, .ref a2]) = some (.ref a2)) rfl rfl) bi_e1 hh
def fX5_begin_76b (n : Nat) (r76 : ai_H → Nat → Nat → Int32 → Option (Unit × ai_H)) (h : ai_H) (v0 : Nat) (v1 : Nat) (v2 : Int32) : Option (Unit × ai_H) :=
  if (4 : Int32) ≤ v2 then (
    some ((), h))
  else (
    (pR n h v0 5 7).bind fun x1 =>
    (pR n h v1 8 2).bind fun x2 =>
    (fX6_cell n h x2 v2 (0 : Int32)).bind fun q3 =>
    (wX 1 (fun x => x) n q3.2 x1 v2 q3.1).bind fun h4 =>
    (pR n h4 v0 5 8).bind fun x5 =>
    (pR n h4 v1 8 2).bind fun x6 =>
    (fX6_cell n h4 x6 v2 (2 : Int32)).bind fun q7 =>
    (wX 1 (fun x => x) n q7.2 x5 v2 q7.1).bind fun h8 =>
    r76 h8 v0 v1 (v2 + 1))
theorem sX5_begin_76b {n : Nat} {r76 : ai_H → Nat → Nat → Int32 → Option (Unit × ai_H)} {q : Unit × ai_H} {h : ai_H} {v0 : Nat} {v1 : Nat} {v2 : Int32} {lv : ai_L} (R76 : ∀ (h : ai_H) (v0 : Nat) (v1 : Nat) (v2 : Int32) (lv : ai_L), ai_ld 0 lv = some (.ref v0) → ai_ld 1 lv = some (.ref v1) → ai_ld 2 lv = some (.int v2) → r76 h v0 v1 v2 = some q → bi_go 1 tX5_begin n (fV n q) 76 lv [] h) (l0 : ai_ld 0 lv = some (.ref v0)) (l1 : ai_ld 1 lv = some (.ref v1)) (l2 : ai_ld 2 lv = some (.int v2)) (hh : fX5_begin_76b n r76 h v0 v1 v2 = some q) : bi_go 1 tX5_begin n (fV n q) 76 lv [] h := by
  unfold fX5_begin_76b at hh
  refine go_il (pc := 76) rfl l2 ?_
  refine go_pi (pc := 77) rfl ?_
  refine bi_ite hh (fun hc hh => ?_) (fun hc hh => ?_)
  · refine go_cmpgeT (pc := 78) rfl hc ?_
    exact go_rv (pc := 117) rfl hh
  · refine go_cmpgeF (pc := 78) rfl hc ?_
    refine go_al (pc := 81) rfl l0 ?_
    obtain ⟨x1, ex1, hh⟩ := bi_bd hh
    refine go_gfR (pc := 82) rfl ex1 ?_
    refine go_il (pc := 85) rfl l2 ?_
    refine go_al (pc := 86) rfl l1 ?_
    obtain ⟨x2, ex2, hh⟩ := bi_bd hh
    refine go_gfR (pc := 87) rfl ex2 ?_
    refine go_il (pc := 90) rfl l2 ?_
    refine go_pi (pc := 91) rfl ?_
    obtain ⟨q3, eq3, hh⟩ := bi_bd hh
    refine go_ivI (pc := 92) rfl rfl (gX6_cell eq3) (Nat.le_of_ble_eq_true rfl) (bi_up (sX6_cell eq3) (Nat.le_of_ble_eq_true rfl)) ?_
    obtain ⟨h4, eh4, hh⟩ := bi_bd hh
    refine go_iast (pc := 95) rfl eh4 ?_
    refine go_al (pc := 96) rfl l0 ?_
    obtain ⟨x5, ex5, hh⟩ := bi_bd hh
    refine go_gfR (pc := 97) rfl ex5 ?_
    refine go_il (pc := 100) rfl l2 ?_
    refine go_al (pc := 101) rfl l1 ?_
    obtain ⟨x6, ex6, hh⟩ := bi_bd hh
    refine go_gfR (pc := 102) rfl ex6 ?_
    refine go_il (pc := 105) rfl l2 ?_
    refine go_pi (pc := 106) rfl ?_
    obtain ⟨q7, eq7, hh⟩ := bi_bd hh
    refine go_ivI (pc := 107) rfl rfl (gX6_cell eq7) (Nat.le_of_ble_eq_true rfl) (bi_up (sX6_cell eq7) (Nat.le_of_ble_eq_true rfl)) ?_
    obtain ⟨h8, eh8, hh⟩ := bi_bd hh
    refine go_iast (pc := 110) rfl eh8 ?_
    refine go_inc (pc := 111) rfl l2 ?_
    refine go_goto (pc := 114) rfl ?_
    exact R76 _ _ _ _ _ (bi_k1 l0 rfl rfl) (bi_k1 l1 rfl rfl) bi_e1 hh
def fX5_begin_76 (n : Nat) : Nat → ai_H → Nat → Nat → Int32 → Option (Unit × ai_H)
  | 0 => fun _ _ _ _ => none
  | k + 1 => fun h v0 v1 v2 => fX5_begin_76b n (fX5_begin_76 n k) h v0 v1 v2
theorem sX5_begin_76 {n : Nat} {q : Unit × ai_H} : ∀ (k : Nat) (h : ai_H) (v0 : Nat) (v1 : Nat) (v2 : Int32) (lv : ai_L), ai_ld 0 lv = some (.ref v0) → ai_ld 1 lv = some (.ref v1) → ai_ld 2 lv = some (.int v2) → fX5_begin_76 n k h v0 v1 v2 = some q → bi_go 1 tX5_begin n (fV n q) 76 lv [] h
  | 0 => fun _ _ _ _ _ _ _ _ hh => by cases hh
  | k + 1 => fun h v0 v1 v2 lv l0 l1 l2 hh => sX5_begin_76b  (sX5_begin_76  k) l0 l1 l2 hh
def fX5_begin_40b (n : Nat) (r40 : ai_H → Nat → Nat → Int32 → Option (Unit × ai_H)) (h : ai_H) (v0 : Nat) (v1 : Nat) (v2 : Int32) : Option (Unit × ai_H) :=
  if (9 : Int32) ≤ v2 then (
    fX5_begin_76 n bi_K h v0 v1 (0 : Int32))
  else (
    (pR n h v0 5 5).bind fun x1 =>
    (pR n h v1 8 1).bind fun x2 =>
    (fX6_cell n h x2 v2 (4 : Int32)).bind fun q3 =>
    (wX 1 (fun x => x) n q3.2 x1 v2 q3.1).bind fun h4 =>
    (pR n h4 v0 5 6).bind fun x5 =>
    (wX 1 (fun x => x) n h4 x5 v2 (0 : Int32)).bind fun h6 =>
    r40 h6 v0 v1 (v2 + 1))
theorem sX5_begin_40b {n : Nat} {r40 : ai_H → Nat → Nat → Int32 → Option (Unit × ai_H)} {q : Unit × ai_H} {h : ai_H} {v0 : Nat} {v1 : Nat} {v2 : Int32} {lv : ai_L} (R40 : ∀ (h : ai_H) (v0 : Nat) (v1 : Nat) (v2 : Int32) (lv : ai_L), ai_ld 0 lv = some (.ref v0) → ai_ld 1 lv = some (.ref v1) → ai_ld 2 lv = some (.int v2) → r40 h v0 v1 v2 = some q → bi_go 1 tX5_begin n (fV n q) 40 lv [] h) (l0 : ai_ld 0 lv = some (.ref v0)) (l1 : ai_ld 1 lv = some (.ref v1)) (l2 : ai_ld 2 lv = some (.int v2)) (hh : fX5_begin_40b n r40 h v0 v1 v2 = some q) : bi_go 1 tX5_begin n (fV n q) 40 lv [] h := by
  unfold fX5_begin_40b at hh
  refine go_il (pc := 40) rfl l2 ?_
  refine go_pi (pc := 41) rfl ?_
  refine bi_ite hh (fun hc hh => ?_) (fun hc hh => ?_)
  · refine go_cmpgeT (pc := 43) rfl hc ?_
    refine go_pi (pc := 74) rfl ?_
    refine go_is (pc := 75) rfl ?_
    exact sX5_begin_76  _ _ _ _ _ _ (bi_k1 l0 rfl rfl) (bi_k1 l1 rfl rfl) bi_e1 hh
  · refine go_cmpgeF (pc := 43) rfl hc ?_
    refine go_al (pc := 46) rfl l0 ?_
    obtain ⟨x1, ex1, hh⟩ := bi_bd hh
    refine go_gfR (pc := 47) rfl ex1 ?_
    refine go_il (pc := 50) rfl l2 ?_
    refine go_al (pc := 51) rfl l1 ?_
    obtain ⟨x2, ex2, hh⟩ := bi_bd hh
    refine go_gfR (pc := 52) rfl ex2 ?_
    refine go_il (pc := 55) rfl l2 ?_
    refine go_pi (pc := 56) rfl ?_
    obtain ⟨q3, eq3, hh⟩ := bi_bd hh
    refine go_ivI (pc := 57) rfl rfl (gX6_cell eq3) (Nat.le_of_ble_eq_true rfl) (bi_up (sX6_cell eq3) (Nat.le_of_ble_eq_true rfl)) ?_
    obtain ⟨h4, eh4, hh⟩ := bi_bd hh
    refine go_iast (pc := 60) rfl eh4 ?_
    refine go_al (pc := 61) rfl l0 ?_
    obtain ⟨x5, ex5, hh⟩ := bi_bd hh
    refine go_gfR (pc := 62) rfl ex5 ?_
    refine go_il (pc := 65) rfl l2 ?_
    refine go_pi (pc := 66) rfl ?_
    obtain ⟨h6, eh6, hh⟩ := bi_bd hh
    refine go_iast (pc := 67) rfl eh6 ?_
    refine go_inc (pc := 68) rfl l2 ?_
    refine go_goto (pc := 71) rfl ?_
    exact R40 _ _ _ _ _ (bi_k1 l0 rfl rfl) (bi_k1 l1 rfl rfl) bi_e1 hh
def fX5_begin_40 (n : Nat) : Nat → ai_H → Nat → Nat → Int32 → Option (Unit × ai_H)
  | 0 => fun _ _ _ _ => none
  | k + 1 => fun h v0 v1 v2 => fX5_begin_40b n (fX5_begin_40 n k) h v0 v1 v2
theorem sX5_begin_40 {n : Nat} {q : Unit × ai_H} : ∀ (k : Nat) (h : ai_H) (v0 : Nat) (v1 : Nat) (v2 : Int32) (lv : ai_L), ai_ld 0 lv = some (.ref v0) → ai_ld 1 lv = some (.ref v1) → ai_ld 2 lv = some (.int v2) → fX5_begin_40 n k h v0 v1 v2 = some q → bi_go 1 tX5_begin n (fV n q) 40 lv [] h
  | 0 => fun _ _ _ _ _ _ _ _ hh => by cases hh
  | k + 1 => fun h v0 v1 v2 lv l0 l1 l2 hh => sX5_begin_40b  (sX5_begin_40  k) l0 l1 l2 hh
def fX5_begin (n : Nat) (h : ai_H) (a0 : Nat) (a1 : Nat) : Option (Unit × ai_H) :=
  (kO n h a0 5).bind fun _ =>
  (sF n h a0 5 0 (.int) (.int (0 : Int32))).bind fun h1 =>
  (pI n h1 a1 8 8).bind fun x2 =>
  (sF n h1 a0 5 1 (.int) (.int x2)).bind fun h3 =>
  (sF n h3 a0 5 2 (.int) (.int (0 : Int32))).bind fun h4 =>
  (sF n h4 a0 5 3 (.int) (.int (0 : Int32))).bind fun h5 =>
  (pR n h5 a1 8 1).bind fun x6 =>
  (pI n h5 x6 6 4).bind fun x7 =>
  (sF n h5 a0 5 4 (.int) (.int (((1 : Int32) <<< (x7 &&& 31)) - (1 : Int32)))).bind fun h8 =>
  fX5_begin_40 n bi_K h8 a0 a1 (0 : Int32)
theorem gX5_begin {n : Nat} {h : ai_H} {a0 : Nat} {a1 : Nat} {q : Unit × ai_H} (hh : fX5_begin n h a0 a1 = some q) : kO n h a0 5 = some () := by
  obtain ⟨_, e, -⟩ := bi_bd hh
  exact e
theorem sX5_begin {n : Nat} {h : ai_H} {a0 : Nat} {a1 : Nat} {q : Unit × ai_H} (hh : fX5_begin n h a0 a1 = some q) : bi_sp 2 49 [.ref a0, .ref a1] h n (fV n q) := by
  refine bi_en (D := 1) (T := tX5_begin) (funext fun pc => rfl) rfl (Nat.le_of_ble_eq_true rfl) ?_
  unfold fX5_begin at hh
  obtain ⟨_, eO, hh⟩ := bi_bd hh
  refine go_al (pc := 0) rfl (rfl : ai_ld 0 (lv_args 0 [.ref a0, .ref a1]) = some (.ref a0)) ?_
  refine go_pi (pc := 1) rfl ?_
  obtain ⟨h1, eh1, hh⟩ := bi_bd hh
  refine go_pf (pc := 2) rfl eh1 ?_
  refine go_al (pc := 5) rfl (rfl : ai_ld 0 (lv_args 0 [.ref a0, .ref a1]) = some (.ref a0)) ?_
  refine go_al (pc := 6) rfl (rfl : ai_ld 1 (lv_args 0 [.ref a0, .ref a1]) = some (.ref a1)) ?_
  obtain ⟨x2, ex2, hh⟩ := bi_bd hh
  refine go_gfI (pc := 7) rfl ex2 ?_
  obtain ⟨h3, eh3, hh⟩ := bi_bd hh
  refine go_pf (pc := 10) rfl eh3 ?_
  refine go_al (pc := 13) rfl (rfl : ai_ld 0 (lv_args 0 [.ref a0, .ref a1]) = some (.ref a0)) ?_
  refine go_pi (pc := 14) rfl ?_
  obtain ⟨h4, eh4, hh⟩ := bi_bd hh
  refine go_pf (pc := 15) rfl eh4 ?_
  refine go_al (pc := 18) rfl (rfl : ai_ld 0 (lv_args 0 [.ref a0, .ref a1]) = some (.ref a0)) ?_
  refine go_pi (pc := 19) rfl ?_
  obtain ⟨h5, eh5, hh⟩ := bi_bd hh
  refine go_pf (pc := 20) rfl eh5 ?_
  refine go_al (pc := 23) rfl (rfl : ai_ld 0 (lv_args 0 [.ref a0, .ref a1]) = some (.ref a0)) ?_
  refine go_pi (pc := 24) rfl ?_
  refine go_al (pc := 25) rfl (rfl : ai_ld 1 (lv_args 0 [.ref a0, .ref a1]) = some (.ref a1)) ?_
  obtain ⟨x6, ex6, hh⟩ := bi_bd hh
  refine go_gfR (pc := 26) rfl ex6 ?_
  obtain ⟨x7, ex7, hh⟩ := bi_bd hh
  refine go_gfI (pc := 29) rfl ex7 ?_
  refine go_ishl (pc := 32) rfl ?_
  refine go_pi (pc := 33) rfl ?_
  refine go_isub (pc := 34) rfl ?_
  obtain ⟨h8, eh8, hh⟩ := bi_bd hh
  refine go_pf (pc := 35) rfl eh8 ?_
  refine go_pi (pc := 38) rfl ?_
  refine go_is (pc := 39) rfl ?_
  exact sX5_begin_40  _ _ _ _ _ _ (bi_k1 (rfl : ai_ld 0 (lv_args 0 [.ref a0, .ref a1]) = some (.ref a0)) rfl rfl) (bi_k1 (rfl : ai_ld 1 (lv_args 0 [.ref a0, .ref a1]) = some (.ref a1)) rfl rfl) bi_e1 hh
def fX5_copyFrom (n : Nat) (h : ai_H) (a0 : Nat) (a1 : Nat) : Option (Unit × ai_H) :=
  (kO n h a0 5).bind fun _ =>
  (pI n h a1 5 0).bind fun x1 =>
  (sF n h a0 5 0 (.int) (.int x1)).bind fun h2 =>
  (pI n h2 a1 5 1).bind fun x3 =>
  (sF n h2 a0 5 1 (.int) (.int x3)).bind fun h4 =>
  (pI n h4 a1 5 2).bind fun x5 =>
  (sF n h4 a0 5 2 (.int) (.int x5)).bind fun h6 =>
  (pI n h6 a1 5 3).bind fun x7 =>
  (sF n h6 a0 5 3 (.int) (.int x7)).bind fun h8 =>
  (pI n h8 a1 5 4).bind fun x9 =>
  (sF n h8 a0 5 4 (.int) (.int x9)).bind fun h10 =>
  (pR n h10 a1 5 5).bind fun x11 =>
  (pR n h10 a0 5 5).bind fun x12 =>
  (cA n h10 x11 (0 : Int32) x12 (0 : Int32) (9 : Int32)).bind fun h13 =>
  (pR n h13 a1 5 6).bind fun x14 =>
  (pR n h13 a0 5 6).bind fun x15 =>
  (cA n h13 x14 (0 : Int32) x15 (0 : Int32) (9 : Int32)).bind fun h16 =>
  (pR n h16 a1 5 7).bind fun x17 =>
  (pR n h16 a0 5 7).bind fun x18 =>
  (cA n h16 x17 (0 : Int32) x18 (0 : Int32) (4 : Int32)).bind fun h19 =>
  (pR n h19 a1 5 8).bind fun x20 =>
  (pR n h19 a0 5 8).bind fun x21 =>
  (cA n h19 x20 (0 : Int32) x21 (0 : Int32) (4 : Int32)).bind fun h22 =>
  some ((), h22)
theorem gX5_copyFrom {n : Nat} {h : ai_H} {a0 : Nat} {a1 : Nat} {q : Unit × ai_H} (hh : fX5_copyFrom n h a0 a1 = some q) : kO n h a0 5 = some () := by
  obtain ⟨_, e, -⟩ := bi_bd hh
  exact e
theorem sX5_copyFrom {n : Nat} {h : ai_H} {a0 : Nat} {a1 : Nat} {q : Unit × ai_H} (hh : fX5_copyFrom n h a0 a1 = some q) : bi_sp 1 50 [.ref a0, .ref a1] h n (fV n q) := by
  refine bi_en (D := 0) (T := tX5_copyFrom) (funext fun pc => rfl) rfl (Nat.le_of_ble_eq_true rfl) ?_
  unfold fX5_copyFrom at hh
  obtain ⟨_, eO, hh⟩ := bi_bd hh
  refine go_al (pc := 0) rfl (rfl : ai_ld 0 (lv_args 0 [.ref a0, .ref a1]) = some (.ref a0)) ?_
  refine go_al (pc := 1) rfl (rfl : ai_ld 1 (lv_args 0 [.ref a0, .ref a1]) = some (.ref a1)) ?_
  obtain ⟨x1, ex1, hh⟩ := bi_bd hh
  refine go_gfI (pc := 2) rfl ex1 ?_
  obtain ⟨h2, eh2, hh⟩ := bi_bd hh
  refine go_pf (pc := 5) rfl eh2 ?_
  refine go_al (pc := 8) rfl (rfl : ai_ld 0 (lv_args 0 [.ref a0, .ref a1]) = some (.ref a0)) ?_
  refine go_al (pc := 9) rfl (rfl : ai_ld 1 (lv_args 0 [.ref a0, .ref a1]) = some (.ref a1)) ?_
  obtain ⟨x3, ex3, hh⟩ := bi_bd hh
  refine go_gfI (pc := 10) rfl ex3 ?_
  obtain ⟨h4, eh4, hh⟩ := bi_bd hh
  refine go_pf (pc := 13) rfl eh4 ?_
  refine go_al (pc := 16) rfl (rfl : ai_ld 0 (lv_args 0 [.ref a0, .ref a1]) = some (.ref a0)) ?_
  refine go_al (pc := 17) rfl (rfl : ai_ld 1 (lv_args 0 [.ref a0, .ref a1]) = some (.ref a1)) ?_
  obtain ⟨x5, ex5, hh⟩ := bi_bd hh
  refine go_gfI (pc := 18) rfl ex5 ?_
  obtain ⟨h6, eh6, hh⟩ := bi_bd hh
  refine go_pf (pc := 21) rfl eh6 ?_
  refine go_al (pc := 24) rfl (rfl : ai_ld 0 (lv_args 0 [.ref a0, .ref a1]) = some (.ref a0)) ?_
  refine go_al (pc := 25) rfl (rfl : ai_ld 1 (lv_args 0 [.ref a0, .ref a1]) = some (.ref a1)) ?_
  obtain ⟨x7, ex7, hh⟩ := bi_bd hh
  refine go_gfI (pc := 26) rfl ex7 ?_
  obtain ⟨h8, eh8, hh⟩ := bi_bd hh
  refine go_pf (pc := 29) rfl eh8 ?_
  refine go_al (pc := 32) rfl (rfl : ai_ld 0 (lv_args 0 [.ref a0, .ref a1]) = some (.ref a0)) ?_
  refine go_al (pc := 33) rfl (rfl : ai_ld 1 (lv_args 0 [.ref a0, .ref a1]) = some (.ref a1)) ?_
  obtain ⟨x9, ex9, hh⟩ := bi_bd hh
  refine go_gfI (pc := 34) rfl ex9 ?_
  obtain ⟨h10, eh10, hh⟩ := bi_bd hh
  refine go_pf (pc := 37) rfl eh10 ?_
  refine go_al (pc := 40) rfl (rfl : ai_ld 1 (lv_args 0 [.ref a0, .ref a1]) = some (.ref a1)) ?_
  obtain ⟨x11, ex11, hh⟩ := bi_bd hh
  refine go_gfR (pc := 41) rfl ex11 ?_
  refine go_pi (pc := 44) rfl ?_
  refine go_al (pc := 45) rfl (rfl : ai_ld 0 (lv_args 0 [.ref a0, .ref a1]) = some (.ref a0)) ?_
  obtain ⟨x12, ex12, hh⟩ := bi_bd hh
  refine go_gfR (pc := 46) rfl ex12 ?_
  refine go_pi (pc := 49) rfl ?_
  refine go_pi (pc := 50) rfl ?_
  obtain ⟨h13, eh13, hh⟩ := bi_bd hh
  refine go_cp (pc := 52) rfl eh13 (Nat.le_of_ble_eq_true rfl) ?_
  refine go_al (pc := 55) rfl (rfl : ai_ld 1 (lv_args 0 [.ref a0, .ref a1]) = some (.ref a1)) ?_
  obtain ⟨x14, ex14, hh⟩ := bi_bd hh
  refine go_gfR (pc := 56) rfl ex14 ?_
  refine go_pi (pc := 59) rfl ?_
  refine go_al (pc := 60) rfl (rfl : ai_ld 0 (lv_args 0 [.ref a0, .ref a1]) = some (.ref a0)) ?_
  obtain ⟨x15, ex15, hh⟩ := bi_bd hh
  refine go_gfR (pc := 61) rfl ex15 ?_
  refine go_pi (pc := 64) rfl ?_
  refine go_pi (pc := 65) rfl ?_
  obtain ⟨h16, eh16, hh⟩ := bi_bd hh
  refine go_cp (pc := 67) rfl eh16 (Nat.le_of_ble_eq_true rfl) ?_
  refine go_al (pc := 70) rfl (rfl : ai_ld 1 (lv_args 0 [.ref a0, .ref a1]) = some (.ref a1)) ?_
  obtain ⟨x17, ex17, hh⟩ := bi_bd hh
  refine go_gfR (pc := 71) rfl ex17 ?_
  refine go_pi (pc := 74) rfl ?_
  refine go_al (pc := 75) rfl (rfl : ai_ld 0 (lv_args 0 [.ref a0, .ref a1]) = some (.ref a0)) ?_
  obtain ⟨x18, ex18, hh⟩ := bi_bd hh
  refine go_gfR (pc := 76) rfl ex18 ?_
  refine go_pi (pc := 79) rfl ?_
  refine go_pi (pc := 80) rfl ?_
  obtain ⟨h19, eh19, hh⟩ := bi_bd hh
  refine go_cp (pc := 81) rfl eh19 (Nat.le_of_ble_eq_true rfl) ?_
  refine go_al (pc := 84) rfl (rfl : ai_ld 1 (lv_args 0 [.ref a0, .ref a1]) = some (.ref a1)) ?_
  obtain ⟨x20, ex20, hh⟩ := bi_bd hh
  refine go_gfR (pc := 85) rfl ex20 ?_
  refine go_pi (pc := 88) rfl ?_
  refine go_al (pc := 89) rfl (rfl : ai_ld 0 (lv_args 0 [.ref a0, .ref a1]) = some (.ref a0)) ?_
  obtain ⟨x21, ex21, hh⟩ := bi_bd hh
  refine go_gfR (pc := 90) rfl ex21 ?_
  refine go_pi (pc := 93) rfl ?_
  refine go_pi (pc := 94) rfl ?_
  obtain ⟨h22, eh22, hh⟩ := bi_bd hh
  refine go_cp (pc := 95) rfl eh22 (Nat.le_of_ble_eq_true rfl) ?_
  exact go_rv (pc := 98) rfl hh
def fX9_openFor_60 (n : Nat) (r16 : ai_H → Nat → Nat → Int32 → Int32 → Int32 → Option (Int32 × ai_H)) (h : ai_H) (v0 : Nat) (v1 : Nat) (v3 : Int32) (v4 : Int32) (v5 : Int32) : Option (Int32 × ai_H) :=
  r16 h v0 v1 v3 v4 (v5 + 1)
theorem sX9_openFor_60 {n : Nat} {r16 : ai_H → Nat → Nat → Int32 → Int32 → Int32 → Option (Int32 × ai_H)} {q : Int32 × ai_H} {h : ai_H} {v0 : Nat} {v1 : Nat} {v3 : Int32} {v4 : Int32} {v5 : Int32} {lv : ai_L} (R16 : ∀ (h : ai_H) (v0 : Nat) (v1 : Nat) (v3 : Int32) (v4 : Int32) (v5 : Int32) (lv : ai_L), ai_ld 0 lv = some (.ref v0) → ai_ld 1 lv = some (.ref v1) → ai_ld 3 lv = some (.int v3) → ai_ld 4 lv = some (.int v4) → ai_ld 5 lv = some (.int v5) → r16 h v0 v1 v3 v4 v5 = some q → bi_go 1 tX9_openFor n (fI n q) 16 lv [] h) (l0 : ai_ld 0 lv = some (.ref v0)) (l1 : ai_ld 1 lv = some (.ref v1)) (l3 : ai_ld 3 lv = some (.int v3)) (l4 : ai_ld 4 lv = some (.int v4)) (l5 : ai_ld 5 lv = some (.int v5)) (hh : fX9_openFor_60 n r16 h v0 v1 v3 v4 v5 = some q) : bi_go 1 tX9_openFor n (fI n q) 60 lv [] h := by
  unfold fX9_openFor_60 at hh
  refine go_inc (pc := 60) rfl l5 ?_
  refine go_goto (pc := 63) rfl ?_
  exact R16 _ _ _ _ _ _ _ (bi_k1 l0 rfl rfl) (bi_k1 l1 rfl rfl) (bi_k1 l3 rfl rfl) (bi_k1 l4 rfl rfl) bi_e1 hh
def fX9_openFor_16b (n : Nat) (r16 : ai_H → Nat → Nat → Int32 → Int32 → Int32 → Option (Int32 × ai_H)) (h : ai_H) (v0 : Nat) (v1 : Nat) (v3 : Int32) (v4 : Int32) (v5 : Int32) : Option (Int32 × ai_H) :=
  (pR n h v0 8 1).bind fun x1 =>
  (pI n h x1 6 4).bind fun x2 =>
  if x2 ≤ v5 then (
    some (v4, h))
  else (
    (fX5_isKept n h v1 v5).bind fun q3 =>
    if q3.1 = 0 then (
      fX9_openFor_60 n r16 q3.2 v0 v1 v3 v4 v5)
    else (
      (pR n q3.2 v0 8 1).bind fun x4 =>
      (fX6_cell n q3.2 x4 v5 (3 : Int32)).bind fun q5 =>
      if v3 < q5.1 then (
        fX9_openFor_60 n r16 q5.2 v0 v1 v3 v4 v5)
      else (
        fX9_openFor_60 n r16 q5.2 v0 v1 v3 (v4 ||| ((1 : Int32) <<< (v5 &&& 31))) v5)))
theorem sX9_openFor_16b {n : Nat} {r16 : ai_H → Nat → Nat → Int32 → Int32 → Int32 → Option (Int32 × ai_H)} {q : Int32 × ai_H} {h : ai_H} {v0 : Nat} {v1 : Nat} {v3 : Int32} {v4 : Int32} {v5 : Int32} {lv : ai_L} (R16 : ∀ (h : ai_H) (v0 : Nat) (v1 : Nat) (v3 : Int32) (v4 : Int32) (v5 : Int32) (lv : ai_L), ai_ld 0 lv = some (.ref v0) → ai_ld 1 lv = some (.ref v1) → ai_ld 3 lv = some (.int v3) → ai_ld 4 lv = some (.int v4) → ai_ld 5 lv = some (.int v5) → r16 h v0 v1 v3 v4 v5 = some q → bi_go 1 tX9_openFor n (fI n q) 16 lv [] h) (l0 : ai_ld 0 lv = some (.ref v0)) (l1 : ai_ld 1 lv = some (.ref v1)) (l3 : ai_ld 3 lv = some (.int v3)) (l4 : ai_ld 4 lv = some (.int v4)) (l5 : ai_ld 5 lv = some (.int v5)) (hh : fX9_openFor_16b n r16 h v0 v1 v3 v4 v5 = some q) : bi_go 1 tX9_openFor n (fI n q) 16 lv [] h := by
  unfold fX9_openFor_16b at hh
  refine go_il (pc := 16) rfl l5 ?_
  refine go_al (pc := 18) rfl l0 ?_
  obtain ⟨x1, ex1, hh⟩ := bi_bd hh
  refine go_gfR (pc := 19) rfl ex1 ?_
  obtain ⟨x2, ex2, hh⟩ := bi_bd hh
  refine go_gfI (pc := 22) rfl ex2 ?_
  refine bi_ite hh (fun hc hh => ?_) (fun hc hh => ?_)
  · refine go_cmpgeT (pc := 25) rfl hc ?_
    refine go_il (pc := 66) rfl l4 ?_
    exact go_ri (pc := 68) rfl hh
  · refine go_cmpgeF (pc := 25) rfl hc ?_
    refine go_al (pc := 28) rfl l1 ?_
    refine go_il (pc := 29) rfl l5 ?_
    obtain ⟨q3, eq3, hh⟩ := bi_bd hh
    refine go_ivI (pc := 31) rfl rfl (gX5_isKept eq3) (Nat.le_of_ble_eq_true rfl) (bi_up (sX5_isKept eq3) (Nat.le_of_ble_eq_true rfl)) ?_
    refine bi_ite hh (fun hc hh => ?_) (fun hc hh => ?_)
    · refine go_ifeqT (pc := 34) rfl hc ?_
      exact sX9_openFor_60 R16 l0 l1 l3 l4 l5 hh
    · refine go_ifeqF (pc := 34) rfl hc ?_
      refine go_al (pc := 37) rfl l0 ?_
      obtain ⟨x4, ex4, hh⟩ := bi_bd hh
      refine go_gfR (pc := 38) rfl ex4 ?_
      refine go_il (pc := 41) rfl l5 ?_
      refine go_pi (pc := 43) rfl ?_
      obtain ⟨q5, eq5, hh⟩ := bi_bd hh
      refine go_ivI (pc := 44) rfl rfl (gX6_cell eq5) (Nat.le_of_ble_eq_true rfl) (bi_up (sX6_cell eq5) (Nat.le_of_ble_eq_true rfl)) ?_
      refine go_il (pc := 47) rfl l3 ?_
      refine bi_ite hh (fun hc hh => ?_) (fun hc hh => ?_)
      · refine go_cmpgtT (pc := 48) rfl hc ?_
        exact sX9_openFor_60 R16 l0 l1 l3 l4 l5 hh
      · refine go_cmpgtF (pc := 48) rfl hc ?_
        refine go_il (pc := 51) rfl l4 ?_
        refine go_pi (pc := 53) rfl ?_
        refine go_il (pc := 54) rfl l5 ?_
        refine go_ishl (pc := 56) rfl ?_
        refine go_ior (pc := 57) rfl ?_
        refine go_is (pc := 58) rfl ?_
        exact sX9_openFor_60 R16 (bi_k1 l0 rfl rfl) (bi_k1 l1 rfl rfl) (bi_k1 l3 rfl rfl) bi_e1 (bi_k1 l5 rfl rfl) hh
def fX9_openFor_16 (n : Nat) : Nat → ai_H → Nat → Nat → Int32 → Int32 → Int32 → Option (Int32 × ai_H)
  | 0 => fun _ _ _ _ _ _ => none
  | k + 1 => fun h v0 v1 v3 v4 v5 => fX9_openFor_16b n (fX9_openFor_16 n k) h v0 v1 v3 v4 v5
theorem sX9_openFor_16 {n : Nat} {q : Int32 × ai_H} : ∀ (k : Nat) (h : ai_H) (v0 : Nat) (v1 : Nat) (v3 : Int32) (v4 : Int32) (v5 : Int32) (lv : ai_L), ai_ld 0 lv = some (.ref v0) → ai_ld 1 lv = some (.ref v1) → ai_ld 3 lv = some (.int v3) → ai_ld 4 lv = some (.int v4) → ai_ld 5 lv = some (.int v5) → fX9_openFor_16 n k h v0 v1 v3 v4 v5 = some q → bi_go 1 tX9_openFor n (fI n q) 16 lv [] h
  | 0 => fun _ _ _ _ _ _ _ _ _ _ _ _ hh => by cases hh
  | k + 1 => fun h v0 v1 v3 v4 v5 lv l0 l1 l3 l4 l5 hh => sX9_openFor_16b  (sX9_openFor_16  k) l0 l1 l3 l4 l5 hh
def fX9_openFor (n : Nat) (h : ai_H) (a0 : Nat) (a1 : Nat) (a2 : Int32) : Option (Int32 × ai_H) :=
  (pR n h a0 8 2).bind fun x1 =>
  (fX6_cell n h x1 a2 (1 : Int32)).bind fun q2 =>
  fX9_openFor_16 n bi_K q2.2 a0 a1 q2.1 (0 : Int32) (0 : Int32)
theorem sX9_openFor {n : Nat} {h : ai_H} {a0 : Nat} {a1 : Nat} {a2 : Int32} {q : Int32 × ai_H} (hh : fX9_openFor n h a0 a1 a2 = some q) : bi_sp 2 73 [.ref a0, .ref a1, .int a2] h n (fI n q) := by
  refine bi_en (D := 1) (T := tX9_openFor) (funext fun pc => rfl) rfl (Nat.le_of_ble_eq_true rfl) ?_
  unfold fX9_openFor at hh
  refine go_al (pc := 0) rfl (rfl : ai_ld 0 (lv_args 0 [.ref a0, .ref a1, .int a2]) = some (.ref a0)) ?_
  obtain ⟨x1, ex1, hh⟩ := bi_bd hh
  refine go_gfR (pc := 1) rfl ex1 ?_
  refine go_il (pc := 4) rfl (rfl : ai_ld 2 (lv_args 0 [.ref a0, .ref a1, .int a2]) = some (.int a2)) ?_
  refine go_pi (pc := 5) rfl ?_
  obtain ⟨q2, eq2, hh⟩ := bi_bd hh
  refine go_ivI (pc := 6) rfl rfl (gX6_cell eq2) (Nat.le_of_ble_eq_true rfl) (bi_up (sX6_cell eq2) (Nat.le_of_ble_eq_true rfl)) ?_
  refine go_is (pc := 9) rfl ?_
  refine go_pi (pc := 10) rfl ?_
  refine go_is (pc := 11) rfl ?_
  refine go_pi (pc := 13) rfl ?_
  refine go_is (pc := 14) rfl ?_
  exact sX9_openFor_16  _ _ _ _ _ _ _ _ (bi_k1 (bi_k1 (bi_k1 (rfl : ai_ld 0 (lv_args 0 [.ref a0, .ref a1, .int a2]) = some (.ref a0)) rfl rfl) rfl rfl) rfl rfl) (bi_k1 (bi_k1 (bi_k1 (rfl : ai_ld 1 (lv_args 0 [.ref a0, .ref a1, .int a2]) = some (.ref a1)) rfl rfl) rfl rfl) rfl rfl) (bi_k1 (bi_k1 bi_e1 rfl rfl) rfl rfl) (bi_k1 bi_e1 rfl rfl) bi_e1 hh
def fX9_sets_37 (n : Nat) (r4 : ai_H → Nat → Int32 → Int32 → Int32 → Option (Int32 × ai_H)) (h : ai_H) (v0 : Nat) (v1 : Int32) (v2 : Int32) (v3 : Int32) : Option (Int32 × ai_H) :=
  r4 h v0 v1 v2 (v3 + 1)
theorem sX9_sets_37 {n : Nat} {r4 : ai_H → Nat → Int32 → Int32 → Int32 → Option (Int32 × ai_H)} {q : Int32 × ai_H} {h : ai_H} {v0 : Nat} {v1 : Int32} {v2 : Int32} {v3 : Int32} {lv : ai_L} (R4 : ∀ (h : ai_H) (v0 : Nat) (v1 : Int32) (v2 : Int32) (v3 : Int32) (lv : ai_L), ai_ld 0 lv = some (.ref v0) → ai_ld 1 lv = some (.int v1) → ai_ld 2 lv = some (.int v2) → ai_ld 3 lv = some (.int v3) → r4 h v0 v1 v2 v3 = some q → bi_go 3 tX9_sets n (fI n q) 4 lv [] h) (l0 : ai_ld 0 lv = some (.ref v0)) (l1 : ai_ld 1 lv = some (.int v1)) (l2 : ai_ld 2 lv = some (.int v2)) (l3 : ai_ld 3 lv = some (.int v3)) (hh : fX9_sets_37 n r4 h v0 v1 v2 v3 = some q) : bi_go 3 tX9_sets n (fI n q) 37 lv [] h := by
  unfold fX9_sets_37 at hh
  refine go_inc (pc := 37) rfl l3 ?_
  refine go_goto (pc := 40) rfl ?_
  exact R4 _ _ _ _ _ _ (bi_k1 l0 rfl rfl) (bi_k1 l1 rfl rfl) (bi_k1 l2 rfl rfl) bi_e1 hh
def fX9_sets_4b (n : Nat) (r4 : ai_H → Nat → Int32 → Int32 → Int32 → Option (Int32 × ai_H)) (h : ai_H) (v0 : Nat) (v1 : Int32) (v2 : Int32) (v3 : Int32) : Option (Int32 × ai_H) :=
  (pR n h v0 8 0).bind fun x1 =>
  (pI n h x1 6 4).bind fun x2 =>
  if x2 ≤ v3 then (
    some (v2, h))
  else (
    (fX9_spread n h v0 v3 v1).bind fun q3 =>
    if ¬ (q3.1 &&& (((1 : Int32) <<< (v3 &&& 31)) - (1 : Int32))) = 0 then (
      fX9_sets_37 n r4 q3.2 v0 v1 v2 v3)
    else (
      fX9_sets_37 n r4 q3.2 v0 v1 (v2 + 1) v3))
theorem sX9_sets_4b {n : Nat} {r4 : ai_H → Nat → Int32 → Int32 → Int32 → Option (Int32 × ai_H)} {q : Int32 × ai_H} {h : ai_H} {v0 : Nat} {v1 : Int32} {v2 : Int32} {v3 : Int32} {lv : ai_L} (R4 : ∀ (h : ai_H) (v0 : Nat) (v1 : Int32) (v2 : Int32) (v3 : Int32) (lv : ai_L), ai_ld 0 lv = some (.ref v0) → ai_ld 1 lv = some (.int v1) → ai_ld 2 lv = some (.int v2) → ai_ld 3 lv = some (.int v3) → r4 h v0 v1 v2 v3 = some q → bi_go 3 tX9_sets n (fI n q) 4 lv [] h) (l0 : ai_ld 0 lv = some (.ref v0)) (l1 : ai_ld 1 lv = some (.int v1)) (l2 : ai_ld 2 lv = some (.int v2)) (l3 : ai_ld 3 lv = some (.int v3)) (hh : fX9_sets_4b n r4 h v0 v1 v2 v3 = some q) : bi_go 3 tX9_sets n (fI n q) 4 lv [] h := by
  unfold fX9_sets_4b at hh
  refine go_il (pc := 4) rfl l3 ?_
  refine go_al (pc := 5) rfl l0 ?_
  obtain ⟨x1, ex1, hh⟩ := bi_bd hh
  refine go_gfR (pc := 6) rfl ex1 ?_
  obtain ⟨x2, ex2, hh⟩ := bi_bd hh
  refine go_gfI (pc := 9) rfl ex2 ?_
  refine bi_ite hh (fun hc hh => ?_) (fun hc hh => ?_)
  · refine go_cmpgeT (pc := 12) rfl hc ?_
    refine go_il (pc := 43) rfl l2 ?_
    exact go_ri (pc := 44) rfl hh
  · refine go_cmpgeF (pc := 12) rfl hc ?_
    refine go_pi (pc := 15) rfl ?_
    refine go_il (pc := 16) rfl l3 ?_
    refine go_ishl (pc := 17) rfl ?_
    refine go_pi (pc := 18) rfl ?_
    refine go_isub (pc := 19) rfl ?_
    refine go_is (pc := 20) rfl ?_
    refine go_al (pc := 22) rfl (bi_k1 l0 rfl rfl) ?_
    refine go_il (pc := 23) rfl (bi_k1 l3 rfl rfl) ?_
    refine go_il (pc := 24) rfl (bi_k1 l1 rfl rfl) ?_
    obtain ⟨q3, eq3, hh⟩ := bi_bd hh
    refine go_iSI (pc := 25) rfl (Nat.le_of_ble_eq_true rfl) rfl (Nat.le_of_ble_eq_true rfl) (bi_up (sX9_spread eq3) (Nat.le_of_ble_eq_true rfl)) ?_
    refine go_il (pc := 28) rfl bi_e1 ?_
    refine go_iand (pc := 30) rfl ?_
    refine bi_ite hh (fun hc hh => ?_) (fun hc hh => ?_)
    · refine go_ifneT (pc := 31) rfl hc ?_
      exact sX9_sets_37 R4 (bi_k1 l0 rfl rfl) (bi_k1 l1 rfl rfl) (bi_k1 l2 rfl rfl) (bi_k1 l3 rfl rfl) hh
    · refine go_ifneF (pc := 31) rfl hc ?_
      refine go_inc (pc := 34) rfl (bi_k1 l2 rfl rfl) ?_
      exact sX9_sets_37 R4 (bi_k1 (bi_k1 l0 rfl rfl) rfl rfl) (bi_k1 (bi_k1 l1 rfl rfl) rfl rfl) bi_e1 (bi_k1 (bi_k1 l3 rfl rfl) rfl rfl) hh
def fX9_sets_4 (n : Nat) : Nat → ai_H → Nat → Int32 → Int32 → Int32 → Option (Int32 × ai_H)
  | 0 => fun _ _ _ _ _ => none
  | k + 1 => fun h v0 v1 v2 v3 => fX9_sets_4b n (fX9_sets_4 n k) h v0 v1 v2 v3
theorem sX9_sets_4 {n : Nat} {q : Int32 × ai_H} : ∀ (k : Nat) (h : ai_H) (v0 : Nat) (v1 : Int32) (v2 : Int32) (v3 : Int32) (lv : ai_L), ai_ld 0 lv = some (.ref v0) → ai_ld 1 lv = some (.int v1) → ai_ld 2 lv = some (.int v2) → ai_ld 3 lv = some (.int v3) → fX9_sets_4 n k h v0 v1 v2 v3 = some q → bi_go 3 tX9_sets n (fI n q) 4 lv [] h
  | 0 => fun _ _ _ _ _ _ _ _ _ _ hh => by cases hh
  | k + 1 => fun h v0 v1 v2 v3 lv l0 l1 l2 l3 hh => sX9_sets_4b  (sX9_sets_4  k) l0 l1 l2 l3 hh
def fX9_sets (n : Nat) (h : ai_H) (a0 : Nat) (a1 : Int32) : Option (Int32 × ai_H) :=
  fX9_sets_4 n bi_K h a0 a1 (0 : Int32) (0 : Int32)
theorem sX9_sets {n : Nat} {h : ai_H} {a0 : Nat} {a1 : Int32} {q : Int32 × ai_H} (hh : fX9_sets n h a0 a1 = some q) : bi_sp 4 75 [.ref a0, .int a1] h n (fI n q) := by
  refine bi_en (D := 3) (T := tX9_sets) (funext fun pc => rfl) rfl (Nat.le_of_ble_eq_true rfl) ?_
  unfold fX9_sets at hh
  refine go_pi (pc := 0) rfl ?_
  refine go_is (pc := 1) rfl ?_
  refine go_pi (pc := 2) rfl ?_
  refine go_is (pc := 3) rfl ?_
  exact sX9_sets_4  _ _ _ _ _ _ _ (bi_k1 (bi_k1 (rfl : ai_ld 0 (lv_args 0 [.ref a0, .int a1]) = some (.ref a0)) rfl rfl) rfl rfl) (bi_k1 (bi_k1 (rfl : ai_ld 1 (lv_args 0 [.ref a0, .int a1]) = some (.int a1)) rfl rfl) rfl rfl) (bi_k1 bi_e1 rfl rfl) bi_e1 hh
def fJ6_bitCount_0f7a4 (n : Nat) (h : ai_H) (a0 : Int32) : Option (Int32 × ai_H) :=
  some ((((((((a0 - (((a0.toUInt32 >>> ((1 : Int32).toUInt32 &&& Int32.toUInt32 31)).toInt32) &&& (1431655765 : Int32))) &&& (858993459 : Int32)) + ((((a0 - (((a0.toUInt32 >>> ((1 : Int32).toUInt32 &&& Int32.toUInt32 31)).toInt32) &&& (1431655765 : Int32))).toUInt32 >>> ((2 : Int32).toUInt32 &&& Int32.toUInt32 31)).toInt32) &&& (858993459 : Int32))) + (((((a0 - (((a0.toUInt32 >>> ((1 : Int32).toUInt32 &&& Int32.toUInt32 31)).toInt32) &&& (1431655765 : Int32))) &&& (858993459 : Int32)) + ((((a0 - (((a0.toUInt32 >>> ((1 : Int32).toUInt32 &&& Int32.toUInt32 31)).toInt32) &&& (1431655765 : Int32))).toUInt32 >>> ((2 : Int32).toUInt32 &&& Int32.toUInt32 31)).toInt32) &&& (858993459 : Int32))).toUInt32 >>> ((4 : Int32).toUInt32 &&& Int32.toUInt32 31)).toInt32)) &&& (252645135 : Int32)) + (((((((a0 - (((a0.toUInt32 >>> ((1 : Int32).toUInt32 &&& Int32.toUInt32 31)).toInt32) &&& (1431655765 : Int32))) &&& (858993459 : Int32)) + ((((a0 - (((a0.toUInt32 >>> ((1 : Int32).toUInt32 &&& Int32.toUInt32 31)).toInt32) &&& (1431655765 : Int32))).toUInt32 >>> ((2 : Int32).toUInt32 &&& Int32.toUInt32 31)).toInt32) &&& (858993459 : Int32))) + (((((a0 - (((a0.toUInt32 >>> ((1 : Int32).toUInt32 &&& Int32.toUInt32 31)).toInt32) &&& (1431655765 : Int32))) &&& (858993459 : Int32)) + ((((a0 - (((a0.toUInt32 >>> ((1 : Int32).toUInt32 &&& Int32.toUInt32 31)).toInt32) &&& (1431655765 : Int32))).toUInt32 >>> ((2 : Int32).toUInt32 &&& Int32.toUInt32 31)).toInt32) &&& (858993459 : Int32))).toUInt32 >>> ((4 : Int32).toUInt32 &&& Int32.toUInt32 31)).toInt32)) &&& (252645135 : Int32)).toUInt32 >>> ((8 : Int32).toUInt32 &&& Int32.toUInt32 31)).toInt32)) + ((((((((a0 - (((a0.toUInt32 >>> ((1 : Int32).toUInt32 &&& Int32.toUInt32 31)).toInt32) &&& (1431655765 : Int32))) &&& (858993459 : Int32)) + ((((a0 - (((a0.toUInt32 >>> ((1 : Int32).toUInt32 &&& Int32.toUInt32 31)).toInt32) &&& (1431655765 : Int32))).toUInt32 >>> ((2 : Int32).toUInt32 &&& Int32.toUInt32 31)).toInt32) &&& (858993459 : Int32))) + (((((a0 - (((a0.toUInt32 >>> ((1 : Int32).toUInt32 &&& Int32.toUInt32 31)).toInt32) &&& (1431655765 : Int32))) &&& (858993459 : Int32)) + ((((a0 - (((a0.toUInt32 >>> ((1 : Int32).toUInt32 &&& Int32.toUInt32 31)).toInt32) &&& (1431655765 : Int32))).toUInt32 >>> ((2 : Int32).toUInt32 &&& Int32.toUInt32 31)).toInt32) &&& (858993459 : Int32))).toUInt32 >>> ((4 : Int32).toUInt32 &&& Int32.toUInt32 31)).toInt32)) &&& (252645135 : Int32)) + (((((((a0 - (((a0.toUInt32 >>> ((1 : Int32).toUInt32 &&& Int32.toUInt32 31)).toInt32) &&& (1431655765 : Int32))) &&& (858993459 : Int32)) + ((((a0 - (((a0.toUInt32 >>> ((1 : Int32).toUInt32 &&& Int32.toUInt32 31)).toInt32) &&& (1431655765 : Int32))).toUInt32 >>> ((2 : Int32).toUInt32 &&& Int32.toUInt32 31)).toInt32) &&& (858993459 : Int32))) + (((((a0 - (((a0.toUInt32 >>> ((1 : Int32).toUInt32 &&& Int32.toUInt32 31)).toInt32) &&& (1431655765 : Int32))) &&& (858993459 : Int32)) + ((((a0 - (((a0.toUInt32 >>> ((1 : Int32).toUInt32 &&& Int32.toUInt32 31)).toInt32) &&& (1431655765 : Int32))).toUInt32 >>> ((2 : Int32).toUInt32 &&& Int32.toUInt32 31)).toInt32) &&& (858993459 : Int32))).toUInt32 >>> ((4 : Int32).toUInt32 &&& Int32.toUInt32 31)).toInt32)) &&& (252645135 : Int32)).toUInt32 >>> ((8 : Int32).toUInt32 &&& Int32.toUInt32 31)).toInt32)).toUInt32 >>> ((16 : Int32).toUInt32 &&& Int32.toUInt32 31)).toInt32)) &&& (63 : Int32), h)
theorem sJ6_bitCount_0f7a4 {n : Nat} {h : ai_H} {a0 : Int32} {q : Int32 × ai_H} (hh : fJ6_bitCount_0f7a4 n h a0 = some q) : bi_sp 1 267 [.int a0] h n (fI n q) := by
  refine bi_en (D := 0) (T := tJ6_bitCount_0f7a4) (funext fun pc => rfl) rfl (Nat.le_of_ble_eq_true rfl) ?_
  unfold fJ6_bitCount_0f7a4 at hh
  refine go_il (pc := 0) rfl (rfl : ai_ld 0 (lv_args 0 [.int a0]) = some (.int a0)) ?_
  refine go_il (pc := 1) rfl (rfl : ai_ld 0 (lv_args 0 [.int a0]) = some (.int a0)) ?_
  refine go_pi (pc := 2) rfl ?_
  refine go_iushr (pc := 3) rfl ?_
  refine go_pi (pc := 4) rfl ?_
  refine go_iand (pc := 7) rfl ?_
  refine go_isub (pc := 8) rfl ?_
  refine go_is (pc := 9) rfl ?_
  refine go_il (pc := 10) rfl bi_e1 ?_
  refine go_pi (pc := 11) rfl ?_
  refine go_iand (pc := 14) rfl ?_
  refine go_il (pc := 15) rfl bi_e1 ?_
  refine go_pi (pc := 16) rfl ?_
  refine go_iushr (pc := 17) rfl ?_
  refine go_pi (pc := 18) rfl ?_
  refine go_iand (pc := 21) rfl ?_
  refine go_iadd (pc := 22) rfl ?_
  refine go_is (pc := 23) rfl ?_
  refine go_il (pc := 24) rfl bi_e1 ?_
  refine go_il (pc := 25) rfl bi_e1 ?_
  refine go_pi (pc := 26) rfl ?_
  refine go_iushr (pc := 27) rfl ?_
  refine go_iadd (pc := 28) rfl ?_
  refine go_pi (pc := 29) rfl ?_
  refine go_iand (pc := 32) rfl ?_
  refine go_is (pc := 33) rfl ?_
  refine go_il (pc := 34) rfl bi_e1 ?_
  refine go_il (pc := 35) rfl bi_e1 ?_
  refine go_pi (pc := 36) rfl ?_
  refine go_iushr (pc := 38) rfl ?_
  refine go_iadd (pc := 39) rfl ?_
  refine go_is (pc := 40) rfl ?_
  refine go_il (pc := 41) rfl bi_e1 ?_
  refine go_il (pc := 42) rfl bi_e1 ?_
  refine go_pi (pc := 43) rfl ?_
  refine go_iushr (pc := 45) rfl ?_
  refine go_iadd (pc := 46) rfl ?_
  refine go_is (pc := 47) rfl ?_
  refine go_il (pc := 48) rfl bi_e1 ?_
  refine go_pi (pc := 49) rfl ?_
  refine go_iand (pc := 51) rfl ?_
  exact go_ri (pc := 52) rfl hh
def fX9_pairs_4b (n : Nat) (r4 : ai_H → Nat → Int32 → Int32 → Int32 → Option (Int32 × ai_H)) (h : ai_H) (v0 : Nat) (v1 : Int32) (v2 : Int32) (v3 : Int32) : Option (Int32 × ai_H) :=
  (pR n h v0 8 0).bind fun x1 =>
  (pI n h x1 6 4).bind fun x2 =>
  if x2 ≤ v3 then (
    (dI v2 (2 : Int32)).bind fun x3 =>
    some (x3, h))
  else (
    (fX9_spread n h v0 v3 v1).bind fun q4 =>
    (fJ6_bitCount_0f7a4 n q4.2 q4.1).bind fun q5 =>
    r4 q5.2 v0 v1 (v2 + (q5.1 - (1 : Int32))) (v3 + 1))
theorem sX9_pairs_4b {n : Nat} {r4 : ai_H → Nat → Int32 → Int32 → Int32 → Option (Int32 × ai_H)} {q : Int32 × ai_H} {h : ai_H} {v0 : Nat} {v1 : Int32} {v2 : Int32} {v3 : Int32} {lv : ai_L} (R4 : ∀ (h : ai_H) (v0 : Nat) (v1 : Int32) (v2 : Int32) (v3 : Int32) (lv : ai_L), ai_ld 0 lv = some (.ref v0) → ai_ld 1 lv = some (.int v1) → ai_ld 2 lv = some (.int v2) → ai_ld 3 lv = some (.int v3) → r4 h v0 v1 v2 v3 = some q → bi_go 3 tX9_pairs n (fI n q) 4 lv [] h) (l0 : ai_ld 0 lv = some (.ref v0)) (l1 : ai_ld 1 lv = some (.int v1)) (l2 : ai_ld 2 lv = some (.int v2)) (l3 : ai_ld 3 lv = some (.int v3)) (hh : fX9_pairs_4b n r4 h v0 v1 v2 v3 = some q) : bi_go 3 tX9_pairs n (fI n q) 4 lv [] h := by
  unfold fX9_pairs_4b at hh
  refine go_il (pc := 4) rfl l3 ?_
  refine go_al (pc := 5) rfl l0 ?_
  obtain ⟨x1, ex1, hh⟩ := bi_bd hh
  refine go_gfR (pc := 6) rfl ex1 ?_
  obtain ⟨x2, ex2, hh⟩ := bi_bd hh
  refine go_gfI (pc := 9) rfl ex2 ?_
  refine bi_ite hh (fun hc hh => ?_) (fun hc hh => ?_)
  · refine go_cmpgeT (pc := 12) rfl hc ?_
    refine go_il (pc := 35) rfl l2 ?_
    refine go_pi (pc := 36) rfl ?_
    obtain ⟨x3, ex3, hh⟩ := bi_bd hh
    refine go_idiv (pc := 37) rfl ex3 ?_
    exact go_ri (pc := 38) rfl hh
  · refine go_cmpgeF (pc := 12) rfl hc ?_
    refine go_il (pc := 15) rfl l2 ?_
    refine go_al (pc := 16) rfl l0 ?_
    refine go_il (pc := 17) rfl l3 ?_
    refine go_il (pc := 18) rfl l1 ?_
    obtain ⟨q4, eq4, hh⟩ := bi_bd hh
    refine go_iSI (pc := 19) rfl (Nat.le_of_ble_eq_true rfl) rfl (Nat.le_of_ble_eq_true rfl) (bi_up (sX9_spread eq4) (Nat.le_of_ble_eq_true rfl)) ?_
    obtain ⟨q5, eq5, hh⟩ := bi_bd hh
    refine go_iSI (pc := 22) rfl (Nat.le_of_ble_eq_true rfl) rfl (Nat.le_of_ble_eq_true rfl) (bi_up (sJ6_bitCount_0f7a4 eq5) (Nat.le_of_ble_eq_true rfl)) ?_
    refine go_pi (pc := 25) rfl ?_
    refine go_isub (pc := 26) rfl ?_
    refine go_iadd (pc := 27) rfl ?_
    refine go_is (pc := 28) rfl ?_
    refine go_inc (pc := 29) rfl (bi_k1 l3 rfl rfl) ?_
    refine go_goto (pc := 32) rfl ?_
    exact R4 _ _ _ _ _ _ (bi_k1 (bi_k1 l0 rfl rfl) rfl rfl) (bi_k1 (bi_k1 l1 rfl rfl) rfl rfl) (bi_k1 bi_e1 rfl rfl) bi_e1 hh
def fX9_pairs_4 (n : Nat) : Nat → ai_H → Nat → Int32 → Int32 → Int32 → Option (Int32 × ai_H)
  | 0 => fun _ _ _ _ _ => none
  | k + 1 => fun h v0 v1 v2 v3 => fX9_pairs_4b n (fX9_pairs_4 n k) h v0 v1 v2 v3
theorem sX9_pairs_4 {n : Nat} {q : Int32 × ai_H} : ∀ (k : Nat) (h : ai_H) (v0 : Nat) (v1 : Int32) (v2 : Int32) (v3 : Int32) (lv : ai_L), ai_ld 0 lv = some (.ref v0) → ai_ld 1 lv = some (.int v1) → ai_ld 2 lv = some (.int v2) → ai_ld 3 lv = some (.int v3) → fX9_pairs_4 n k h v0 v1 v2 v3 = some q → bi_go 3 tX9_pairs n (fI n q) 4 lv [] h
  | 0 => fun _ _ _ _ _ _ _ _ _ _ hh => by cases hh
  | k + 1 => fun h v0 v1 v2 v3 lv l0 l1 l2 l3 hh => sX9_pairs_4b  (sX9_pairs_4  k) l0 l1 l2 l3 hh
def fX9_pairs (n : Nat) (h : ai_H) (a0 : Nat) (a1 : Int32) : Option (Int32 × ai_H) :=
  fX9_pairs_4 n bi_K h a0 a1 (0 : Int32) (0 : Int32)
theorem sX9_pairs {n : Nat} {h : ai_H} {a0 : Nat} {a1 : Int32} {q : Int32 × ai_H} (hh : fX9_pairs n h a0 a1 = some q) : bi_sp 4 76 [.ref a0, .int a1] h n (fI n q) := by
  refine bi_en (D := 3) (T := tX9_pairs) (funext fun pc => rfl) rfl (Nat.le_of_ble_eq_true rfl) ?_
  unfold fX9_pairs at hh
  refine go_pi (pc := 0) rfl ?_
  refine go_is (pc := 1) rfl ?_
  refine go_pi (pc := 2) rfl ?_
  refine go_is (pc := 3) rfl ?_
  exact sX9_pairs_4  _ _ _ _ _ _ _ (bi_k1 (bi_k1 (rfl : ai_ld 0 (lv_args 0 [.ref a0, .int a1]) = some (.ref a0)) rfl rfl) rfl rfl) (bi_k1 (bi_k1 (rfl : ai_ld 1 (lv_args 0 [.ref a0, .int a1]) = some (.int a1)) rfl rfl) rfl rfl) (bi_k1 bi_e1 rfl rfl) bi_e1 hh
def fX9_endsOfAll_31 (n : Nat) (r4 : ai_H → Nat → Int32 → Int32 → Int32 → Option (Int32 × ai_H)) (h : ai_H) (v0 : Nat) (v1 : Int32) (v2 : Int32) (v3 : Int32) : Option (Int32 × ai_H) :=
  r4 h v0 v1 v2 (v3 + 1)
theorem sX9_endsOfAll_31 {n : Nat} {r4 : ai_H → Nat → Int32 → Int32 → Int32 → Option (Int32 × ai_H)} {q : Int32 × ai_H} {h : ai_H} {v0 : Nat} {v1 : Int32} {v2 : Int32} {v3 : Int32} {lv : ai_L} (R4 : ∀ (h : ai_H) (v0 : Nat) (v1 : Int32) (v2 : Int32) (v3 : Int32) (lv : ai_L), ai_ld 0 lv = some (.ref v0) → ai_ld 1 lv = some (.int v1) → ai_ld 2 lv = some (.int v2) → ai_ld 3 lv = some (.int v3) → r4 h v0 v1 v2 v3 = some q → bi_go 2 tX9_endsOfAll n (fI n q) 4 lv [] h) (l0 : ai_ld 0 lv = some (.ref v0)) (l1 : ai_ld 1 lv = some (.int v1)) (l2 : ai_ld 2 lv = some (.int v2)) (l3 : ai_ld 3 lv = some (.int v3)) (hh : fX9_endsOfAll_31 n r4 h v0 v1 v2 v3 = some q) : bi_go 2 tX9_endsOfAll n (fI n q) 31 lv [] h := by
  unfold fX9_endsOfAll_31 at hh
  refine go_inc (pc := 31) rfl l3 ?_
  refine go_goto (pc := 34) rfl ?_
  exact R4 _ _ _ _ _ _ (bi_k1 l0 rfl rfl) (bi_k1 l1 rfl rfl) (bi_k1 l2 rfl rfl) bi_e1 hh
def fX9_endsOfAll_4b (n : Nat) (r4 : ai_H → Nat → Int32 → Int32 → Int32 → Option (Int32 × ai_H)) (h : ai_H) (v0 : Nat) (v1 : Int32) (v2 : Int32) (v3 : Int32) : Option (Int32 × ai_H) :=
  (pR n h v0 8 1).bind fun x1 =>
  (pI n h x1 6 4).bind fun x2 =>
  if x2 ≤ v3 then (
    some (v2, h))
  else (
    if ((v1 >>> (v3 &&& 31)) &&& (1 : Int32)) = 0 then (
      fX9_endsOfAll_31 n r4 h v0 v1 v2 v3)
    else (
      (fX8_ends n h v0 v3).bind fun q3 =>
      fX9_endsOfAll_31 n r4 q3.2 v0 v1 (v2 ||| q3.1) v3))
theorem sX9_endsOfAll_4b {n : Nat} {r4 : ai_H → Nat → Int32 → Int32 → Int32 → Option (Int32 × ai_H)} {q : Int32 × ai_H} {h : ai_H} {v0 : Nat} {v1 : Int32} {v2 : Int32} {v3 : Int32} {lv : ai_L} (R4 : ∀ (h : ai_H) (v0 : Nat) (v1 : Int32) (v2 : Int32) (v3 : Int32) (lv : ai_L), ai_ld 0 lv = some (.ref v0) → ai_ld 1 lv = some (.int v1) → ai_ld 2 lv = some (.int v2) → ai_ld 3 lv = some (.int v3) → r4 h v0 v1 v2 v3 = some q → bi_go 2 tX9_endsOfAll n (fI n q) 4 lv [] h) (l0 : ai_ld 0 lv = some (.ref v0)) (l1 : ai_ld 1 lv = some (.int v1)) (l2 : ai_ld 2 lv = some (.int v2)) (l3 : ai_ld 3 lv = some (.int v3)) (hh : fX9_endsOfAll_4b n r4 h v0 v1 v2 v3 = some q) : bi_go 2 tX9_endsOfAll n (fI n q) 4 lv [] h := by
  unfold fX9_endsOfAll_4b at hh
  refine go_il (pc := 4) rfl l3 ?_
  refine go_al (pc := 5) rfl l0 ?_
  obtain ⟨x1, ex1, hh⟩ := bi_bd hh
  refine go_gfR (pc := 6) rfl ex1 ?_
  obtain ⟨x2, ex2, hh⟩ := bi_bd hh
  refine go_gfI (pc := 9) rfl ex2 ?_
  refine bi_ite hh (fun hc hh => ?_) (fun hc hh => ?_)
  · refine go_cmpgeT (pc := 12) rfl hc ?_
    refine go_il (pc := 37) rfl l2 ?_
    exact go_ri (pc := 38) rfl hh
  · refine go_cmpgeF (pc := 12) rfl hc ?_
    refine go_il (pc := 15) rfl l1 ?_
    refine go_il (pc := 16) rfl l3 ?_
    refine go_ishr (pc := 17) rfl ?_
    refine go_pi (pc := 18) rfl ?_
    refine go_iand (pc := 19) rfl ?_
    refine bi_ite hh (fun hc hh => ?_) (fun hc hh => ?_)
    · refine go_ifeqT (pc := 20) rfl hc ?_
      exact sX9_endsOfAll_31 R4 l0 l1 l2 l3 hh
    · refine go_ifeqF (pc := 20) rfl hc ?_
      refine go_il (pc := 23) rfl l2 ?_
      refine go_al (pc := 24) rfl l0 ?_
      refine go_il (pc := 25) rfl l3 ?_
      obtain ⟨q3, eq3, hh⟩ := bi_bd hh
      refine go_ivI (pc := 26) rfl rfl (gX8_ends eq3) (Nat.le_of_ble_eq_true rfl) (bi_up (sX8_ends eq3) (Nat.le_of_ble_eq_true rfl)) ?_
      refine go_ior (pc := 29) rfl ?_
      refine go_is (pc := 30) rfl ?_
      exact sX9_endsOfAll_31 R4 (bi_k1 l0 rfl rfl) (bi_k1 l1 rfl rfl) bi_e1 (bi_k1 l3 rfl rfl) hh
def fX9_endsOfAll_4 (n : Nat) : Nat → ai_H → Nat → Int32 → Int32 → Int32 → Option (Int32 × ai_H)
  | 0 => fun _ _ _ _ _ => none
  | k + 1 => fun h v0 v1 v2 v3 => fX9_endsOfAll_4b n (fX9_endsOfAll_4 n k) h v0 v1 v2 v3
theorem sX9_endsOfAll_4 {n : Nat} {q : Int32 × ai_H} : ∀ (k : Nat) (h : ai_H) (v0 : Nat) (v1 : Int32) (v2 : Int32) (v3 : Int32) (lv : ai_L), ai_ld 0 lv = some (.ref v0) → ai_ld 1 lv = some (.int v1) → ai_ld 2 lv = some (.int v2) → ai_ld 3 lv = some (.int v3) → fX9_endsOfAll_4 n k h v0 v1 v2 v3 = some q → bi_go 2 tX9_endsOfAll n (fI n q) 4 lv [] h
  | 0 => fun _ _ _ _ _ _ _ _ _ _ hh => by cases hh
  | k + 1 => fun h v0 v1 v2 v3 lv l0 l1 l2 l3 hh => sX9_endsOfAll_4b  (sX9_endsOfAll_4  k) l0 l1 l2 l3 hh
def fX9_endsOfAll (n : Nat) (h : ai_H) (a0 : Nat) (a1 : Int32) : Option (Int32 × ai_H) :=
  fX9_endsOfAll_4 n bi_K h a0 a1 (0 : Int32) (0 : Int32)
theorem sX9_endsOfAll {n : Nat} {h : ai_H} {a0 : Nat} {a1 : Int32} {q : Int32 × ai_H} (hh : fX9_endsOfAll n h a0 a1 = some q) : bi_sp 3 78 [.ref a0, .int a1] h n (fI n q) := by
  refine bi_en (D := 2) (T := tX9_endsOfAll) (funext fun pc => rfl) rfl (Nat.le_of_ble_eq_true rfl) ?_
  unfold fX9_endsOfAll at hh
  refine go_pi (pc := 0) rfl ?_
  refine go_is (pc := 1) rfl ?_
  refine go_pi (pc := 2) rfl ?_
  refine go_is (pc := 3) rfl ?_
  exact sX9_endsOfAll_4  _ _ _ _ _ _ _ (bi_k1 (bi_k1 (rfl : ai_ld 0 (lv_args 0 [.ref a0, .int a1]) = some (.ref a0)) rfl rfl) rfl rfl) (bi_k1 (bi_k1 (rfl : ai_ld 1 (lv_args 0 [.ref a0, .int a1]) = some (.int a1)) rfl rfl) rfl rfl) (bi_k1 bi_e1 rfl rfl) bi_e1 hh
def fX9_blindEnds_51 (n : Nat) (r4 : ai_H → Nat → Int32 → Int32 → Int32 → Option (Int32 × ai_H)) (h : ai_H) (v0 : Nat) (v1 : Int32) (v2 : Int32) (v3 : Int32) : Option (Int32 × ai_H) :=
  r4 h v0 v1 v2 (v3 + 1)
theorem sX9_blindEnds_51 {n : Nat} {r4 : ai_H → Nat → Int32 → Int32 → Int32 → Option (Int32 × ai_H)} {q : Int32 × ai_H} {h : ai_H} {v0 : Nat} {v1 : Int32} {v2 : Int32} {v3 : Int32} {lv : ai_L} (R4 : ∀ (h : ai_H) (v0 : Nat) (v1 : Int32) (v2 : Int32) (v3 : Int32) (lv : ai_L), ai_ld 0 lv = some (.ref v0) → ai_ld 1 lv = some (.int v1) → ai_ld 2 lv = some (.int v2) → ai_ld 3 lv = some (.int v3) → r4 h v0 v1 v2 v3 = some q → bi_go 3 tX9_blindEnds n (fI n q) 4 lv [] h) (l0 : ai_ld 0 lv = some (.ref v0)) (l1 : ai_ld 1 lv = some (.int v1)) (l2 : ai_ld 2 lv = some (.int v2)) (l3 : ai_ld 3 lv = some (.int v3)) (hh : fX9_blindEnds_51 n r4 h v0 v1 v2 v3 = some q) : bi_go 3 tX9_blindEnds n (fI n q) 51 lv [] h := by
  unfold fX9_blindEnds_51 at hh
  refine go_inc (pc := 51) rfl l3 ?_
  refine go_goto (pc := 54) rfl ?_
  exact R4 _ _ _ _ _ _ (bi_k1 l0 rfl rfl) (bi_k1 l1 rfl rfl) (bi_k1 l2 rfl rfl) bi_e1 hh
def fX9_blindEnds_4b (n : Nat) (r4 : ai_H → Nat → Int32 → Int32 → Int32 → Option (Int32 × ai_H)) (h : ai_H) (v0 : Nat) (v1 : Int32) (v2 : Int32) (v3 : Int32) : Option (Int32 × ai_H) :=
  (pR n h v0 8 1).bind fun x1 =>
  (pI n h x1 6 4).bind fun x2 =>
  if x2 ≤ v3 then (
    some (v2, h))
  else (
    if ((v1 >>> (v3 &&& 31)) &&& (1 : Int32)) = 0 then (
      fX9_blindEnds_51 n r4 h v0 v1 v2 v3)
    else (
      (fX8_ends n h v0 v3).bind fun q3 =>
      (fX9_endsOfAll n q3.2 v0 (v1 &&& (((1 : Int32) <<< (v3 &&& 31)) ^^^ (-1 : Int32)))).bind fun q4 =>
      if (q3.1 &&& (q4.1 ^^^ (-1 : Int32))) = 0 then (
        fX9_blindEnds_51 n r4 q4.2 v0 v1 v2 v3)
      else (
        fX9_blindEnds_51 n r4 q4.2 v0 v1 (v2 ||| ((1 : Int32) <<< (v3 &&& 31))) v3)))
theorem sX9_blindEnds_4b {n : Nat} {r4 : ai_H → Nat → Int32 → Int32 → Int32 → Option (Int32 × ai_H)} {q : Int32 × ai_H} {h : ai_H} {v0 : Nat} {v1 : Int32} {v2 : Int32} {v3 : Int32} {lv : ai_L} (R4 : ∀ (h : ai_H) (v0 : Nat) (v1 : Int32) (v2 : Int32) (v3 : Int32) (lv : ai_L), ai_ld 0 lv = some (.ref v0) → ai_ld 1 lv = some (.int v1) → ai_ld 2 lv = some (.int v2) → ai_ld 3 lv = some (.int v3) → r4 h v0 v1 v2 v3 = some q → bi_go 3 tX9_blindEnds n (fI n q) 4 lv [] h) (l0 : ai_ld 0 lv = some (.ref v0)) (l1 : ai_ld 1 lv = some (.int v1)) (l2 : ai_ld 2 lv = some (.int v2)) (l3 : ai_ld 3 lv = some (.int v3)) (hh : fX9_blindEnds_4b n r4 h v0 v1 v2 v3 = some q) : bi_go 3 tX9_blindEnds n (fI n q) 4 lv [] h := by
  unfold fX9_blindEnds_4b at hh
  refine go_il (pc := 4) rfl l3 ?_
  refine go_al (pc := 5) rfl l0 ?_
  obtain ⟨x1, ex1, hh⟩ := bi_bd hh
  refine go_gfR (pc := 6) rfl ex1 ?_
  obtain ⟨x2, ex2, hh⟩ := bi_bd hh
  refine go_gfI (pc := 9) rfl ex2 ?_
  refine bi_ite hh (fun hc hh => ?_) (fun hc hh => ?_)
  · refine go_cmpgeT (pc := 12) rfl hc ?_
    refine go_il (pc := 57) rfl l2 ?_
    exact go_ri (pc := 58) rfl hh
  · refine go_cmpgeF (pc := 12) rfl hc ?_
    refine go_il (pc := 15) rfl l1 ?_
    refine go_il (pc := 16) rfl l3 ?_
    refine go_ishr (pc := 17) rfl ?_
    refine go_pi (pc := 18) rfl ?_
    refine go_iand (pc := 19) rfl ?_
    refine bi_ite hh (fun hc hh => ?_) (fun hc hh => ?_)
    · refine go_ifeqT (pc := 20) rfl hc ?_
      exact sX9_blindEnds_51 R4 l0 l1 l2 l3 hh
    · refine go_ifeqF (pc := 20) rfl hc ?_
      refine go_al (pc := 23) rfl l0 ?_
      refine go_il (pc := 24) rfl l3 ?_
      obtain ⟨q3, eq3, hh⟩ := bi_bd hh
      refine go_ivI (pc := 25) rfl rfl (gX8_ends eq3) (Nat.le_of_ble_eq_true rfl) (bi_up (sX8_ends eq3) (Nat.le_of_ble_eq_true rfl)) ?_
      refine go_al (pc := 28) rfl l0 ?_
      refine go_il (pc := 29) rfl l1 ?_
      refine go_pi (pc := 30) rfl ?_
      refine go_il (pc := 31) rfl l3 ?_
      refine go_ishl (pc := 32) rfl ?_
      refine go_pi (pc := 33) rfl ?_
      refine go_ixor (pc := 34) rfl ?_
      refine go_iand (pc := 35) rfl ?_
      obtain ⟨q4, eq4, hh⟩ := bi_bd hh
      refine go_iSI (pc := 36) rfl (Nat.le_of_ble_eq_true rfl) rfl (Nat.le_of_ble_eq_true rfl) (bi_up (sX9_endsOfAll eq4) (Nat.le_of_ble_eq_true rfl)) ?_
      refine go_pi (pc := 39) rfl ?_
      refine go_ixor (pc := 40) rfl ?_
      refine go_iand (pc := 41) rfl ?_
      refine bi_ite hh (fun hc hh => ?_) (fun hc hh => ?_)
      · refine go_ifeqT (pc := 42) rfl hc ?_
        exact sX9_blindEnds_51 R4 l0 l1 l2 l3 hh
      · refine go_ifeqF (pc := 42) rfl hc ?_
        refine go_il (pc := 45) rfl l2 ?_
        refine go_pi (pc := 46) rfl ?_
        refine go_il (pc := 47) rfl l3 ?_
        refine go_ishl (pc := 48) rfl ?_
        refine go_ior (pc := 49) rfl ?_
        refine go_is (pc := 50) rfl ?_
        exact sX9_blindEnds_51 R4 (bi_k1 l0 rfl rfl) (bi_k1 l1 rfl rfl) bi_e1 (bi_k1 l3 rfl rfl) hh
def fX9_blindEnds_4 (n : Nat) : Nat → ai_H → Nat → Int32 → Int32 → Int32 → Option (Int32 × ai_H)
  | 0 => fun _ _ _ _ _ => none
  | k + 1 => fun h v0 v1 v2 v3 => fX9_blindEnds_4b n (fX9_blindEnds_4 n k) h v0 v1 v2 v3
theorem sX9_blindEnds_4 {n : Nat} {q : Int32 × ai_H} : ∀ (k : Nat) (h : ai_H) (v0 : Nat) (v1 : Int32) (v2 : Int32) (v3 : Int32) (lv : ai_L), ai_ld 0 lv = some (.ref v0) → ai_ld 1 lv = some (.int v1) → ai_ld 2 lv = some (.int v2) → ai_ld 3 lv = some (.int v3) → fX9_blindEnds_4 n k h v0 v1 v2 v3 = some q → bi_go 3 tX9_blindEnds n (fI n q) 4 lv [] h
  | 0 => fun _ _ _ _ _ _ _ _ _ _ hh => by cases hh
  | k + 1 => fun h v0 v1 v2 v3 lv l0 l1 l2 l3 hh => sX9_blindEnds_4b  (sX9_blindEnds_4  k) l0 l1 l2 l3 hh
def fX9_blindEnds (n : Nat) (h : ai_H) (a0 : Nat) (a1 : Int32) : Option (Int32 × ai_H) :=
  fX9_blindEnds_4 n bi_K h a0 a1 (0 : Int32) (0 : Int32)
theorem sX9_blindEnds {n : Nat} {h : ai_H} {a0 : Nat} {a1 : Int32} {q : Int32 × ai_H} (hh : fX9_blindEnds n h a0 a1 = some q) : bi_sp 4 77 [.ref a0, .int a1] h n (fI n q) := by
  refine bi_en (D := 3) (T := tX9_blindEnds) (funext fun pc => rfl) rfl (Nat.le_of_ble_eq_true rfl) ?_
  unfold fX9_blindEnds at hh
  refine go_pi (pc := 0) rfl ?_
  refine go_is (pc := 1) rfl ?_
  refine go_pi (pc := 2) rfl ?_
  refine go_is (pc := 3) rfl ?_
  exact sX9_blindEnds_4  _ _ _ _ _ _ _ (bi_k1 (bi_k1 (rfl : ai_ld 0 (lv_args 0 [.ref a0, .int a1]) = some (.ref a0)) rfl rfl) rfl rfl) (bi_k1 (bi_k1 (rfl : ai_ld 1 (lv_args 0 [.ref a0, .int a1]) = some (.int a1)) rfl rfl) rfl rfl) (bi_k1 bi_e1 rfl rfl) bi_e1 hh
def fX9_isWatched_33 (n : Nat) (r2 : ai_H → Nat → Int32 → Int32 → Int32 → Option (Int32 × ai_H)) (h : ai_H) (v0 : Nat) (v1 : Int32) (v2 : Int32) (v3 : Int32) : Option (Int32 × ai_H) :=
  r2 h v0 v1 v2 (v3 + 1)
theorem sX9_isWatched_33 {n : Nat} {r2 : ai_H → Nat → Int32 → Int32 → Int32 → Option (Int32 × ai_H)} {q : Int32 × ai_H} {h : ai_H} {v0 : Nat} {v1 : Int32} {v2 : Int32} {v3 : Int32} {lv : ai_L} (R2 : ∀ (h : ai_H) (v0 : Nat) (v1 : Int32) (v2 : Int32) (v3 : Int32) (lv : ai_L), ai_ld 0 lv = some (.ref v0) → ai_ld 1 lv = some (.int v1) → ai_ld 2 lv = some (.int v2) → ai_ld 3 lv = some (.int v3) → r2 h v0 v1 v2 v3 = some q → bi_go 2 tX9_isWatched n (fI n q) 2 lv [] h) (l0 : ai_ld 0 lv = some (.ref v0)) (l1 : ai_ld 1 lv = some (.int v1)) (l2 : ai_ld 2 lv = some (.int v2)) (l3 : ai_ld 3 lv = some (.int v3)) (hh : fX9_isWatched_33 n r2 h v0 v1 v2 v3 = some q) : bi_go 2 tX9_isWatched n (fI n q) 33 lv [] h := by
  unfold fX9_isWatched_33 at hh
  refine go_inc (pc := 33) rfl l3 ?_
  refine go_goto (pc := 36) rfl ?_
  exact R2 _ _ _ _ _ _ (bi_k1 l0 rfl rfl) (bi_k1 l1 rfl rfl) (bi_k1 l2 rfl rfl) bi_e1 hh
def fX9_isWatched_2b (n : Nat) (r2 : ai_H → Nat → Int32 → Int32 → Int32 → Option (Int32 × ai_H)) (h : ai_H) (v0 : Nat) (v1 : Int32) (v2 : Int32) (v3 : Int32) : Option (Int32 × ai_H) :=
  (pR n h v0 8 1).bind fun x1 =>
  (pI n h x1 6 4).bind fun x2 =>
  if x2 ≤ v3 then (
    some ((1 : Int32), h))
  else (
    if ((v1 >>> (v3 &&& 31)) &&& (1 : Int32)) = 0 then (
      fX9_isWatched_33 n r2 h v0 v1 v2 v3)
    else (
      (fX8_ends n h v0 v3).bind fun q3 =>
      if ¬ (q3.1 &&& v2) = 0 then (
        fX9_isWatched_33 n r2 q3.2 v0 v1 v2 v3)
      else (
        some ((0 : Int32), q3.2))))
theorem sX9_isWatched_2b {n : Nat} {r2 : ai_H → Nat → Int32 → Int32 → Int32 → Option (Int32 × ai_H)} {q : Int32 × ai_H} {h : ai_H} {v0 : Nat} {v1 : Int32} {v2 : Int32} {v3 : Int32} {lv : ai_L} (R2 : ∀ (h : ai_H) (v0 : Nat) (v1 : Int32) (v2 : Int32) (v3 : Int32) (lv : ai_L), ai_ld 0 lv = some (.ref v0) → ai_ld 1 lv = some (.int v1) → ai_ld 2 lv = some (.int v2) → ai_ld 3 lv = some (.int v3) → r2 h v0 v1 v2 v3 = some q → bi_go 2 tX9_isWatched n (fI n q) 2 lv [] h) (l0 : ai_ld 0 lv = some (.ref v0)) (l1 : ai_ld 1 lv = some (.int v1)) (l2 : ai_ld 2 lv = some (.int v2)) (l3 : ai_ld 3 lv = some (.int v3)) (hh : fX9_isWatched_2b n r2 h v0 v1 v2 v3 = some q) : bi_go 2 tX9_isWatched n (fI n q) 2 lv [] h := by
  unfold fX9_isWatched_2b at hh
  refine go_il (pc := 2) rfl l3 ?_
  refine go_al (pc := 3) rfl l0 ?_
  obtain ⟨x1, ex1, hh⟩ := bi_bd hh
  refine go_gfR (pc := 4) rfl ex1 ?_
  obtain ⟨x2, ex2, hh⟩ := bi_bd hh
  refine go_gfI (pc := 7) rfl ex2 ?_
  refine bi_ite hh (fun hc hh => ?_) (fun hc hh => ?_)
  · refine go_cmpgeT (pc := 10) rfl hc ?_
    refine go_pi (pc := 39) rfl ?_
    exact go_rz (pc := 40) rfl bi_z1 hh
  · refine go_cmpgeF (pc := 10) rfl hc ?_
    refine go_il (pc := 13) rfl l1 ?_
    refine go_il (pc := 14) rfl l3 ?_
    refine go_ishr (pc := 15) rfl ?_
    refine go_pi (pc := 16) rfl ?_
    refine go_iand (pc := 17) rfl ?_
    refine bi_ite hh (fun hc hh => ?_) (fun hc hh => ?_)
    · refine go_ifeqT (pc := 18) rfl hc ?_
      exact sX9_isWatched_33 R2 l0 l1 l2 l3 hh
    · refine go_ifeqF (pc := 18) rfl hc ?_
      refine go_al (pc := 21) rfl l0 ?_
      refine go_il (pc := 22) rfl l3 ?_
      obtain ⟨q3, eq3, hh⟩ := bi_bd hh
      refine go_ivI (pc := 23) rfl rfl (gX8_ends eq3) (Nat.le_of_ble_eq_true rfl) (bi_up (sX8_ends eq3) (Nat.le_of_ble_eq_true rfl)) ?_
      refine go_il (pc := 26) rfl l2 ?_
      refine go_iand (pc := 27) rfl ?_
      refine bi_ite hh (fun hc hh => ?_) (fun hc hh => ?_)
      · refine go_ifneT (pc := 28) rfl hc ?_
        exact sX9_isWatched_33 R2 l0 l1 l2 l3 hh
      · refine go_ifneF (pc := 28) rfl hc ?_
        refine go_pi (pc := 31) rfl ?_
        exact go_rz (pc := 32) rfl bi_z0 hh
def fX9_isWatched_2 (n : Nat) : Nat → ai_H → Nat → Int32 → Int32 → Int32 → Option (Int32 × ai_H)
  | 0 => fun _ _ _ _ _ => none
  | k + 1 => fun h v0 v1 v2 v3 => fX9_isWatched_2b n (fX9_isWatched_2 n k) h v0 v1 v2 v3
theorem sX9_isWatched_2 {n : Nat} {q : Int32 × ai_H} : ∀ (k : Nat) (h : ai_H) (v0 : Nat) (v1 : Int32) (v2 : Int32) (v3 : Int32) (lv : ai_L), ai_ld 0 lv = some (.ref v0) → ai_ld 1 lv = some (.int v1) → ai_ld 2 lv = some (.int v2) → ai_ld 3 lv = some (.int v3) → fX9_isWatched_2 n k h v0 v1 v2 v3 = some q → bi_go 2 tX9_isWatched n (fI n q) 2 lv [] h
  | 0 => fun _ _ _ _ _ _ _ _ _ _ hh => by cases hh
  | k + 1 => fun h v0 v1 v2 v3 lv l0 l1 l2 l3 hh => sX9_isWatched_2b  (sX9_isWatched_2  k) l0 l1 l2 l3 hh
def fX9_isWatched (n : Nat) (h : ai_H) (a0 : Nat) (a1 : Int32) (a2 : Int32) : Option (Int32 × ai_H) :=
  fX9_isWatched_2 n bi_K h a0 a1 a2 (0 : Int32)
theorem sX9_isWatched {n : Nat} {h : ai_H} {a0 : Nat} {a1 : Int32} {a2 : Int32} {q : Int32 × ai_H} (hh : fX9_isWatched n h a0 a1 a2 = some q) : bi_sp 3 80 [.ref a0, .int a1, .int a2] h n (fI n q) := by
  refine bi_en (D := 2) (T := tX9_isWatched) (funext fun pc => rfl) rfl (Nat.le_of_ble_eq_true rfl) ?_
  unfold fX9_isWatched at hh
  refine go_pi (pc := 0) rfl ?_
  refine go_is (pc := 1) rfl ?_
  exact sX9_isWatched_2  _ _ _ _ _ _ _ (bi_k1 (rfl : ai_ld 0 (lv_args 0 [.ref a0, .int a1, .int a2]) = some (.ref a0)) rfl rfl) (bi_k1 (rfl : ai_ld 1 (lv_args 0 [.ref a0, .int a1, .int a2]) = some (.int a1)) rfl rfl) (bi_k1 (rfl : ai_ld 2 (lv_args 0 [.ref a0, .int a1, .int a2]) = some (.int a2)) rfl rfl) bi_e1 hh
def fX9_fewestWatched_40 (n : Nat) (r14 : ai_H → Nat → Int32 → Int32 → Int32 → Option (Int32 × ai_H)) (h : ai_H) (v0 : Nat) (v1 : Int32) (v2 : Int32) (v3 : Int32) : Option (Int32 × ai_H) :=
  r14 h v0 v1 v2 (v3 + (-1))
theorem sX9_fewestWatched_40 {n : Nat} {r14 : ai_H → Nat → Int32 → Int32 → Int32 → Option (Int32 × ai_H)} {q : Int32 × ai_H} {h : ai_H} {v0 : Nat} {v1 : Int32} {v2 : Int32} {v3 : Int32} {lv : ai_L} (R14 : ∀ (h : ai_H) (v0 : Nat) (v1 : Int32) (v2 : Int32) (v3 : Int32) (lv : ai_L), ai_ld 0 lv = some (.ref v0) → ai_ld 1 lv = some (.int v1) → ai_ld 2 lv = some (.int v2) → ai_ld 3 lv = some (.int v3) → r14 h v0 v1 v2 v3 = some q → bi_go 3 tX9_fewestWatched n (fI n q) 14 lv [] h) (l0 : ai_ld 0 lv = some (.ref v0)) (l1 : ai_ld 1 lv = some (.int v1)) (l2 : ai_ld 2 lv = some (.int v2)) (l3 : ai_ld 3 lv = some (.int v3)) (hh : fX9_fewestWatched_40 n r14 h v0 v1 v2 v3 = some q) : bi_go 3 tX9_fewestWatched n (fI n q) 40 lv [] h := by
  unfold fX9_fewestWatched_40 at hh
  refine go_inc (pc := 40) rfl l3 ?_
  refine go_goto (pc := 43) rfl ?_
  exact R14 _ _ _ _ _ _ (bi_k1 l0 rfl rfl) (bi_k1 l1 rfl rfl) (bi_k1 l2 rfl rfl) bi_e1 hh
def fX9_fewestWatched_14b (n : Nat) (r14 : ai_H → Nat → Int32 → Int32 → Int32 → Option (Int32 × ai_H)) (h : ai_H) (v0 : Nat) (v1 : Int32) (v2 : Int32) (v3 : Int32) : Option (Int32 × ai_H) :=
  if v3 < 0 then (
    some (v2, h))
  else (
    (fJ6_bitCount_0f7a4 n h v3).bind fun q1 =>
    (fJ6_bitCount_0f7a4 n q1.2 v2).bind fun q2 =>
    if q2.1 < q1.1 then (
      fX9_fewestWatched_40 n r14 q2.2 v0 v1 v2 v3)
    else (
      (fX9_isWatched n q2.2 v0 v1 v3).bind fun q3 =>
      if q3.1 = 0 then (
        fX9_fewestWatched_40 n r14 q3.2 v0 v1 v2 v3)
      else (
        fX9_fewestWatched_40 n r14 q3.2 v0 v1 v3 v3)))
theorem sX9_fewestWatched_14b {n : Nat} {r14 : ai_H → Nat → Int32 → Int32 → Int32 → Option (Int32 × ai_H)} {q : Int32 × ai_H} {h : ai_H} {v0 : Nat} {v1 : Int32} {v2 : Int32} {v3 : Int32} {lv : ai_L} (R14 : ∀ (h : ai_H) (v0 : Nat) (v1 : Int32) (v2 : Int32) (v3 : Int32) (lv : ai_L), ai_ld 0 lv = some (.ref v0) → ai_ld 1 lv = some (.int v1) → ai_ld 2 lv = some (.int v2) → ai_ld 3 lv = some (.int v3) → r14 h v0 v1 v2 v3 = some q → bi_go 3 tX9_fewestWatched n (fI n q) 14 lv [] h) (l0 : ai_ld 0 lv = some (.ref v0)) (l1 : ai_ld 1 lv = some (.int v1)) (l2 : ai_ld 2 lv = some (.int v2)) (l3 : ai_ld 3 lv = some (.int v3)) (hh : fX9_fewestWatched_14b n r14 h v0 v1 v2 v3 = some q) : bi_go 3 tX9_fewestWatched n (fI n q) 14 lv [] h := by
  unfold fX9_fewestWatched_14b at hh
  refine go_il (pc := 14) rfl l3 ?_
  refine bi_ite hh (fun hc hh => ?_) (fun hc hh => ?_)
  · refine go_ifltT (pc := 15) rfl hc ?_
    refine go_il (pc := 46) rfl l2 ?_
    exact go_ri (pc := 47) rfl hh
  · refine go_ifltF (pc := 15) rfl hc ?_
    refine go_il (pc := 18) rfl l3 ?_
    obtain ⟨q1, eq1, hh⟩ := bi_bd hh
    refine go_iSI (pc := 19) rfl (Nat.le_of_ble_eq_true rfl) rfl (Nat.le_of_ble_eq_true rfl) (bi_up (sJ6_bitCount_0f7a4 eq1) (Nat.le_of_ble_eq_true rfl)) ?_
    refine go_il (pc := 22) rfl l2 ?_
    obtain ⟨q2, eq2, hh⟩ := bi_bd hh
    refine go_iSI (pc := 23) rfl (Nat.le_of_ble_eq_true rfl) rfl (Nat.le_of_ble_eq_true rfl) (bi_up (sJ6_bitCount_0f7a4 eq2) (Nat.le_of_ble_eq_true rfl)) ?_
    refine bi_ite hh (fun hc hh => ?_) (fun hc hh => ?_)
    · refine go_cmpgtT (pc := 26) rfl hc ?_
      exact sX9_fewestWatched_40 R14 l0 l1 l2 l3 hh
    · refine go_cmpgtF (pc := 26) rfl hc ?_
      refine go_al (pc := 29) rfl l0 ?_
      refine go_il (pc := 30) rfl l1 ?_
      refine go_il (pc := 31) rfl l3 ?_
      obtain ⟨q3, eq3, hh⟩ := bi_bd hh
      refine go_iSI (pc := 32) rfl (Nat.le_of_ble_eq_true rfl) rfl (Nat.le_of_ble_eq_true rfl) (bi_up (sX9_isWatched eq3) (Nat.le_of_ble_eq_true rfl)) ?_
      refine bi_ite hh (fun hc hh => ?_) (fun hc hh => ?_)
      · refine go_ifeqT (pc := 35) rfl hc ?_
        exact sX9_fewestWatched_40 R14 l0 l1 l2 l3 hh
      · refine go_ifeqF (pc := 35) rfl hc ?_
        refine go_il (pc := 38) rfl l3 ?_
        refine go_is (pc := 39) rfl ?_
        exact sX9_fewestWatched_40 R14 (bi_k1 l0 rfl rfl) (bi_k1 l1 rfl rfl) bi_e1 (bi_k1 l3 rfl rfl) hh
def fX9_fewestWatched_14 (n : Nat) : Nat → ai_H → Nat → Int32 → Int32 → Int32 → Option (Int32 × ai_H)
  | 0 => fun _ _ _ _ _ => none
  | k + 1 => fun h v0 v1 v2 v3 => fX9_fewestWatched_14b n (fX9_fewestWatched_14 n k) h v0 v1 v2 v3
theorem sX9_fewestWatched_14 {n : Nat} {q : Int32 × ai_H} : ∀ (k : Nat) (h : ai_H) (v0 : Nat) (v1 : Int32) (v2 : Int32) (v3 : Int32) (lv : ai_L), ai_ld 0 lv = some (.ref v0) → ai_ld 1 lv = some (.int v1) → ai_ld 2 lv = some (.int v2) → ai_ld 3 lv = some (.int v3) → fX9_fewestWatched_14 n k h v0 v1 v2 v3 = some q → bi_go 3 tX9_fewestWatched n (fI n q) 14 lv [] h
  | 0 => fun _ _ _ _ _ _ _ _ _ _ hh => by cases hh
  | k + 1 => fun h v0 v1 v2 v3 lv l0 l1 l2 l3 hh => sX9_fewestWatched_14b  (sX9_fewestWatched_14  k) l0 l1 l2 l3 hh
def fX9_fewestWatched (n : Nat) (h : ai_H) (a0 : Nat) (a1 : Int32) : Option (Int32 × ai_H) :=
  (pR n h a0 8 0).bind fun x1 =>
  (pI n h x1 6 4).bind fun x2 =>
  fX9_fewestWatched_14 n bi_K h a0 a1 (((1 : Int32) <<< (x2 &&& 31)) - (1 : Int32)) (((1 : Int32) <<< (x2 &&& 31)) - (1 : Int32))
theorem sX9_fewestWatched {n : Nat} {h : ai_H} {a0 : Nat} {a1 : Int32} {q : Int32 × ai_H} (hh : fX9_fewestWatched n h a0 a1 = some q) : bi_sp 4 79 [.ref a0, .int a1] h n (fI n q) := by
  refine bi_en (D := 3) (T := tX9_fewestWatched) (funext fun pc => rfl) rfl (Nat.le_of_ble_eq_true rfl) ?_
  unfold fX9_fewestWatched at hh
  refine go_pi (pc := 0) rfl ?_
  refine go_al (pc := 1) rfl (rfl : ai_ld 0 (lv_args 0 [.ref a0, .int a1]) = some (.ref a0)) ?_
  obtain ⟨x1, ex1, hh⟩ := bi_bd hh
  refine go_gfR (pc := 2) rfl ex1 ?_
  obtain ⟨x2, ex2, hh⟩ := bi_bd hh
  refine go_gfI (pc := 5) rfl ex2 ?_
  refine go_ishl (pc := 8) rfl ?_
  refine go_pi (pc := 9) rfl ?_
  refine go_isub (pc := 10) rfl ?_
  refine go_is (pc := 11) rfl ?_
  refine go_il (pc := 12) rfl bi_e1 ?_
  refine go_is (pc := 13) rfl ?_
  exact sX9_fewestWatched_14  _ _ _ _ _ _ _ (bi_k1 (bi_k1 (rfl : ai_ld 0 (lv_args 0 [.ref a0, .int a1]) = some (.ref a0)) rfl rfl) rfl rfl) (bi_k1 (bi_k1 (rfl : ai_ld 1 (lv_args 0 [.ref a0, .int a1]) = some (.int a1)) rfl rfl) rfl rfl) (bi_k1 bi_e1 rfl rfl) bi_e1 hh
