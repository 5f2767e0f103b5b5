/-! ===== methods as functions, part 25 ===== -/
def fX11_chance_101 (n : Nat) (r59 : ai_H → Nat → Int32 → Int32 → Int32 → Int64 → Int32 → Int32 → Option (Int32 × ai_H)) (h : ai_H) (v0 : Nat) (v2 : Int32) (v3 : Int32) (v4 : Int32) (v5 : Int64) (v8 : Int32) (s0 : Int32) (s1 : Int32) : Option (Int32 × ai_H) :=
  r59 h v0 v2 v3 v4 v5 (s1 + s0) (v8 + 1)
theorem sX11_chance_101 {n : Nat} {r59 : ai_H → Nat → Int32 → Int32 → Int32 → Int64 → Int32 → Int32 → Option (Int32 × ai_H)} {q : Int32 × ai_H} {h : ai_H} {v0 : Nat} {v2 : Int32} {v3 : Int32} {v4 : Int32} {v5 : Int64} {v8 : Int32} {s0 : Int32} {s1 : Int32} {lv : ai_L} (R59 : ∀ (h : ai_H) (v0 : Nat) (v2 : Int32) (v3 : Int32) (v4 : Int32) (v5 : Int64) (v7 : Int32) (v8 : Int32) (lv : ai_L), ai_ld 0 lv = some (.ref v0) → ai_ld 2 lv = some (.int v2) → ai_ld 3 lv = some (.int v3) → ai_ld 4 lv = some (.int v4) → ai_ld 5 lv = some (.long v5) → ai_ld 7 lv = some (.int v7) → ai_ld 8 lv = some (.int v8) → r59 h v0 v2 v3 v4 v5 v7 v8 = some q → bi_go 7 tX11_chance n (fI n q) 59 lv [] h) (l0 : ai_ld 0 lv = some (.ref v0)) (l2 : ai_ld 2 lv = some (.int v2)) (l3 : ai_ld 3 lv = some (.int v3)) (l4 : ai_ld 4 lv = some (.int v4)) (l5 : ai_ld 5 lv = some (.long v5)) (l8 : ai_ld 8 lv = some (.int v8)) (hh : fX11_chance_101 n r59 h v0 v2 v3 v4 v5 v8 s0 s1 = some q) : bi_go 7 tX11_chance n (fI n q) 101 lv [.int s0, .int s1] h := by
  unfold fX11_chance_101 at hh
  refine go_iadd (pc := 101) rfl ?_
  refine go_is (pc := 102) rfl ?_
  refine go_inc (pc := 104) rfl (bi_k1 l8 rfl rfl) ?_
  refine go_goto (pc := 107) rfl ?_
  exact R59 _ _ _ _ _ _ _ _ _ (bi_k1 (bi_k1 l0 rfl rfl) rfl rfl) (bi_k1 (bi_k1 l2 rfl rfl) rfl rfl) (bi_k1 (bi_k1 l3 rfl rfl) rfl rfl) (bi_k1 (bi_k1 l4 rfl rfl) rfl rfl) (bi_k1L (bi_k1L l5 rfl rfl) rfl rfl) (bi_k1 bi_e1 rfl rfl) bi_e1 hh
def fX11_chance_59b (n : Nat) (r59 : ai_H → Nat → Int32 → Int32 → Int32 → Int64 → Int32 → Int32 → Option (Int32 × ai_H)) (h : ai_H) (v0 : Nat) (v2 : Int32) (v3 : Int32) (v4 : Int32) (v5 : Int64) (v7 : Int32) (v8 : Int32) : Option (Int32 × ai_H) :=
  if (10 : Int32) ≤ v8 then (
    (sF n h v0 11 69 (.boolean) (.int (0 : Int32))).bind fun h1 =>
    (sF n h1 v0 11 68 (.long) (.long v5)).bind fun h2 =>
    some (v7, h2))
  else (
    (fX11_layTried n h v0).bind fun q3 =>
    (sF n q3.2 v0 11 69 (.boolean) (.int (1 : Int32))).bind fun h4 =>
    (fX11_goMany n h4 v0 v2).bind fun q5 =>
    (pR n q5.2 v0 11 62).bind fun x6 =>
    (gX 1 n q5.2 x6 ((9 : Int32) + v3)).bind fun x7 =>
    if v4 < x7 then (
      fX11_chance_101 n r59 q5.2 v0 v2 v3 v4 v5 v8 (0 : Int32) v7)
    else (
      fX11_chance_101 n r59 q5.2 v0 v2 v3 v4 v5 v8 (1 : Int32) v7))
theorem sX11_chance_59b {n : Nat} {r59 : ai_H → Nat → Int32 → Int32 → Int32 → Int64 → Int32 → Int32 → Option (Int32 × ai_H)} {q : Int32 × ai_H} {h : ai_H} {v0 : Nat} {v2 : Int32} {v3 : Int32} {v4 : Int32} {v5 : Int64} {v7 : Int32} {v8 : Int32} {lv : ai_L} (R59 : ∀ (h : ai_H) (v0 : Nat) (v2 : Int32) (v3 : Int32) (v4 : Int32) (v5 : Int64) (v7 : Int32) (v8 : Int32) (lv : ai_L), ai_ld 0 lv = some (.ref v0) → ai_ld 2 lv = some (.int v2) → ai_ld 3 lv = some (.int v3) → ai_ld 4 lv = some (.int v4) → ai_ld 5 lv = some (.long v5) → ai_ld 7 lv = some (.int v7) → ai_ld 8 lv = some (.int v8) → r59 h v0 v2 v3 v4 v5 v7 v8 = some q → bi_go 7 tX11_chance n (fI n q) 59 lv [] h) (l0 : ai_ld 0 lv = some (.ref v0)) (l2 : ai_ld 2 lv = some (.int v2)) (l3 : ai_ld 3 lv = some (.int v3)) (l4 : ai_ld 4 lv = some (.int v4)) (l5 : ai_ld 5 lv = some (.long v5)) (l7 : ai_ld 7 lv = some (.int v7)) (l8 : ai_ld 8 lv = some (.int v8)) (hh : fX11_chance_59b n r59 h v0 v2 v3 v4 v5 v7 v8 = some q) : bi_go 7 tX11_chance n (fI n q) 59 lv [] h := by
  unfold fX11_chance_59b at hh
  refine go_il (pc := 59) rfl l8 ?_
  refine go_pi (pc := 61) rfl ?_
  refine bi_ite hh (fun hc hh => ?_) (fun hc hh => ?_)
  · refine go_cmpgeT (pc := 63) rfl hc ?_
    refine go_al (pc := 110) rfl l0 ?_
    refine go_pi (pc := 111) rfl ?_
    obtain ⟨h1, eh1, hh⟩ := bi_bd hh
    refine go_pf (pc := 112) rfl eh1 ?_
    refine go_al (pc := 115) rfl l0 ?_
    refine go_ll (pc := 116) rfl l5 ?_
    obtain ⟨h2, eh2, hh⟩ := bi_bd hh
    refine go_pf (pc := 118) rfl eh2 ?_
    refine go_il (pc := 121) rfl l7 ?_
    exact go_ri (pc := 123) rfl hh
  · refine go_cmpgeF (pc := 63) rfl hc ?_
    refine go_al (pc := 66) rfl l0 ?_
    obtain ⟨q3, eq3, hh⟩ := bi_bd hh
    refine go_ivV (pc := 67) rfl rfl (gX11_layTried eq3) (Nat.le_of_ble_eq_true rfl) (bi_up (sX11_layTried eq3) (Nat.le_of_ble_eq_true rfl)) ?_
    refine go_al (pc := 70) rfl l0 ?_
    refine go_pi (pc := 71) rfl ?_
    obtain ⟨h4, eh4, hh⟩ := bi_bd hh
    refine go_pf (pc := 72) rfl eh4 ?_
    refine go_al (pc := 75) rfl l0 ?_
    refine go_il (pc := 76) rfl l2 ?_
    obtain ⟨q5, eq5, hh⟩ := bi_bd hh
    refine go_ivV (pc := 77) rfl rfl (gX11_goMany eq5) (Nat.le_of_ble_eq_true rfl) (bi_up (sX11_goMany eq5) (Nat.le_of_ble_eq_true rfl)) ?_
    refine go_il (pc := 80) rfl l7 ?_
    refine go_al (pc := 82) rfl l0 ?_
    obtain ⟨x6, ex6, hh⟩ := bi_bd hh
    refine go_gfR (pc := 83) rfl ex6 ?_
    refine go_pi (pc := 86) rfl ?_
    refine go_il (pc := 88) rfl l3 ?_
    refine go_iadd (pc := 89) rfl ?_
    obtain ⟨x7, ex7, hh⟩ := bi_bd hh
    refine go_iald (pc := 90) rfl ex7 ?_
    refine go_il (pc := 91) rfl l4 ?_
    refine bi_ite hh (fun hc hh => ?_) (fun hc hh => ?_)
    · refine go_cmpgtT (pc := 93) rfl hc ?_
      refine go_pi (pc := 100) rfl ?_
      exact sX11_chance_101 R59 l0 l2 l3 l4 l5 l8 hh
    · refine go_cmpgtF (pc := 93) rfl hc ?_
      refine go_pi (pc := 96) rfl ?_
      refine go_goto (pc := 97) rfl ?_
      exact sX11_chance_101 R59 l0 l2 l3 l4 l5 l8 hh
def fX11_chance_59 (n : Nat) : Nat → ai_H → Nat → Int32 → Int32 → Int32 → Int64 → Int32 → Int32 → Option (Int32 × ai_H)
  | 0 => fun _ _ _ _ _ _ _ _ => none
  | k + 1 => fun h v0 v2 v3 v4 v5 v7 v8 => fX11_chance_59b n (fX11_chance_59 n k) h v0 v2 v3 v4 v5 v7 v8
theorem sX11_chance_59 {n : Nat} {q : Int32 × ai_H} : ∀ (k : Nat) (h : ai_H) (v0 : Nat) (v2 : Int32) (v3 : Int32) (v4 : Int32) (v5 : Int64) (v7 : Int32) (v8 : Int32) (lv : ai_L), ai_ld 0 lv = some (.ref v0) → ai_ld 2 lv = some (.int v2) → ai_ld 3 lv = some (.int v3) → ai_ld 4 lv = some (.int v4) → ai_ld 5 lv = some (.long v5) → ai_ld 7 lv = some (.int v7) → ai_ld 8 lv = some (.int v8) → fX11_chance_59 n k h v0 v2 v3 v4 v5 v7 v8 = some q → bi_go 7 tX11_chance n (fI n q) 59 lv [] h
  | 0 => fun _ _ _ _ _ _ _ _ _ _ _ _ _ _ _ _ hh => by cases hh
  | k + 1 => fun h v0 v2 v3 v4 v5 v7 v8 lv l0 l2 l3 l4 l5 l7 l8 hh => sX11_chance_59b  (sX11_chance_59  k) l0 l2 l3 l4 l5 l7 l8 hh
def fX11_chance (n : Nat) (h : ai_H) (a0 : Nat) (a1 : Int32) (a2 : Int32) (a3 : Int32) (a4 : Int32) : Option (Int32 × ai_H) :=
  (kO n h a0 11).bind fun _ =>
  (sF n h a0 11 2 (.int) (.int (0 : Int32))).bind fun h1 =>
  if a1 < 0 then (
    some ((-1 : Int32), h1))
  else (
    (fX11_isIn n h1 a2 (1 : Int32) (99 : Int32)).bind fun q2 =>
    if q2.1 = 0 then (
      some ((-1 : Int32), q2.2))
    else (
      (fX11_isPath n q2.2 a0 a3).bind fun q3 =>
      if q3.1 = 0 then (
        some ((-1 : Int32), q3.2))
      else (
        (fX11_isIn n q3.2 a4 (0 : Int32) (999 : Int32)).bind fun q4 =>
        if ¬ q4.1 = 0 then (
          (pJ n q4.2 a0 11 68).bind fun x5 =>
          (sF n q4.2 a0 11 68 (.long) (.long a1.toInt64)).bind fun h6 =>
          fX11_chance_59 n bi_K h6 a0 a2 a3 a4 x5 (0 : Int32) (0 : Int32))
        else (
          some ((-1 : Int32), q4.2)))))
theorem gX11_chance {n : Nat} {h : ai_H} {a0 : Nat} {a1 : Int32} {a2 : Int32} {a3 : Int32} {a4 : Int32} {q : Int32 × ai_H} (hh : fX11_chance n h a0 a1 a2 a3 a4 = some q) : kO n h a0 11 = some () := by
  obtain ⟨_, e, -⟩ := bi_bd hh
  exact e
theorem sX11_chance {n : Nat} {h : ai_H} {a0 : Nat} {a1 : Int32} {a2 : Int32} {a3 : Int32} {a4 : Int32} {q : Int32 × ai_H} (hh : fX11_chance n h a0 a1 a2 a3 a4 = some q) : bi_sp 8 258 [.ref a0, .int a1, .int a2, .int a3, .int a4] h n (fI n q) := by
  refine bi_en (D := 7) (T := tX11_chance) (funext fun pc => rfl) rfl (Nat.le_of_ble_eq_true rfl) ?_
  unfold fX11_chance at hh
  obtain ⟨_, eO, hh⟩ := bi_bd hh
  refine go_al (pc := 0) rfl (rfl : ai_ld 0 (lv_args 0 [.ref a0, .int a1, .int a2, .int a3, .int a4]) = some (.ref a0)) ?_
  refine go_pi (pc := 1) rfl ?_
  obtain ⟨h1, eh1, hh⟩ := bi_bd hh
  refine go_pf (pc := 2) rfl eh1 ?_
  refine go_il (pc := 5) rfl (rfl : ai_ld 1 (lv_args 0 [.ref a0, .int a1, .int a2, .int a3, .int a4]) = some (.int a1)) ?_
  refine bi_ite hh (fun hc hh => ?_) (fun hc hh => ?_)
  · refine go_ifltT (pc := 6) rfl hc ?_
    refine go_pi (pc := 39) rfl ?_
    exact go_ri (pc := 40) rfl hh
  · refine go_ifltF (pc := 6) rfl hc ?_
    refine go_il (pc := 9) rfl (rfl : ai_ld 2 (lv_args 0 [.ref a0, .int a1, .int a2, .int a3, .int a4]) = some (.int a2)) ?_
    refine go_pi (pc := 10) rfl ?_
    refine go_pi (pc := 11) rfl ?_
    obtain ⟨q2, eq2, hh⟩ := bi_bd hh
    refine go_iSI (pc := 13) rfl (Nat.le_of_ble_eq_true rfl) rfl (Nat.le_of_ble_eq_true rfl) (bi_up (sX11_isIn eq2) (Nat.le_of_ble_eq_true rfl)) ?_
    refine bi_ite hh (fun hc hh => ?_) (fun hc hh => ?_)
    · refine go_ifeqT (pc := 16) rfl hc ?_
      refine go_pi (pc := 39) rfl ?_
      exact go_ri (pc := 40) rfl hh
    · refine go_ifeqF (pc := 16) rfl hc ?_
      refine go_al (pc := 19) rfl (rfl : ai_ld 0 (lv_args 0 [.ref a0, .int a1, .int a2, .int a3, .int a4]) = some (.ref a0)) ?_
      refine go_il (pc := 20) rfl (rfl : ai_ld 3 (lv_args 0 [.ref a0, .int a1, .int a2, .int a3, .int a4]) = some (.int a3)) ?_
      obtain ⟨q3, eq3, hh⟩ := bi_bd hh
      refine go_ivI (pc := 21) rfl rfl (gX11_isPath eq3) (Nat.le_of_ble_eq_true rfl) (bi_up (sX11_isPath eq3) (Nat.le_of_ble_eq_true rfl)) ?_
      refine bi_ite hh (fun hc hh => ?_) (fun hc hh => ?_)
      · refine go_ifeqT (pc := 24) rfl hc ?_
        refine go_pi (pc := 39) rfl ?_
        exact go_ri (pc := 40) rfl hh
      · refine go_ifeqF (pc := 24) rfl hc ?_
        refine go_il (pc := 27) rfl (rfl : ai_ld 4 (lv_args 0 [.ref a0, .int a1, .int a2, .int a3, .int a4]) = some (.int a4)) ?_
        refine go_pi (pc := 29) rfl ?_
        refine go_pi (pc := 30) rfl ?_
        obtain ⟨q4, eq4, hh⟩ := bi_bd hh
        refine go_iSI (pc := 33) rfl (Nat.le_of_ble_eq_true rfl) rfl (Nat.le_of_ble_eq_true rfl) (bi_up (sX11_isIn eq4) (Nat.le_of_ble_eq_true rfl)) ?_
        refine bi_ite hh (fun hc hh => ?_) (fun hc hh => ?_)
        · refine go_ifneT (pc := 36) rfl hc ?_
          refine go_al (pc := 41) rfl (rfl : ai_ld 0 (lv_args 0 [.ref a0, .int a1, .int a2, .int a3, .int a4]) = some (.ref a0)) ?_
          obtain ⟨x5, ex5, hh⟩ := bi_bd hh
          refine go_gfJ (pc := 42) rfl ex5 ?_
          refine go_lst (pc := 45) rfl ?_
          refine go_al (pc := 47) rfl (bi_k2 (rfl : ai_ld 0 (lv_args 0 [.ref a0, .int a1, .int a2, .int a3, .int a4]) = some (.ref a0)) rfl rfl rfl) ?_
          refine go_il (pc := 48) rfl (bi_k2 (rfl : ai_ld 1 (lv_args 0 [.ref a0, .int a1, .int a2, .int a3, .int a4]) = some (.int a1)) rfl rfl rfl) ?_
          refine go_i2l (pc := 49) rfl ?_
          obtain ⟨h6, eh6, hh⟩ := bi_bd hh
          refine go_pf (pc := 50) rfl eh6 ?_
          refine go_pi (pc := 53) rfl ?_
          refine go_is (pc := 54) rfl ?_
          refine go_pi (pc := 56) rfl ?_
          refine go_is (pc := 57) rfl ?_
          exact sX11_chance_59  _ _ _ _ _ _ _ _ _ _ (bi_k1 (bi_k1 (bi_k2 (rfl : ai_ld 0 (lv_args 0 [.ref a0, .int a1, .int a2, .int a3, .int a4]) = some (.ref a0)) rfl rfl rfl) rfl rfl) rfl rfl) (bi_k1 (bi_k1 (bi_k2 (rfl : ai_ld 2 (lv_args 0 [.ref a0, .int a1, .int a2, .int a3, .int a4]) = some (.int a2)) rfl rfl rfl) rfl rfl) rfl rfl) (bi_k1 (bi_k1 (bi_k2 (rfl : ai_ld 3 (lv_args 0 [.ref a0, .int a1, .int a2, .int a3, .int a4]) = some (.int a3)) rfl rfl rfl) rfl rfl) rfl rfl) (bi_k1 (bi_k1 (bi_k2 (rfl : ai_ld 4 (lv_args 0 [.ref a0, .int a1, .int a2, .int a3, .int a4]) = some (.int a4)) rfl rfl rfl) rfl rfl) rfl rfl) (bi_k1L (bi_k1L bi_e2 rfl rfl) rfl rfl) (bi_k1 bi_e1 rfl rfl) bi_e1 hh
        · refine go_ifneF (pc := 36) rfl hc ?_
          refine go_pi (pc := 39) rfl ?_
          exact go_ri (pc := 40) rfl hh
def fX11_tried_117 (n : Nat) (h : ai_H) (v0 : Nat) (v3 : Int32) (s0 : Int32) (s1 : Nat) : Option (Int32 × ai_H) :=
  (sF n h s1 11 73 (.boolean) (.int s0)).bind fun h1 =>
  (fX11_goMany n h1 v0 v3).bind fun q2 =>
  (fX11_plainTried n q2.2 v0).bind fun q3 =>
  (fX11_keptMany n q3.2 v0 (1 : Int32)).bind fun q4 =>
  some (q4.1, q4.2)
theorem sX11_tried_117 {n : Nat} {q : Int32 × ai_H} {h : ai_H} {v0 : Nat} {v3 : Int32} {s0 : Int32} {s1 : Nat} {lv : ai_L} (l0 : ai_ld 0 lv = some (.ref v0)) (l3 : ai_ld 3 lv = some (.int v3)) (hh : fX11_tried_117 n h v0 v3 s0 s1 = some q) : bi_go 7 tX11_tried n (fI n q) 117 lv [.int s0, .ref s1] h := by
  unfold fX11_tried_117 at hh
  obtain ⟨h1, eh1, hh⟩ := bi_bd hh
  refine go_pf (pc := 117) rfl eh1 ?_
  refine go_al (pc := 120) rfl l0 ?_
  refine go_il (pc := 121) rfl l3 ?_
  obtain ⟨q2, eq2, hh⟩ := bi_bd hh
  refine go_ivV (pc := 122) rfl rfl (gX11_goMany eq2) (Nat.le_of_ble_eq_true rfl) (bi_up (sX11_goMany eq2) (Nat.le_of_ble_eq_true rfl)) ?_
  refine go_al (pc := 125) rfl l0 ?_
  obtain ⟨q3, eq3, hh⟩ := bi_bd hh
  refine go_ivV (pc := 126) rfl rfl (gX11_plainTried eq3) (Nat.le_of_ble_eq_true rfl) (bi_up (sX11_plainTried eq3) (Nat.le_of_ble_eq_true rfl)) ?_
  refine go_al (pc := 129) rfl l0 ?_
  refine go_pi (pc := 130) rfl ?_
  obtain ⟨q4, eq4, hh⟩ := bi_bd hh
  refine go_ivI (pc := 131) rfl rfl (gX11_keptMany eq4) (Nat.le_of_ble_eq_true rfl) (bi_up (sX11_keptMany eq4) (Nat.le_of_ble_eq_true rfl)) ?_
  exact go_ri (pc := 134) rfl hh
def fX11_tried_103 (n : Nat) (h : ai_H) (v0 : Nat) (v1 : Int32) (v3 : Int32) (s0 : Int32) (s1 : Nat) : Option (Int32 × ai_H) :=
  (sF n h s1 11 72 (.boolean) (.int s0)).bind fun h1 =>
  if ¬ v1 = (4 : Int32) then (
    fX11_tried_117 n h1 v0 v3 (0 : Int32) v0)
  else (
    fX11_tried_117 n h1 v0 v3 (1 : Int32) v0)
theorem sX11_tried_103 {n : Nat} {q : Int32 × ai_H} {h : ai_H} {v0 : Nat} {v1 : Int32} {v3 : Int32} {s0 : Int32} {s1 : Nat} {lv : ai_L} (l0 : ai_ld 0 lv = some (.ref v0)) (l1 : ai_ld 1 lv = some (.int v1)) (l3 : ai_ld 3 lv = some (.int v3)) (hh : fX11_tried_103 n h v0 v1 v3 s0 s1 = some q) : bi_go 7 tX11_tried n (fI n q) 103 lv [.int s0, .ref s1] h := by
  unfold fX11_tried_103 at hh
  obtain ⟨h1, eh1, hh⟩ := bi_bd hh
  refine go_pf (pc := 103) rfl eh1 ?_
  refine go_al (pc := 106) rfl l0 ?_
  refine go_il (pc := 107) rfl l1 ?_
  refine go_pi (pc := 108) rfl ?_
  refine bi_ite hh (fun hc hh => ?_) (fun hc hh => ?_)
  · refine go_cmpneT (pc := 109) rfl hc ?_
    refine go_pi (pc := 116) rfl ?_
    exact sX11_tried_117  l0 l3 hh
  · refine go_cmpneF (pc := 109) rfl hc ?_
    refine go_pi (pc := 112) rfl ?_
    refine go_goto (pc := 113) rfl ?_
    exact sX11_tried_117  l0 l3 hh
def fX11_tried_89 (n : Nat) (h : ai_H) (v0 : Nat) (v1 : Int32) (v3 : Int32) (s0 : Int32) (s1 : Nat) : Option (Int32 × ai_H) :=
  (sF n h s1 11 74 (.int) (.int s0)).bind fun h1 =>
  if ¬ v1 = (3 : Int32) then (
    fX11_tried_103 n h1 v0 v1 v3 (0 : Int32) v0)
  else (
    fX11_tried_103 n h1 v0 v1 v3 (1 : Int32) v0)
theorem sX11_tried_89 {n : Nat} {q : Int32 × ai_H} {h : ai_H} {v0 : Nat} {v1 : Int32} {v3 : Int32} {s0 : Int32} {s1 : Nat} {lv : ai_L} (l0 : ai_ld 0 lv = some (.ref v0)) (l1 : ai_ld 1 lv = some (.int v1)) (l3 : ai_ld 3 lv = some (.int v3)) (hh : fX11_tried_89 n h v0 v1 v3 s0 s1 = some q) : bi_go 7 tX11_tried n (fI n q) 89 lv [.int s0, .ref s1] h := by
  unfold fX11_tried_89 at hh
  obtain ⟨h1, eh1, hh⟩ := bi_bd hh
  refine go_pf (pc := 89) rfl eh1 ?_
  refine go_al (pc := 92) rfl l0 ?_
  refine go_il (pc := 93) rfl l1 ?_
  refine go_pi (pc := 94) rfl ?_
  refine bi_ite hh (fun hc hh => ?_) (fun hc hh => ?_)
  · refine go_cmpneT (pc := 95) rfl hc ?_
    refine go_pi (pc := 102) rfl ?_
    exact sX11_tried_103  l0 l1 l3 hh
  · refine go_cmpneF (pc := 95) rfl hc ?_
    refine go_pi (pc := 98) rfl ?_
    refine go_goto (pc := 99) rfl ?_
    exact sX11_tried_103  l0 l1 l3 hh
def fX11_tried_75 (n : Nat) (h : ai_H) (v0 : Nat) (v1 : Int32) (v2 : Int32) (v3 : Int32) (s0 : Int32) (s1 : Nat) : Option (Int32 × ai_H) :=
  (sF n h s1 11 71 (.boolean) (.int s0)).bind fun h1 =>
  if ¬ v1 = (2 : Int32) then (
    fX11_tried_89 n h1 v0 v1 v3 (-1 : Int32) v0)
  else (
    fX11_tried_89 n h1 v0 v1 v3 v2 v0)
theorem sX11_tried_75 {n : Nat} {q : Int32 × ai_H} {h : ai_H} {v0 : Nat} {v1 : Int32} {v2 : Int32} {v3 : Int32} {s0 : Int32} {s1 : Nat} {lv : ai_L} (l0 : ai_ld 0 lv = some (.ref v0)) (l1 : ai_ld 1 lv = some (.int v1)) (l2 : ai_ld 2 lv = some (.int v2)) (l3 : ai_ld 3 lv = some (.int v3)) (hh : fX11_tried_75 n h v0 v1 v2 v3 s0 s1 = some q) : bi_go 7 tX11_tried n (fI n q) 75 lv [.int s0, .ref s1] h := by
  unfold fX11_tried_75 at hh
  obtain ⟨h1, eh1, hh⟩ := bi_bd hh
  refine go_pf (pc := 75) rfl eh1 ?_
  refine go_al (pc := 78) rfl l0 ?_
  refine go_il (pc := 79) rfl l1 ?_
  refine go_pi (pc := 80) rfl ?_
  refine bi_ite hh (fun hc hh => ?_) (fun hc hh => ?_)
  · refine go_cmpneT (pc := 81) rfl hc ?_
    refine go_pi (pc := 88) rfl ?_
    exact sX11_tried_89  l0 l1 l3 hh
  · refine go_cmpneF (pc := 81) rfl hc ?_
    refine go_il (pc := 84) rfl l2 ?_
    refine go_goto (pc := 85) rfl ?_
    exact sX11_tried_89  l0 l1 l3 hh
def fX11_tried_61 (n : Nat) (h : ai_H) (v0 : Nat) (v1 : Int32) (v2 : Int32) (v3 : Int32) (s0 : Int32) (s1 : Nat) : Option (Int32 × ai_H) :=
  (sF n h s1 11 70 (.boolean) (.int s0)).bind fun h1 =>
  if ¬ v1 = (1 : Int32) then (
    fX11_tried_75 n h1 v0 v1 v2 v3 (0 : Int32) v0)
  else (
    fX11_tried_75 n h1 v0 v1 v2 v3 (1 : Int32) v0)
theorem sX11_tried_61 {n : Nat} {q : Int32 × ai_H} {h : ai_H} {v0 : Nat} {v1 : Int32} {v2 : Int32} {v3 : Int32} {s0 : Int32} {s1 : Nat} {lv : ai_L} (l0 : ai_ld 0 lv = some (.ref v0)) (l1 : ai_ld 1 lv = some (.int v1)) (l2 : ai_ld 2 lv = some (.int v2)) (l3 : ai_ld 3 lv = some (.int v3)) (hh : fX11_tried_61 n h v0 v1 v2 v3 s0 s1 = some q) : bi_go 7 tX11_tried n (fI n q) 61 lv [.int s0, .ref s1] h := by
  unfold fX11_tried_61 at hh
  obtain ⟨h1, eh1, hh⟩ := bi_bd hh
  refine go_pf (pc := 61) rfl eh1 ?_
  refine go_al (pc := 64) rfl l0 ?_
  refine go_il (pc := 65) rfl l1 ?_
  refine go_pi (pc := 66) rfl ?_
  refine bi_ite hh (fun hc hh => ?_) (fun hc hh => ?_)
  · refine go_cmpneT (pc := 67) rfl hc ?_
    refine go_pi (pc := 74) rfl ?_
    exact sX11_tried_75  l0 l1 l2 l3 hh
  · refine go_cmpneF (pc := 67) rfl hc ?_
    refine go_pi (pc := 70) rfl ?_
    refine go_goto (pc := 71) rfl ?_
    exact sX11_tried_75  l0 l1 l2 l3 hh
def fX11_tried_47 (n : Nat) (h : ai_H) (v0 : Nat) (v1 : Int32) (v2 : Int32) (v3 : Int32) : Option (Int32 × ai_H) :=
  (fX11_layTried n h v0).bind fun q1 =>
  if ¬ v1 = 0 then (
    fX11_tried_61 n q1.2 v0 v1 v2 v3 (0 : Int32) v0)
  else (
    fX11_tried_61 n q1.2 v0 v1 v2 v3 (1 : Int32) v0)
theorem sX11_tried_47 {n : Nat} {q : Int32 × ai_H} {h : ai_H} {v0 : Nat} {v1 : Int32} {v2 : Int32} {v3 : Int32} {lv : ai_L} (l0 : ai_ld 0 lv = some (.ref v0)) (l1 : ai_ld 1 lv = some (.int v1)) (l2 : ai_ld 2 lv = some (.int v2)) (l3 : ai_ld 3 lv = some (.int v3)) (hh : fX11_tried_47 n h v0 v1 v2 v3 = some q) : bi_go 7 tX11_tried n (fI n q) 47 lv [] h := by
  unfold fX11_tried_47 at hh
  refine go_al (pc := 47) rfl l0 ?_
  obtain ⟨q1, eq1, hh⟩ := bi_bd hh
  refine go_ivV (pc := 48) rfl rfl (gX11_layTried eq1) (Nat.le_of_ble_eq_true rfl) (bi_up (sX11_layTried eq1) (Nat.le_of_ble_eq_true rfl)) ?_
  refine go_al (pc := 51) rfl l0 ?_
  refine go_il (pc := 52) rfl l1 ?_
  refine bi_ite hh (fun hc hh => ?_) (fun hc hh => ?_)
  · refine go_ifneT (pc := 53) rfl hc ?_
    refine go_pi (pc := 60) rfl ?_
    exact sX11_tried_61  l0 l1 l2 l3 hh
  · refine go_ifneF (pc := 53) rfl hc ?_
    refine go_pi (pc := 56) rfl ?_
    refine go_goto (pc := 57) rfl ?_
    exact sX11_tried_61  l0 l1 l2 l3 hh
def fX11_tried (n : Nat) (h : ai_H) (a0 : Nat) (a1 : Int32) (a2 : Int32) (a3 : Int32) : Option (Int32 × ai_H) :=
  (kO n h a0 11).bind fun _ =>
  (sF n h a0 11 2 (.int) (.int (0 : Int32))).bind fun h1 =>
  (fX11_isIn n h1 a1 (0 : Int32) (4 : Int32)).bind fun q2 =>
  if q2.1 = 0 then (
    some ((-1 : Int32), q2.2))
  else (
    (fX11_isIn n q2.2 a3 (0 : Int32) (400 : Int32)).bind fun q3 =>
    if q3.1 = 0 then (
      some ((-1 : Int32), q3.2))
    else (
      if ¬ a1 = (2 : Int32) then (
        if a2 = 0 then (
          fX11_tried_47 n q3.2 a0 a1 a2 a3)
        else (
          some ((-1 : Int32), q3.2)))
      else (
        (fX11_isWalker n q3.2 a0 a2).bind fun q4 =>
        if ¬ q4.1 = 0 then (
          fX11_tried_47 n q4.2 a0 a1 a2 a3)
        else (
          some ((-1 : Int32), q4.2)))))
theorem gX11_tried {n : Nat} {h : ai_H} {a0 : Nat} {a1 : Int32} {a2 : Int32} {a3 : Int32} {q : Int32 × ai_H} (hh : fX11_tried n h a0 a1 a2 a3 = some q) : kO n h a0 11 = some () := by
  obtain ⟨_, e, -⟩ := bi_bd hh
  exact e
theorem sX11_tried {n : Nat} {h : ai_H} {a0 : Nat} {a1 : Int32} {a2 : Int32} {a3 : Int32} {q : Int32 × ai_H} (hh : fX11_tried n h a0 a1 a2 a3 = some q) : bi_sp 8 259 [.ref a0, .int a1, .int a2, .int a3] h n (fI n q) := by
  refine bi_en (D := 7) (T := tX11_tried) (funext fun pc => rfl) rfl (Nat.le_of_ble_eq_true rfl) ?_
  unfold fX11_tried at hh
  obtain ⟨_, eO, hh⟩ := bi_bd hh
  refine go_al (pc := 0) rfl (rfl : ai_ld 0 (lv_args 0 [.ref a0, .int a1, .int a2, .int a3]) = some (.ref a0)) ?_
  refine go_pi (pc := 1) rfl ?_
  obtain ⟨h1, eh1, hh⟩ := bi_bd hh
  refine go_pf (pc := 2) rfl eh1 ?_
  refine go_il (pc := 5) rfl (rfl : ai_ld 1 (lv_args 0 [.ref a0, .int a1, .int a2, .int a3]) = some (.int a1)) ?_
  refine go_pi (pc := 6) rfl ?_
  refine go_pi (pc := 7) rfl ?_
  obtain ⟨q2, eq2, hh⟩ := bi_bd hh
  refine go_iSI (pc := 8) rfl (Nat.le_of_ble_eq_true rfl) rfl (Nat.le_of_ble_eq_true rfl) (bi_up (sX11_isIn eq2) (Nat.le_of_ble_eq_true rfl)) ?_
  refine bi_ite hh (fun hc hh => ?_) (fun hc hh => ?_)
  · refine go_ifeqT (pc := 11) rfl hc ?_
    refine go_pi (pc := 45) rfl ?_
    exact go_ri (pc := 46) rfl hh
  · refine go_ifeqF (pc := 11) rfl hc ?_
    refine go_il (pc := 14) rfl (rfl : ai_ld 3 (lv_args 0 [.ref a0, .int a1, .int a2, .int a3]) = some (.int a3)) ?_
    refine go_pi (pc := 15) rfl ?_
    refine go_pi (pc := 16) rfl ?_
    obtain ⟨q3, eq3, hh⟩ := bi_bd hh
    refine go_iSI (pc := 19) rfl (Nat.le_of_ble_eq_true rfl) rfl (Nat.le_of_ble_eq_true rfl) (bi_up (sX11_isIn eq3) (Nat.le_of_ble_eq_true rfl)) ?_
    refine bi_ite hh (fun hc hh => ?_) (fun hc hh => ?_)
    · refine go_ifeqT (pc := 22) rfl hc ?_
      refine go_pi (pc := 45) rfl ?_
      exact go_ri (pc := 46) rfl hh
    · refine go_ifeqF (pc := 22) rfl hc ?_
      refine go_il (pc := 25) rfl (rfl : ai_ld 1 (lv_args 0 [.ref a0, .int a1, .int a2, .int a3]) = some (.int a1)) ?_
      refine go_pi (pc := 26) rfl ?_
      refine bi_ite hh (fun hc hh => ?_) (fun hc hh => ?_)
      · refine go_cmpneT (pc := 27) rfl hc ?_
        refine go_il (pc := 41) rfl (rfl : ai_ld 2 (lv_args 0 [.ref a0, .int a1, .int a2, .int a3]) = some (.int a2)) ?_
        refine bi_ite hh (fun hc hh => ?_) (fun hc hh => ?_)
        · refine go_ifeqT (pc := 42) rfl hc ?_
          exact sX11_tried_47  (rfl : ai_ld 0 (lv_args 0 [.ref a0, .int a1, .int a2, .int a3]) = some (.ref a0)) (rfl : ai_ld 1 (lv_args 0 [.ref a0, .int a1, .int a2, .int a3]) = some (.int a1)) (rfl : ai_ld 2 (lv_args 0 [.ref a0, .int a1, .int a2, .int a3]) = some (.int a2)) (rfl : ai_ld 3 (lv_args 0 [.ref a0, .int a1, .int a2, .int a3]) = some (.int a3)) hh
        · refine go_ifeqF (pc := 42) rfl hc ?_
          refine go_pi (pc := 45) rfl ?_
          exact go_ri (pc := 46) rfl hh
      · refine go_cmpneF (pc := 27) rfl hc ?_
        refine go_al (pc := 30) rfl (rfl : ai_ld 0 (lv_args 0 [.ref a0, .int a1, .int a2, .int a3]) = some (.ref a0)) ?_
        refine go_il (pc := 31) rfl (rfl : ai_ld 2 (lv_args 0 [.ref a0, .int a1, .int a2, .int a3]) = some (.int a2)) ?_
        obtain ⟨q4, eq4, hh⟩ := bi_bd hh
        refine go_ivI (pc := 32) rfl rfl (gX11_isWalker eq4) (Nat.le_of_ble_eq_true rfl) (bi_up (sX11_isWalker eq4) (Nat.le_of_ble_eq_true rfl)) ?_
        refine bi_ite hh (fun hc hh => ?_) (fun hc hh => ?_)
        · refine go_ifneT (pc := 35) rfl hc ?_
          exact sX11_tried_47  (rfl : ai_ld 0 (lv_args 0 [.ref a0, .int a1, .int a2, .int a3]) = some (.ref a0)) (rfl : ai_ld 1 (lv_args 0 [.ref a0, .int a1, .int a2, .int a3]) = some (.int a1)) (rfl : ai_ld 2 (lv_args 0 [.ref a0, .int a1, .int a2, .int a3]) = some (.int a2)) (rfl : ai_ld 3 (lv_args 0 [.ref a0, .int a1, .int a2, .int a3]) = some (.int a3)) hh
        · refine go_ifneF (pc := 35) rfl hc ?_
          refine go_goto (pc := 38) rfl ?_
          refine go_pi (pc := 45) rfl ?_
          exact go_ri (pc := 46) rfl hh
def fX11_take_81 (n : Nat) (r39 : ai_H → Nat → Nat → Int32 → Int32 → Option (Unit × ai_H)) (h : ai_H) (v0 : Nat) (v1 : Nat) (v2 : Int32) (v3 : Int32) (s0 : Int32) (s1 : Int32) (s2 : Nat) : Option (Unit × ai_H) :=
  (wB n h s2 s1 s0).bind fun h1 =>
  (pR n h1 v0 11 64).bind fun x2 =>
  (gX 1 n h1 v1 ((v2 + (26 : Int32)) + v3)).bind fun x3 =>
  (wX 1 (fun x => x) n h1 x2 v3 x3).bind fun h4 =>
  r39 h4 v0 v1 v2 (v3 + 1)
theorem sX11_take_81 {n : Nat} {r39 : ai_H → Nat → Nat → Int32 → Int32 → Option (Unit × ai_H)} {q : Unit × ai_H} {h : ai_H} {v0 : Nat} {v1 : Nat} {v2 : Int32} {v3 : Int32} {s0 : Int32} {s1 : Int32} {s2 : Nat} {lv : ai_L} (R39 : ∀ (h : ai_H) (v0 : Nat) (v1 : Nat) (v2 : Int32) (v3 : Int32) (lv : ai_L), ai_ld 0 lv = some (.ref v0) → ai_ld 1 lv = some (.ref v1) → ai_ld 2 lv = some (.int v2) → ai_ld 3 lv = some (.int v3) → r39 h v0 v1 v2 v3 = some q → bi_go 0 tX11_take n (fV n q) 39 lv [] h) (l0 : ai_ld 0 lv = some (.ref v0)) (l1 : ai_ld 1 lv = some (.ref v1)) (l2 : ai_ld 2 lv = some (.int v2)) (l3 : ai_ld 3 lv = some (.int v3)) (hh : fX11_take_81 n r39 h v0 v1 v2 v3 s0 s1 s2 = some q) : bi_go 0 tX11_take n (fV n q) 81 lv [.int s0, .int s1, .ref s2] h := by
  unfold fX11_take_81 at hh
  obtain ⟨h1, eh1, hh⟩ := bi_bd hh
  refine go_bast (pc := 81) rfl eh1 ?_
  refine go_al (pc := 82) rfl l0 ?_
  obtain ⟨x2, ex2, hh⟩ := bi_bd hh
  refine go_gfR (pc := 83) rfl ex2 ?_
  refine go_il (pc := 86) rfl l3 ?_
  refine go_al (pc := 87) rfl l1 ?_
  refine go_il (pc := 88) rfl l2 ?_
  refine go_pi (pc := 89) rfl ?_
  refine go_iadd (pc := 91) rfl ?_
  refine go_il (pc := 92) rfl l3 ?_
  refine go_iadd (pc := 93) rfl ?_
  obtain ⟨x3, ex3, hh⟩ := bi_bd hh
  refine go_iald (pc := 94) rfl ex3 ?_
  obtain ⟨h4, eh4, hh⟩ := bi_bd hh
  refine go_iast (pc := 95) rfl eh4 ?_
  refine go_inc (pc := 96) rfl l3 ?_
  refine go_goto (pc := 99) rfl ?_
  exact R39 _ _ _ _ _ _ (bi_k1 l0 rfl rfl) (bi_k1 l1 rfl rfl) (bi_k1 l2 rfl rfl) bi_e1 hh
def fX11_take_39b (n : Nat) (r39 : ai_H → Nat → Nat → Int32 → Int32 → Option (Unit × ai_H)) (h : ai_H) (v0 : Nat) (v1 : Nat) (v2 : Int32) (v3 : Int32) : Option (Unit × ai_H) :=
  if (9 : Int32) ≤ v3 then (
    (pR n h v0 11 65).bind fun x1 =>
    (gX 1 n h v1 (v2 + (35 : Int32))).bind fun x2 =>
    (wX 1 (fun x => x) n h x1 (0 : Int32) x2).bind fun h3 =>
    some ((), h3))
  else (
    (pR n h v0 11 62).bind fun x4 =>
    (gX 1 n h v1 ((v2 + (8 : Int32)) + v3)).bind fun x5 =>
    (wX 1 (fun x => x) n h x4 v3 x5).bind fun h6 =>
    (pR n h6 v0 11 63).bind fun x7 =>
    (gX 1 n h6 v1 ((v2 + (17 : Int32)) + v3)).bind fun x8 =>
    if ¬ x8 = (1 : Int32) then (
      fX11_take_81 n r39 h6 v0 v1 v2 v3 (0 : Int32) v3 x7)
    else (
      fX11_take_81 n r39 h6 v0 v1 v2 v3 (1 : Int32) v3 x7))
theorem sX11_take_39b {n : Nat} {r39 : ai_H → Nat → Nat → Int32 → Int32 → Option (Unit × ai_H)} {q : Unit × ai_H} {h : ai_H} {v0 : Nat} {v1 : Nat} {v2 : Int32} {v3 : Int32} {lv : ai_L} (R39 : ∀ (h : ai_H) (v0 : Nat) (v1 : Nat) (v2 : Int32) (v3 : Int32) (lv : ai_L), ai_ld 0 lv = some (.ref v0) → ai_ld 1 lv = some (.ref v1) → ai_ld 2 lv = some (.int v2) → ai_ld 3 lv = some (.int v3) → r39 h v0 v1 v2 v3 = some q → bi_go 0 tX11_take n (fV n q) 39 lv [] h) (l0 : ai_ld 0 lv = some (.ref v0)) (l1 : ai_ld 1 lv = some (.ref v1)) (l2 : ai_ld 2 lv = some (.int v2)) (l3 : ai_ld 3 lv = some (.int v3)) (hh : fX11_take_39b n r39 h v0 v1 v2 v3 = some q) : bi_go 0 tX11_take n (fV n q) 39 lv [] h := by
  unfold fX11_take_39b at hh
  refine go_il (pc := 39) rfl l3 ?_
  refine go_pi (pc := 40) rfl ?_
  refine bi_ite hh (fun hc hh => ?_) (fun hc hh => ?_)
  · refine go_cmpgeT (pc := 42) rfl hc ?_
    refine go_al (pc := 102) rfl l0 ?_
    obtain ⟨x1, ex1, hh⟩ := bi_bd hh
    refine go_gfR (pc := 103) rfl ex1 ?_
    refine go_pi (pc := 106) rfl ?_
    refine go_al (pc := 107) rfl l1 ?_
    refine go_il (pc := 108) rfl l2 ?_
    refine go_pi (pc := 109) rfl ?_
    refine go_iadd (pc := 111) rfl ?_
    obtain ⟨x2, ex2, hh⟩ := bi_bd hh
    refine go_iald (pc := 112) rfl ex2 ?_
    obtain ⟨h3, eh3, hh⟩ := bi_bd hh
    refine go_iast (pc := 113) rfl eh3 ?_
    exact go_rv (pc := 114) rfl hh
  · refine go_cmpgeF (pc := 42) rfl hc ?_
    refine go_al (pc := 45) rfl l0 ?_
    obtain ⟨x4, ex4, hh⟩ := bi_bd hh
    refine go_gfR (pc := 46) rfl ex4 ?_
    refine go_il (pc := 49) rfl l3 ?_
    refine go_al (pc := 50) rfl l1 ?_
    refine go_il (pc := 51) rfl l2 ?_
    refine go_pi (pc := 52) rfl ?_
    refine go_iadd (pc := 54) rfl ?_
    refine go_il (pc := 55) rfl l3 ?_
    refine go_iadd (pc := 56) rfl ?_
    obtain ⟨x5, ex5, hh⟩ := bi_bd hh
    refine go_iald (pc := 57) rfl ex5 ?_
    obtain ⟨h6, eh6, hh⟩ := bi_bd hh
    refine go_iast (pc := 58) rfl eh6 ?_
    refine go_al (pc := 59) rfl l0 ?_
    obtain ⟨x7, ex7, hh⟩ := bi_bd hh
    refine go_gfR (pc := 60) rfl ex7 ?_
    refine go_il (pc := 63) rfl l3 ?_
    refine go_al (pc := 64) rfl l1 ?_
    refine go_il (pc := 65) rfl l2 ?_
    refine go_pi (pc := 66) rfl ?_
    refine go_iadd (pc := 68) rfl ?_
    refine go_il (pc := 69) rfl l3 ?_
    refine go_iadd (pc := 70) rfl ?_
    obtain ⟨x8, ex8, hh⟩ := bi_bd hh
    refine go_iald (pc := 71) rfl ex8 ?_
    refine go_pi (pc := 72) rfl ?_
    refine bi_ite hh (fun hc hh => ?_) (fun hc hh => ?_)
    · refine go_cmpneT (pc := 73) rfl hc ?_
      refine go_pi (pc := 80) rfl ?_
      exact sX11_take_81 R39 l0 l1 l2 l3 hh
    · refine go_cmpneF (pc := 73) rfl hc ?_
      refine go_pi (pc := 76) rfl ?_
      refine go_goto (pc := 77) rfl ?_
      exact sX11_take_81 R39 l0 l1 l2 l3 hh
def fX11_take_39 (n : Nat) : Nat → ai_H → Nat → Nat → Int32 → Int32 → Option (Unit × ai_H)
  | 0 => fun _ _ _ _ _ => none
  | k + 1 => fun h v0 v1 v2 v3 => fX11_take_39b n (fX11_take_39 n k) h v0 v1 v2 v3
theorem sX11_take_39 {n : Nat} {q : Unit × ai_H} : ∀ (k : Nat) (h : ai_H) (v0 : Nat) (v1 : Nat) (v2 : Int32) (v3 : Int32) (lv : ai_L), ai_ld 0 lv = some (.ref v0) → ai_ld 1 lv = some (.ref v1) → ai_ld 2 lv = some (.int v2) → ai_ld 3 lv = some (.int v3) → fX11_take_39 n k h v0 v1 v2 v3 = some q → bi_go 0 tX11_take n (fV n q) 39 lv [] h
  | 0 => fun _ _ _ _ _ _ _ _ _ _ hh => by cases hh
  | k + 1 => fun h v0 v1 v2 v3 lv l0 l1 l2 l3 hh => sX11_take_39b  (sX11_take_39  k) l0 l1 l2 l3 hh
def fX11_take_2b (n : Nat) (r2 : ai_H → Nat → Nat → Int32 → Int32 → Option (Unit × ai_H)) (h : ai_H) (v0 : Nat) (v1 : Nat) (v2 : Int32) (v3 : Int32) : Option (Unit × ai_H) :=
  if (4 : Int32) ≤ v3 then (
    fX11_take_39 n bi_K h v0 v1 v2 (0 : Int32))
  else (
    (pR n h v0 11 60).bind fun x1 =>
    (gX 1 n h v1 (v2 + v3)).bind fun x2 =>
    (wX 1 (fun x => x) n h x1 v3 x2).bind fun h3 =>
    (pR n h3 v0 11 61).bind fun x4 =>
    (gX 1 n h3 v1 ((v2 + (4 : Int32)) + v3)).bind fun x5 =>
    (wX 1 (fun x => x) n h3 x4 v3 x5).bind fun h6 =>
    r2 h6 v0 v1 v2 (v3 + 1))
theorem sX11_take_2b {n : Nat} {r2 : ai_H → Nat → Nat → Int32 → Int32 → Option (Unit × ai_H)} {q : Unit × ai_H} {h : ai_H} {v0 : Nat} {v1 : Nat} {v2 : Int32} {v3 : Int32} {lv : ai_L} (R2 : ∀ (h : ai_H) (v0 : Nat) (v1 : Nat) (v2 : Int32) (v3 : Int32) (lv : ai_L), ai_ld 0 lv = some (.ref v0) → ai_ld 1 lv = some (.ref v1) → ai_ld 2 lv = some (.int v2) → ai_ld 3 lv = some (.int v3) → r2 h v0 v1 v2 v3 = some q → bi_go 0 tX11_take n (fV n q) 2 lv [] h) (l0 : ai_ld 0 lv = some (.ref v0)) (l1 : ai_ld 1 lv = some (.ref v1)) (l2 : ai_ld 2 lv = some (.int v2)) (l3 : ai_ld 3 lv = some (.int v3)) (hh : fX11_take_2b n r2 h v0 v1 v2 v3 = some q) : bi_go 0 tX11_take n (fV n q) 2 lv [] h := by
  unfold fX11_take_2b at hh
  refine go_il (pc := 2) rfl l3 ?_
  refine go_pi (pc := 3) rfl ?_
  refine bi_ite hh (fun hc hh => ?_) (fun hc hh => ?_)
  · refine go_cmpgeT (pc := 4) rfl hc ?_
    refine go_pi (pc := 37) rfl ?_
    refine go_is (pc := 38) rfl ?_
    exact sX11_take_39  _ _ _ _ _ _ _ (bi_k1 l0 rfl rfl) (bi_k1 l1 rfl rfl) (bi_k1 l2 rfl rfl) bi_e1 hh
  · refine go_cmpgeF (pc := 4) rfl hc ?_
    refine go_al (pc := 7) rfl l0 ?_
    obtain ⟨x1, ex1, hh⟩ := bi_bd hh
    refine go_gfR (pc := 8) rfl ex1 ?_
    refine go_il (pc := 11) rfl l3 ?_
    refine go_al (pc := 12) rfl l1 ?_
    refine go_il (pc := 13) rfl l2 ?_
    refine go_il (pc := 14) rfl l3 ?_
    refine go_iadd (pc := 15) rfl ?_
    obtain ⟨x2, ex2, hh⟩ := bi_bd hh
    refine go_iald (pc := 16) rfl ex2 ?_
    obtain ⟨h3, eh3, hh⟩ := bi_bd hh
    refine go_iast (pc := 17) rfl eh3 ?_
    refine go_al (pc := 18) rfl l0 ?_
    obtain ⟨x4, ex4, hh⟩ := bi_bd hh
    refine go_gfR (pc := 19) rfl ex4 ?_
    refine go_il (pc := 22) rfl l3 ?_
    refine go_al (pc := 23) rfl l1 ?_
    refine go_il (pc := 24) rfl l2 ?_
    refine go_pi (pc := 25) rfl ?_
    refine go_iadd (pc := 26) rfl ?_
    refine go_il (pc := 27) rfl l3 ?_
    refine go_iadd (pc := 28) rfl ?_
    obtain ⟨x5, ex5, hh⟩ := bi_bd hh
    refine go_iald (pc := 29) rfl ex5 ?_
    obtain ⟨h6, eh6, hh⟩ := bi_bd hh
    refine go_iast (pc := 30) rfl eh6 ?_
    refine go_inc (pc := 31) rfl l3 ?_
    refine go_goto (pc := 34) rfl ?_
    exact R2 _ _ _ _ _ _ (bi_k1 l0 rfl rfl) (bi_k1 l1 rfl rfl) (bi_k1 l2 rfl rfl) bi_e1 hh
def fX11_take_2 (n : Nat) : Nat → ai_H → Nat → Nat → Int32 → Int32 → Option (Unit × ai_H)
  | 0 => fun _ _ _ _ _ => none
  | k + 1 => fun h v0 v1 v2 v3 => fX11_take_2b n (fX11_take_2 n k) h v0 v1 v2 v3
theorem sX11_take_2 {n : Nat} {q : Unit × ai_H} : ∀ (k : Nat) (h : ai_H) (v0 : Nat) (v1 : Nat) (v2 : Int32) (v3 : Int32) (lv : ai_L), ai_ld 0 lv = some (.ref v0) → ai_ld 1 lv = some (.ref v1) → ai_ld 2 lv = some (.int v2) → ai_ld 3 lv = some (.int v3) → fX11_take_2 n k h v0 v1 v2 v3 = some q → bi_go 0 tX11_take n (fV n q) 2 lv [] h
  | 0 => fun _ _ _ _ _ _ _ _ _ _ hh => by cases hh
  | k + 1 => fun h v0 v1 v2 v3 lv l0 l1 l2 l3 hh => sX11_take_2b  (sX11_take_2  k) l0 l1 l2 l3 hh
def fX11_take (n : Nat) (h : ai_H) (a0 : Nat) (a1 : Nat) (a2 : Int32) : Option (Unit × ai_H) :=
  (kO n h a0 11).bind fun _ =>
  fX11_take_2 n bi_K h a0 a1 a2 (0 : Int32)
theorem gX11_take {n : Nat} {h : ai_H} {a0 : Nat} {a1 : Nat} {a2 : Int32} {q : Unit × ai_H} (hh : fX11_take n h a0 a1 a2 = some q) : kO n h a0 11 = some () := by
  obtain ⟨_, e, -⟩ := bi_bd hh
  exact e
theorem sX11_take {n : Nat} {h : ai_H} {a0 : Nat} {a1 : Nat} {a2 : Int32} {q : Unit × ai_H} (hh : fX11_take n h a0 a1 a2 = some q) : bi_sp 1 261 [.ref a0, .ref a1, .int a2] h n (fV n q) := by
  refine bi_en (D := 0) (T := tX11_take) (funext fun pc => rfl) rfl (Nat.le_of_ble_eq_true rfl) ?_
  unfold fX11_take at hh
  obtain ⟨_, eO, hh⟩ := bi_bd hh
  refine go_pi (pc := 0) rfl ?_
  refine go_is (pc := 1) rfl ?_
  exact sX11_take_2  _ _ _ _ _ _ _ (bi_k1 (rfl : ai_ld 0 (lv_args 0 [.ref a0, .ref a1, .int a2]) = some (.ref a0)) rfl rfl) (bi_k1 (rfl : ai_ld 1 (lv_args 0 [.ref a0, .ref a1, .int a2]) = some (.ref a1)) rfl rfl) (bi_k1 (rfl : ai_ld 2 (lv_args 0 [.ref a0, .ref a1, .int a2]) = some (.int a2)) rfl rfl) bi_e1 hh
def fX11_undo (n : Nat) (h : ai_H) (a0 : Nat) : Option (Int32 × ai_H) :=
  (kO n h a0 11).bind fun _ =>
  (sF n h a0 11 2 (.int) (.int (0 : Int32))).bind fun h1 =>
  (pI n h1 a0 11 89).bind fun x2 =>
  if ¬ x2 = 0 then (
    (pI n h1 a0 11 89).bind fun x3 =>
    (sF n h1 a0 11 89 (.int) (.int (x3 - (1 : Int32)))).bind fun h4 =>
    (pR n h4 a0 11 90).bind fun x5 =>
    (pI n h4 a0 11 89).bind fun x6 =>
    (fX11_take n h4 a0 x5 ((36 : Int32) * x6)).bind fun q7 =>
    (pI n q7.2 a0 11 89).bind fun x8 =>
    some (x8, q7.2))
  else (
    some ((-1 : Int32), h1))
theorem gX11_undo {n : Nat} {h : ai_H} {a0 : Nat} {q : Int32 × ai_H} (hh : fX11_undo n h a0 = some q) : kO n h a0 11 = some () := by
  obtain ⟨_, e, -⟩ := bi_bd hh
  exact e
theorem sX11_undo {n : Nat} {h : ai_H} {a0 : Nat} {q : Int32 × ai_H} (hh : fX11_undo n h a0 = some q) : bi_sp 2 263 [.ref a0] h n (fI n q) := by
  refine bi_en (D := 1) (T := tX11_undo) (funext fun pc => rfl) rfl (Nat.le_of_ble_eq_true rfl) ?_
  unfold fX11_undo at hh
  obtain ⟨_, eO, hh⟩ := bi_bd hh
  refine go_al (pc := 0) rfl (rfl : ai_ld 0 (lv_args 0 [.ref a0]) = some (.ref a0)) ?_
  refine go_pi (pc := 1) rfl ?_
  obtain ⟨h1, eh1, hh⟩ := bi_bd hh
  refine go_pf (pc := 2) rfl eh1 ?_
  refine go_al (pc := 5) rfl (rfl : ai_ld 0 (lv_args 0 [.ref a0]) = some (.ref a0)) ?_
  obtain ⟨x2, ex2, hh⟩ := bi_bd hh
  refine go_gfI (pc := 6) rfl ex2 ?_
  refine bi_ite hh (fun hc hh => ?_) (fun hc hh => ?_)
  · refine go_ifneT (pc := 9) rfl hc ?_
    refine go_al (pc := 14) rfl (rfl : ai_ld 0 (lv_args 0 [.ref a0]) = some (.ref a0)) ?_
    refine go_dup (pc := 15) rfl rfl ?_
    obtain ⟨x3, ex3, hh⟩ := bi_bd hh
    refine go_gfI (pc := 16) rfl ex3 ?_
    refine go_pi (pc := 19) rfl ?_
    refine go_isub (pc := 20) rfl ?_
    obtain ⟨h4, eh4, hh⟩ := bi_bd hh
    refine go_pf (pc := 21) rfl eh4 ?_
    refine go_al (pc := 24) rfl (rfl : ai_ld 0 (lv_args 0 [.ref a0]) = some (.ref a0)) ?_
    refine go_al (pc := 25) rfl (rfl : ai_ld 0 (lv_args 0 [.ref a0]) = some (.ref a0)) ?_
    obtain ⟨x5, ex5, hh⟩ := bi_bd hh
    refine go_gfR (pc := 26) rfl ex5 ?_
    refine go_pi (pc := 29) rfl ?_
    refine go_al (pc := 31) rfl (rfl : ai_ld 0 (lv_args 0 [.ref a0]) = some (.ref a0)) ?_
    obtain ⟨x6, ex6, hh⟩ := bi_bd hh
    refine go_gfI (pc := 32) rfl ex6 ?_
    refine go_imul (pc := 35) rfl ?_
    obtain ⟨q7, eq7, hh⟩ := bi_bd hh
    refine go_ivV (pc := 36) rfl rfl (gX11_take eq7) (Nat.le_of_ble_eq_true rfl) (bi_up (sX11_take eq7) (Nat.le_of_ble_eq_true rfl)) ?_
    refine go_al (pc := 39) rfl (rfl : ai_ld 0 (lv_args 0 [.ref a0]) = some (.ref a0)) ?_
    obtain ⟨x8, ex8, hh⟩ := bi_bd hh
    refine go_gfI (pc := 40) rfl ex8 ?_
    exact go_ri (pc := 43) rfl hh
  · refine go_ifneF (pc := 9) rfl hc ?_
    refine go_pi (pc := 12) rfl ?_
    exact go_ri (pc := 13) rfl hh
def fX11_keep (n : Nat) (h : ai_H) (a0 : Nat) : Option (Int32 × ai_H) :=
  (kO n h a0 11).bind fun _ =>
  (sF n h a0 11 2 (.int) (.int (0 : Int32))).bind fun h1 =>
  (sF n h1 a0 11 91 (.boolean) (.int (1 : Int32))).bind fun h2 =>
  (pR n h2 a0 11 92).bind fun x3 =>
  (fX11_put n h2 a0 x3 (0 : Int32)).bind fun q4 =>
  (pR n q4.2 a0 11 66).bind fun x5 =>
  (gX 1 n q4.2 x5 (0 : Int32)).bind fun x6 =>
  (sF n q4.2 a0 11 93 (.int) (.int x6)).bind fun h7 =>
  (pR n h7 a0 11 67).bind fun x8 =>
  (gX 1 n h7 x8 (0 : Int32)).bind fun x9 =>
  (sF n h7 a0 11 94 (.int) (.int x9)).bind fun h10 =>
  (pJ n h10 a0 11 68).bind fun x11 =>
  (sF n h10 a0 11 95 (.long) (.long x11)).bind fun h12 =>
  (pR n h12 a0 11 67).bind fun x13 =>
  (gX 1 n h12 x13 (0 : Int32)).bind fun x14 =>
  some (x14, h12)
theorem gX11_keep {n : Nat} {h : ai_H} {a0 : Nat} {q : Int32 × ai_H} (hh : fX11_keep n h a0 = some q) : kO n h a0 11 = some () := by
  obtain ⟨_, e, -⟩ := bi_bd hh
  exact e
theorem sX11_keep {n : Nat} {h : ai_H} {a0 : Nat} {q : Int32 × ai_H} (hh : fX11_keep n h a0 = some q) : bi_sp 2 264 [.ref a0] h n (fI n q) := by
  refine bi_en (D := 1) (T := tX11_keep) (funext fun pc => rfl) rfl (Nat.le_of_ble_eq_true rfl) ?_
  unfold fX11_keep at hh
  obtain ⟨_, eO, hh⟩ := bi_bd hh
  refine go_al (pc := 0) rfl (rfl : ai_ld 0 (lv_args 0 [.ref a0]) = some (.ref a0)) ?_
  refine go_pi (pc := 1) rfl ?_
  obtain ⟨h1, eh1, hh⟩ := bi_bd hh
  refine go_pf (pc := 2) rfl eh1 ?_
  refine go_al (pc := 5) rfl (rfl : ai_ld 0 (lv_args 0 [.ref a0]) = some (.ref a0)) ?_
  refine go_pi (pc := 6) rfl ?_
  obtain ⟨h2, eh2, hh⟩ := bi_bd hh
  refine go_pf (pc := 7) rfl eh2 ?_
  refine go_al (pc := 10) rfl (rfl : ai_ld 0 (lv_args 0 [.ref a0]) = some (.ref a0)) ?_
  refine go_al (pc := 11) rfl (rfl : ai_ld 0 (lv_args 0 [.ref a0]) = some (.ref a0)) ?_
  obtain ⟨x3, ex3, hh⟩ := bi_bd hh
  refine go_gfR (pc := 12) rfl ex3 ?_
  refine go_pi (pc := 15) rfl ?_
  obtain ⟨q4, eq4, hh⟩ := bi_bd hh
  refine go_ivV (pc := 16) rfl rfl (gX11_put eq4) (Nat.le_of_ble_eq_true rfl) (bi_up (sX11_put eq4) (Nat.le_of_ble_eq_true rfl)) ?_
  refine go_al (pc := 19) rfl (rfl : ai_ld 0 (lv_args 0 [.ref a0]) = some (.ref a0)) ?_
  refine go_al (pc := 20) rfl (rfl : ai_ld 0 (lv_args 0 [.ref a0]) = some (.ref a0)) ?_
  obtain ⟨x5, ex5, hh⟩ := bi_bd hh
  refine go_gfR (pc := 21) rfl ex5 ?_
  refine go_pi (pc := 24) rfl ?_
  obtain ⟨x6, ex6, hh⟩ := bi_bd hh
  refine go_iald (pc := 25) rfl ex6 ?_
  obtain ⟨h7, eh7, hh⟩ := bi_bd hh
  refine go_pf (pc := 26) rfl eh7 ?_
  refine go_al (pc := 29) rfl (rfl : ai_ld 0 (lv_args 0 [.ref a0]) = some (.ref a0)) ?_
  refine go_al (pc := 30) rfl (rfl : ai_ld 0 (lv_args 0 [.ref a0]) = some (.ref a0)) ?_
  obtain ⟨x8, ex8, hh⟩ := bi_bd hh
  refine go_gfR (pc := 31) rfl ex8 ?_
  refine go_pi (pc := 34) rfl ?_
  obtain ⟨x9, ex9, hh⟩ := bi_bd hh
  refine go_iald (pc := 35) rfl ex9 ?_
  obtain ⟨h10, eh10, hh⟩ := bi_bd hh
  refine go_pf (pc := 36) rfl eh10 ?_
  refine go_al (pc := 39) rfl (rfl : ai_ld 0 (lv_args 0 [.ref a0]) = some (.ref a0)) ?_
  refine go_al (pc := 40) rfl (rfl : ai_ld 0 (lv_args 0 [.ref a0]) = some (.ref a0)) ?_
  obtain ⟨x11, ex11, hh⟩ := bi_bd hh
  refine go_gfJ (pc := 41) rfl ex11 ?_
  obtain ⟨h12, eh12, hh⟩ := bi_bd hh
  refine go_pf (pc := 44) rfl eh12 ?_
  refine go_al (pc := 47) rfl (rfl : ai_ld 0 (lv_args 0 [.ref a0]) = some (.ref a0)) ?_
  obtain ⟨x13, ex13, hh⟩ := bi_bd hh
  refine go_gfR (pc := 48) rfl ex13 ?_
  refine go_pi (pc := 51) rfl ?_
  obtain ⟨x14, ex14, hh⟩ := bi_bd hh
  refine go_iald (pc := 52) rfl ex14 ?_
  exact go_ri (pc := 53) rfl hh
def fX11_back (n : Nat) (h : ai_H) (a0 : Nat) : Option (Int32 × ai_H) :=
  (kO n h a0 11).bind fun _ =>
  (sF n h a0 11 2 (.int) (.int (0 : Int32))).bind fun h1 =>
  (pI n h1 a0 11 91).bind fun x2 =>
  if ¬ x2 = 0 then (
    (pR n h1 a0 11 92).bind fun x3 =>
    (fX11_take n h1 a0 x3 (0 : Int32)).bind fun q4 =>
    (pR n q4.2 a0 11 66).bind fun x5 =>
    (pI n q4.2 a0 11 93).bind fun x6 =>
    (wX 1 (fun x => x) n q4.2 x5 (0 : Int32) x6).bind fun h7 =>
    (pR n h7 a0 11 67).bind fun x8 =>
    (pI n h7 a0 11 94).bind fun x9 =>
    (wX 1 (fun x => x) n h7 x8 (0 : Int32) x9).bind fun h10 =>
    (pJ n h10 a0 11 95).bind fun x11 =>
    (sF n h10 a0 11 68 (.long) (.long x11)).bind fun h12 =>
    (sF n h12 a0 11 89 (.int) (.int (0 : Int32))).bind fun h13 =>
    (pR n h13 a0 11 67).bind fun x14 =>
    (gX 1 n h13 x14 (0 : Int32)).bind fun x15 =>
    some (x15, h13))
  else (
    some ((-1 : Int32), h1))
theorem gX11_back {n : Nat} {h : ai_H} {a0 : Nat} {q : Int32 × ai_H} (hh : fX11_back n h a0 = some q) : kO n h a0 11 = some () := by
  obtain ⟨_, e, -⟩ := bi_bd hh
  exact e
theorem sX11_back {n : Nat} {h : ai_H} {a0 : Nat} {q : Int32 × ai_H} (hh : fX11_back n h a0 = some q) : bi_sp 2 265 [.ref a0] h n (fI n q) := by
  refine bi_en (D := 1) (T := tX11_back) (funext fun pc => rfl) rfl (Nat.le_of_ble_eq_true rfl) ?_
  unfold fX11_back at hh
  obtain ⟨_, eO, hh⟩ := bi_bd hh
  refine go_al (pc := 0) rfl (rfl : ai_ld 0 (lv_args 0 [.ref a0]) = some (.ref a0)) ?_
  refine go_pi (pc := 1) rfl ?_
  obtain ⟨h1, eh1, hh⟩ := bi_bd hh
  refine go_pf (pc := 2) rfl eh1 ?_
  refine go_al (pc := 5) rfl (rfl : ai_ld 0 (lv_args 0 [.ref a0]) = some (.ref a0)) ?_
  obtain ⟨x2, ex2, hh⟩ := bi_bd hh
  refine go_gfI (pc := 6) rfl ex2 ?_
  refine bi_ite hh (fun hc hh => ?_) (fun hc hh => ?_)
  · refine go_ifneT (pc := 9) rfl hc ?_
    refine go_al (pc := 14) rfl (rfl : ai_ld 0 (lv_args 0 [.ref a0]) = some (.ref a0)) ?_
    refine go_al (pc := 15) rfl (rfl : ai_ld 0 (lv_args 0 [.ref a0]) = some (.ref a0)) ?_
    obtain ⟨x3, ex3, hh⟩ := bi_bd hh
    refine go_gfR (pc := 16) rfl ex3 ?_
    refine go_pi (pc := 19) rfl ?_
    obtain ⟨q4, eq4, hh⟩ := bi_bd hh
    refine go_ivV (pc := 20) rfl rfl (gX11_take eq4) (Nat.le_of_ble_eq_true rfl) (bi_up (sX11_take eq4) (Nat.le_of_ble_eq_true rfl)) ?_
    refine go_al (pc := 23) rfl (rfl : ai_ld 0 (lv_args 0 [.ref a0]) = some (.ref a0)) ?_
    obtain ⟨x5, ex5, hh⟩ := bi_bd hh
    refine go_gfR (pc := 24) rfl ex5 ?_
    refine go_pi (pc := 27) rfl ?_
    refine go_al (pc := 28) rfl (rfl : ai_ld 0 (lv_args 0 [.ref a0]) = some (.ref a0)) ?_
    obtain ⟨x6, ex6, hh⟩ := bi_bd hh
    refine go_gfI (pc := 29) rfl ex6 ?_
    obtain ⟨h7, eh7, hh⟩ := bi_bd hh
    refine go_iast (pc := 32) rfl eh7 ?_
    refine go_al (pc := 33) rfl (rfl : ai_ld 0 (lv_args 0 [.ref a0]) = some (.ref a0)) ?_
    obtain ⟨x8, ex8, hh⟩ := bi_bd hh
    refine go_gfR (pc := 34) rfl ex8 ?_
    refine go_pi (pc := 37) rfl ?_
    refine go_al (pc := 38) rfl (rfl : ai_ld 0 (lv_args 0 [.ref a0]) = some (.ref a0)) ?_
    obtain ⟨x9, ex9, hh⟩ := bi_bd hh
    refine go_gfI (pc := 39) rfl ex9 ?_
    obtain ⟨h10, eh10, hh⟩ := bi_bd hh
    refine go_iast (pc := 42) rfl eh10 ?_
    refine go_al (pc := 43) rfl (rfl : ai_ld 0 (lv_args 0 [.ref a0]) = some (.ref a0)) ?_
    refine go_al (pc := 44) rfl (rfl : ai_ld 0 (lv_args 0 [.ref a0]) = some (.ref a0)) ?_
    obtain ⟨x11, ex11, hh⟩ := bi_bd hh
    refine go_gfJ (pc := 45) rfl ex11 ?_
    obtain ⟨h12, eh12, hh⟩ := bi_bd hh
    refine go_pf (pc := 48) rfl eh12 ?_
    refine go_al (pc := 51) rfl (rfl : ai_ld 0 (lv_args 0 [.ref a0]) = some (.ref a0)) ?_
    refine go_pi (pc := 52) rfl ?_
    obtain ⟨h13, eh13, hh⟩ := bi_bd hh
    refine go_pf (pc := 53) rfl eh13 ?_
    refine go_al (pc := 56) rfl (rfl : ai_ld 0 (lv_args 0 [.ref a0]) = some (.ref a0)) ?_
    obtain ⟨x14, ex14, hh⟩ := bi_bd hh
    refine go_gfR (pc := 57) rfl ex14 ?_
    refine go_pi (pc := 60) rfl ?_
    obtain ⟨x15, ex15, hh⟩ := bi_bd hh
    refine go_iald (pc := 61) rfl ex15 ?_
    exact go_ri (pc := 62) rfl hh
  · refine go_ifneF (pc := 9) rfl hc ?_
    refine go_pi (pc := 12) rfl ?_
    exact go_ri (pc := 13) rfl hh
def fX11_count_159 (n : Nat) (r135 : ai_H → Nat → Int32 → Int32 → Option (Int32 × ai_H)) (h : ai_H) (v0 : Nat) (v3 : Int32) (s0 : Int32) (s1 : Int32) : Option (Int32 × ai_H) :=
  r135 h v0 (s1 + s0) (v3 + 1)
theorem sX11_count_159 {n : Nat} {r135 : ai_H → Nat → Int32 → Int32 → Option (Int32 × ai_H)} {q : Int32 × ai_H} {h : ai_H} {v0 : Nat} {v3 : Int32} {s0 : Int32} {s1 : Int32} {lv : ai_L} (R135 : ∀ (h : ai_H) (v0 : Nat) (v2 : Int32) (v3 : Int32) (lv : ai_L), ai_ld 0 lv = some (.ref v0) → ai_ld 2 lv = some (.int v2) → ai_ld 3 lv = some (.int v3) → r135 h v0 v2 v3 = some q → bi_go 1 tX11_count n (fI n q) 135 lv [] h) (l0 : ai_ld 0 lv = some (.ref v0)) (l3 : ai_ld 3 lv = some (.int v3)) (hh : fX11_count_159 n r135 h v0 v3 s0 s1 = some q) : bi_go 1 tX11_count n (fI n q) 159 lv [.int s0, .int s1] h := by
  unfold fX11_count_159 at hh
  refine go_iadd (pc := 159) rfl ?_
  refine go_is (pc := 160) rfl ?_
  refine go_inc (pc := 161) rfl (bi_k1 l3 rfl rfl) ?_
  refine go_goto (pc := 164) rfl ?_
  exact R135 _ _ _ _ _ (bi_k1 (bi_k1 l0 rfl rfl) rfl rfl) (bi_k1 bi_e1 rfl rfl) bi_e1 hh
def fX11_count_135b (n : Nat) (r135 : ai_H → Nat → Int32 → Int32 → Option (Int32 × ai_H)) (h : ai_H) (v0 : Nat) (v2 : Int32) (v3 : Int32) : Option (Int32 × ai_H) :=
  (pI n h v0 11 12).bind fun x1 =>
  if x1 ≤ v3 then (
    some (v2, h))
  else (
    (pR n h v0 11 79).bind fun x2 =>
    (gX 1 n h x2 v3).bind fun x3 =>
    if ¬ x3 = v3 then (
      fX11_count_159 n r135 h v0 v3 (0 : Int32) v2)
    else (
      fX11_count_159 n r135 h v0 v3 (1 : Int32) v2))
theorem sX11_count_135b {n : Nat} {r135 : ai_H → Nat → Int32 → Int32 → Option (Int32 × ai_H)} {q : Int32 × ai_H} {h : ai_H} {v0 : Nat} {v2 : Int32} {v3 : Int32} {lv : ai_L} (R135 : ∀ (h : ai_H) (v0 : Nat) (v2 : Int32) (v3 : Int32) (lv : ai_L), ai_ld 0 lv = some (.ref v0) → ai_ld 2 lv = some (.int v2) → ai_ld 3 lv = some (.int v3) → r135 h v0 v2 v3 = some q → bi_go 1 tX11_count n (fI n q) 135 lv [] h) (l0 : ai_ld 0 lv = some (.ref v0)) (l2 : ai_ld 2 lv = some (.int v2)) (l3 : ai_ld 3 lv = some (.int v3)) (hh : fX11_count_135b n r135 h v0 v2 v3 = some q) : bi_go 1 tX11_count n (fI n q) 135 lv [] h := by
  unfold fX11_count_135b at hh
  refine go_il (pc := 135) rfl l3 ?_
  refine go_al (pc := 136) rfl l0 ?_
  obtain ⟨x1, ex1, hh⟩ := bi_bd hh
  refine go_gfI (pc := 137) rfl ex1 ?_
  refine bi_ite hh (fun hc hh => ?_) (fun hc hh => ?_)
  · refine go_cmpgeT (pc := 140) rfl hc ?_
    refine go_il (pc := 167) rfl l2 ?_
    exact go_ri (pc := 168) rfl hh
  · refine go_cmpgeF (pc := 140) rfl hc ?_
    refine go_il (pc := 143) rfl l2 ?_
    refine go_al (pc := 144) rfl l0 ?_
    obtain ⟨x2, ex2, hh⟩ := bi_bd hh
    refine go_gfR (pc := 145) rfl ex2 ?_
    refine go_il (pc := 148) rfl l3 ?_
    obtain ⟨x3, ex3, hh⟩ := bi_bd hh
    refine go_iald (pc := 149) rfl ex3 ?_
    refine go_il (pc := 150) rfl l3 ?_
    refine bi_ite hh (fun hc hh => ?_) (fun hc hh => ?_)
    · refine go_cmpneT (pc := 151) rfl hc ?_
      refine go_pi (pc := 158) rfl ?_
      exact sX11_count_159 R135 l0 l3 hh
    · refine go_cmpneF (pc := 151) rfl hc ?_
      refine go_pi (pc := 154) rfl ?_
      refine go_goto (pc := 155) rfl ?_
      exact sX11_count_159 R135 l0 l3 hh
def fX11_count_135 (n : Nat) : Nat → ai_H → Nat → Int32 → Int32 → Option (Int32 × ai_H)
  | 0 => fun _ _ _ _ => none
  | k + 1 => fun h v0 v2 v3 => fX11_count_135b n (fX11_count_135 n k) h v0 v2 v3
theorem sX11_count_135 {n : Nat} {q : Int32 × ai_H} : ∀ (k : Nat) (h : ai_H) (v0 : Nat) (v2 : Int32) (v3 : Int32) (lv : ai_L), ai_ld 0 lv = some (.ref v0) → ai_ld 2 lv = some (.int v2) → ai_ld 3 lv = some (.int v3) → fX11_count_135 n k h v0 v2 v3 = some q → bi_go 1 tX11_count n (fI n q) 135 lv [] h
  | 0 => fun _ _ _ _ _ _ _ _ hh => by cases hh
  | k + 1 => fun h v0 v2 v3 lv l0 l2 l3 hh => sX11_count_135b  (sX11_count_135  k) l0 l2 l3 hh
def fX11_count (n : Nat) (h : ai_H) (a0 : Nat) (a1 : Int32) : Option (Int32 × ai_H) :=
  (kO n h a0 11).bind fun _ =>
  (sF n h a0 11 2 (.int) (.int (0 : Int32))).bind fun h1 =>
  if a1 = 0 then (
    (pI n h1 a0 11 12).bind fun x2 =>
    some (x2, h1))
  else (
    if a1 = 1 then (
      (pI n h1 a0 11 13).bind fun x3 =>
      some (x3, h1))
    else (
      if a1 = 2 then (
        (pI n h1 a0 11 14).bind fun x4 =>
        some (x4, h1))
      else (
        if a1 = 3 then (
          (pI n h1 a0 11 15).bind fun x5 =>
          some (x5, h1))
        else (
          if a1 = 4 then (
            (pI n h1 a0 11 17).bind fun x6 =>
            some (x6, h1))
          else (
            if a1 = 5 then (
              (pR n h1 a0 11 67).bind fun x7 =>
              (gX 1 n h1 x7 (0 : Int32)).bind fun x8 =>
              some (x8, h1))
            else (
              if a1 = 6 then (
                (fX11_keptMany n h1 a0 (0 : Int32)).bind fun q9 =>
                some (q9.1, q9.2))
              else (
                if a1 = 7 then (
                  (pR n h1 a0 11 65).bind fun x10 =>
                  (gX 1 n h1 x10 (0 : Int32)).bind fun x11 =>
                  some (x11, h1))
                else (
                  if a1 = 8 then (
                    (pR n h1 a0 11 66).bind fun x12 =>
                    (gX 1 n h1 x12 (0 : Int32)).bind fun x13 =>
                    some (x13, h1))
                  else (
                    if a1 = 9 then (
                      (fX11_layRoots n h1 a0 (-1 : Int32)).bind fun q14 =>
                      fX11_count_135 n bi_K q14.2 a0 (0 : Int32) (0 : Int32))
                    else (
                      if a1 = 10 then (
                        (pI n h1 a0 11 84).bind fun x15 =>
                        some (x15, h1))
                      else (
                        if a1 = 11 then (
                          (fX11_knownBy n h1 a0).bind fun q16 =>
                          some (q16.1, q16.2))
                        else (
                          if a1 = 12 then (
                            (pI n h1 a0 11 89).bind fun x17 =>
                            some (x17, h1))
                          else (
                            some ((-1 : Int32), h1))))))))))))))
theorem gX11_count {n : Nat} {h : ai_H} {a0 : Nat} {a1 : Int32} {q : Int32 × ai_H} (hh : fX11_count n h a0 a1 = some q) : kO n h a0 11 = some () := by
  obtain ⟨_, e, -⟩ := bi_bd hh
  exact e
theorem sX11_count {n : Nat} {h : ai_H} {a0 : Nat} {a1 : Int32} {q : Int32 × ai_H} (hh : fX11_count n h a0 a1 = some q) : bi_sp 2 266 [.ref a0, .int a1] h n (fI n q) := by
  refine bi_en (D := 1) (T := tX11_count) (funext fun pc => rfl) rfl (Nat.le_of_ble_eq_true rfl) ?_
  unfold fX11_count at hh
  obtain ⟨_, eO, hh⟩ := bi_bd hh
  refine go_al (pc := 0) rfl (rfl : ai_ld 0 (lv_args 0 [.ref a0, .int a1]) = some (.ref a0)) ?_
  refine go_pi (pc := 1) rfl ?_
  obtain ⟨h1, eh1, hh⟩ := bi_bd hh
  refine go_pf (pc := 2) rfl eh1 ?_
  refine go_pi (pc := 5) rfl ?_
  refine go_is (pc := 6) rfl ?_
  refine go_il (pc := 7) rfl (bi_k1 (rfl : ai_ld 1 (lv_args 0 [.ref a0, .int a1]) = some (.int a1)) rfl rfl) ?_
  refine bi_ite hh (fun hc0 hh => ?_) (fun hc0 hh => ?_)
  · refine go_swc (t := 76) 0 (pc := 8) rfl hc0 (by decide) ?_
    refine go_al (pc := 76) rfl (bi_k1 (rfl : ai_ld 0 (lv_args 0 [.ref a0, .int a1]) = some (.ref a0)) rfl rfl) ?_
    obtain ⟨x2, ex2, hh⟩ := bi_bd hh
    refine go_gfI (pc := 77) rfl ex2 ?_
    exact go_ri (pc := 80) rfl hh
  · skip
    refine bi_ite hh (fun hc1 hh => ?_) (fun hc1 hh => ?_)
    · refine go_swc (t := 81) 1 (pc := 8) rfl hc1 (by decide) ?_
      refine go_al (pc := 81) rfl (bi_k1 (rfl : ai_ld 0 (lv_args 0 [.ref a0, .int a1]) = some (.ref a0)) rfl rfl) ?_
      obtain ⟨x3, ex3, hh⟩ := bi_bd hh
      refine go_gfI (pc := 82) rfl ex3 ?_
      exact go_ri (pc := 85) rfl hh
    · skip
      refine bi_ite hh (fun hc2 hh => ?_) (fun hc2 hh => ?_)
      · refine go_swc (t := 86) 2 (pc := 8) rfl hc2 (by decide) ?_
        refine go_al (pc := 86) rfl (bi_k1 (rfl : ai_ld 0 (lv_args 0 [.ref a0, .int a1]) = some (.ref a0)) rfl rfl) ?_
        obtain ⟨x4, ex4, hh⟩ := bi_bd hh
        refine go_gfI (pc := 87) rfl ex4 ?_
        exact go_ri (pc := 90) rfl hh
      · skip
        refine bi_ite hh (fun hc3 hh => ?_) (fun hc3 hh => ?_)
        · refine go_swc (t := 91) 3 (pc := 8) rfl hc3 (by decide) ?_
          refine go_al (pc := 91) rfl (bi_k1 (rfl : ai_ld 0 (lv_args 0 [.ref a0, .int a1]) = some (.ref a0)) rfl rfl) ?_
          obtain ⟨x5, ex5, hh⟩ := bi_bd hh
          refine go_gfI (pc := 92) rfl ex5 ?_
          exact go_ri (pc := 95) rfl hh
        · skip
          refine bi_ite hh (fun hc4 hh => ?_) (fun hc4 hh => ?_)
          · refine go_swc (t := 96) 4 (pc := 8) rfl hc4 (by decide) ?_
            refine go_al (pc := 96) rfl (bi_k1 (rfl : ai_ld 0 (lv_args 0 [.ref a0, .int a1]) = some (.ref a0)) rfl rfl) ?_
            obtain ⟨x6, ex6, hh⟩ := bi_bd hh
            refine go_gfI (pc := 97) rfl ex6 ?_
            exact go_ri (pc := 100) rfl hh
          · skip
            refine bi_ite hh (fun hc5 hh => ?_) (fun hc5 hh => ?_)
            · refine go_swc (t := 101) 5 (pc := 8) rfl hc5 (by decide) ?_
              refine go_al (pc := 101) rfl (bi_k1 (rfl : ai_ld 0 (lv_args 0 [.ref a0, .int a1]) = some (.ref a0)) rfl rfl) ?_
              obtain ⟨x7, ex7, hh⟩ := bi_bd hh
              refine go_gfR (pc := 102) rfl ex7 ?_
              refine go_pi (pc := 105) rfl ?_
              obtain ⟨x8, ex8, hh⟩ := bi_bd hh
              refine go_iald (pc := 106) rfl ex8 ?_
              exact go_ri (pc := 107) rfl hh
            · skip
              refine bi_ite hh (fun hc6 hh => ?_) (fun hc6 hh => ?_)
              · refine go_swc (t := 108) 6 (pc := 8) rfl hc6 (by decide) ?_
                refine go_al (pc := 108) rfl (bi_k1 (rfl : ai_ld 0 (lv_args 0 [.ref a0, .int a1]) = some (.ref a0)) rfl rfl) ?_
                refine go_pi (pc := 109) rfl ?_
                obtain ⟨q9, eq9, hh⟩ := bi_bd hh
                refine go_ivI (pc := 110) rfl rfl (gX11_keptMany eq9) (Nat.le_of_ble_eq_true rfl) (bi_up (sX11_keptMany eq9) (Nat.le_of_ble_eq_true rfl)) ?_
                exact go_ri (pc := 113) rfl hh
              · skip
                refine bi_ite hh (fun hc7 hh => ?_) (fun hc7 hh => ?_)
                · refine go_swc (t := 114) 7 (pc := 8) rfl hc7 (by decide) ?_
                  refine go_al (pc := 114) rfl (bi_k1 (rfl : ai_ld 0 (lv_args 0 [.ref a0, .int a1]) = some (.ref a0)) rfl rfl) ?_
                  obtain ⟨x10, ex10, hh⟩ := bi_bd hh
                  refine go_gfR (pc := 115) rfl ex10 ?_
                  refine go_pi (pc := 118) rfl ?_
                  obtain ⟨x11, ex11, hh⟩ := bi_bd hh
                  refine go_iald (pc := 119) rfl ex11 ?_
                  exact go_ri (pc := 120) rfl hh
                · skip
                  refine bi_ite hh (fun hc8 hh => ?_) (fun hc8 hh => ?_)
                  · refine go_swc (t := 121) 8 (pc := 8) rfl hc8 (by decide) ?_
                    refine go_al (pc := 121) rfl (bi_k1 (rfl : ai_ld 0 (lv_args 0 [.ref a0, .int a1]) = some (.ref a0)) rfl rfl) ?_
                    obtain ⟨x12, ex12, hh⟩ := bi_bd hh
                    refine go_gfR (pc := 122) rfl ex12 ?_
                    refine go_pi (pc := 125) rfl ?_
                    obtain ⟨x13, ex13, hh⟩ := bi_bd hh
                    refine go_iald (pc := 126) rfl ex13 ?_
                    exact go_ri (pc := 127) rfl hh
                  · skip
                    refine bi_ite hh (fun hc9 hh => ?_) (fun hc9 hh => ?_)
                    · refine go_swc (t := 128) 9 (pc := 8) rfl hc9 (by decide) ?_
                      refine go_al (pc := 128) rfl (bi_k1 (rfl : ai_ld 0 (lv_args 0 [.ref a0, .int a1]) = some (.ref a0)) rfl rfl) ?_
                      refine go_pi (pc := 129) rfl ?_
                      obtain ⟨q14, eq14, hh⟩ := bi_bd hh
                      refine go_ivV (pc := 130) rfl rfl (gX11_layRoots eq14) (Nat.le_of_ble_eq_true rfl) (bi_up (sX11_layRoots eq14) (Nat.le_of_ble_eq_true rfl)) ?_
                      refine go_pi (pc := 133) rfl ?_
                      refine go_is (pc := 134) rfl ?_
                      exact sX11_count_135  _ _ _ _ _ _ (bi_k1 (bi_k1 (rfl : ai_ld 0 (lv_args 0 [.ref a0, .int a1]) = some (.ref a0)) rfl rfl) rfl rfl) (bi_k1 bi_e1 rfl rfl) bi_e1 hh
                    · skip
                      refine bi_ite hh (fun hc10 hh => ?_) (fun hc10 hh => ?_)
                      · refine go_swc (t := 169) 10 (pc := 8) rfl hc10 (by decide) ?_
                        refine go_al (pc := 169) rfl (bi_k1 (rfl : ai_ld 0 (lv_args 0 [.ref a0, .int a1]) = some (.ref a0)) rfl rfl) ?_
                        obtain ⟨x15, ex15, hh⟩ := bi_bd hh
                        refine go_gfI (pc := 170) rfl ex15 ?_
                        exact go_ri (pc := 173) rfl hh
                      · skip
                        refine bi_ite hh (fun hc11 hh => ?_) (fun hc11 hh => ?_)
                        · refine go_swc (t := 174) 11 (pc := 8) rfl hc11 (by decide) ?_
                          refine go_al (pc := 174) rfl (bi_k1 (rfl : ai_ld 0 (lv_args 0 [.ref a0, .int a1]) = some (.ref a0)) rfl rfl) ?_
                          obtain ⟨q16, eq16, hh⟩ := bi_bd hh
                          refine go_ivI (pc := 175) rfl rfl (gX11_knownBy eq16) (Nat.le_of_ble_eq_true rfl) (bi_up (sX11_knownBy eq16) (Nat.le_of_ble_eq_true rfl)) ?_
                          exact go_ri (pc := 178) rfl hh
                        · skip
                          refine bi_ite hh (fun hc12 hh => ?_) (fun hc12 hh => ?_)
                          · refine go_swc (t := 179) 12 (pc := 8) rfl hc12 (by decide) ?_
                            refine go_al (pc := 179) rfl (bi_k1 (rfl : ai_ld 0 (lv_args 0 [.ref a0, .int a1]) = some (.ref a0)) rfl rfl) ?_
                            obtain ⟨x17, ex17, hh⟩ := bi_bd hh
                            refine go_gfI (pc := 180) rfl ex17 ?_
                            exact go_ri (pc := 183) rfl hh
                          · skip
                            refine go_swd (pc := 8) rfl (fun i hi => match i, hi with | 0, _ => Or.inr (lv_neT hc0 (by decide)) | 1, _ => Or.inr (lv_neT hc1 (by decide)) | 2, _ => Or.inr (lv_neT hc2 (by decide)) | 3, _ => Or.inr (lv_neT hc3 (by decide)) | 4, _ => Or.inr (lv_neT hc4 (by decide)) | 5, _ => Or.inr (lv_neT hc5 (by decide)) | 6, _ => Or.inr (lv_neT hc6 (by decide)) | 7, _ => Or.inr (lv_neT hc7 (by decide)) | 8, _ => Or.inr (lv_neT hc8 (by decide)) | 9, _ => Or.inr (lv_neT hc9 (by decide)) | 10, _ => Or.inr (lv_neT hc10 (by decide)) | 11, _ => Or.inr (lv_neT hc11 (by decide)) | 12, _ => Or.inr (lv_neT hc12 (by decide)) | i + 13, hi => absurd hi (Nat.not_lt.mpr (Nat.le_add_left _ _))) ?_
                            refine go_pi (pc := 184) rfl ?_
                            exact go_ri (pc := 185) rfl hh
