/-! ===== methods as functions, part 3 ===== -/
def fX7_readWord_52 (n : Nat) (r2 : ai_H → Nat → Int32 → Option (Unit × ai_H)) (h : ai_H) (v0 : Nat) (v1 : Int32) : Option (Unit × ai_H) :=
  (pI n h v0 7 3).bind fun x1 =>
  (sF n h v0 7 3 (.int) (.int (x1 + (1 : Int32)))).bind fun h2 =>
  r2 h2 v0 (v1 + 1)
theorem sX7_readWord_52 {n : Nat} {r2 : ai_H → Nat → Int32 → Option (Unit × ai_H)} {q : Unit × ai_H} {h : ai_H} {v0 : Nat} {v1 : Int32} {lv : ai_L} (R2 : ∀ (h : ai_H) (v0 : Nat) (v1 : Int32) (lv : ai_L), ai_ld 0 lv = some (.ref v0) → ai_ld 1 lv = some (.int v1) → r2 h v0 v1 = some q → bi_go 1 tX7_readWord n (fV n q) 2 lv [] h) (l0 : ai_ld 0 lv = some (.ref v0)) (l1 : ai_ld 1 lv = some (.int v1)) (hh : fX7_readWord_52 n r2 h v0 v1 = some q) : bi_go 1 tX7_readWord n (fV n q) 52 lv [] h := by
  unfold fX7_readWord_52 at hh
  refine go_inc (pc := 52) rfl l1 ?_
  refine go_al (pc := 55) rfl (bi_k1 l0 rfl rfl) ?_
  refine go_dup (pc := 56) rfl rfl ?_
  obtain ⟨x1, ex1, hh⟩ := bi_bd hh
  refine go_gfI (pc := 57) rfl ex1 ?_
  refine go_pi (pc := 60) rfl ?_
  refine go_iadd (pc := 61) rfl ?_
  obtain ⟨h2, eh2, hh⟩ := bi_bd hh
  refine go_pf (pc := 62) rfl eh2 ?_
  refine go_goto (pc := 65) rfl ?_
  exact R2 _ _ _ _ (bi_k1 l0 rfl rfl) bi_e1 hh
def fX7_readWord_120 (n : Nat) (r87 : ai_H → Nat → Int32 → Option (Unit × ai_H)) (h : ai_H) (v0 : Nat) (v2 : Int32) : Option (Unit × ai_H) :=
  r87 h v0 (v2 + 1)
theorem sX7_readWord_120 {n : Nat} {r87 : ai_H → Nat → Int32 → Option (Unit × ai_H)} {q : Unit × ai_H} {h : ai_H} {v0 : Nat} {v2 : Int32} {lv : ai_L} (R87 : ∀ (h : ai_H) (v0 : Nat) (v2 : Int32) (lv : ai_L), ai_ld 0 lv = some (.ref v0) → ai_ld 2 lv = some (.int v2) → r87 h v0 v2 = some q → bi_go 1 tX7_readWord n (fV n q) 87 lv [] h) (l0 : ai_ld 0 lv = some (.ref v0)) (l2 : ai_ld 2 lv = some (.int v2)) (hh : fX7_readWord_120 n r87 h v0 v2 = some q) : bi_go 1 tX7_readWord n (fV n q) 120 lv [] h := by
  unfold fX7_readWord_120 at hh
  refine go_inc (pc := 120) rfl l2 ?_
  refine go_goto (pc := 123) rfl ?_
  exact R87 _ _ _ _ (bi_k1 l0 rfl rfl) bi_e1 hh
def fX7_readWord_87b (n : Nat) (r87 : ai_H → Nat → Int32 → Option (Unit × ai_H)) (h : ai_H) (v0 : Nat) (v2 : Int32) : Option (Unit × ai_H) :=
  if (22 : Int32) ≤ v2 then (
    some ((), h))
  else (
    (pI n h v0 7 4).bind fun x1 =>
    if ¬ x1 = (22 : Int32) then (
      some ((), h))
    else (
      (pR n h v0 7 0).bind fun x2 =>
      (gX 1 n h x2 v2).bind fun x3 =>
      (pI n h v0 7 6).bind fun x4 =>
      if ¬ x3 = x4 then (
        fX7_readWord_120 n r87 h v0 v2)
      else (
        (sF n h v0 7 4 (.int) (.int v2)).bind fun h5 =>
        fX7_readWord_120 n r87 h5 v0 v2)))
theorem sX7_readWord_87b {n : Nat} {r87 : ai_H → Nat → Int32 → Option (Unit × ai_H)} {q : Unit × ai_H} {h : ai_H} {v0 : Nat} {v2 : Int32} {lv : ai_L} (R87 : ∀ (h : ai_H) (v0 : Nat) (v2 : Int32) (lv : ai_L), ai_ld 0 lv = some (.ref v0) → ai_ld 2 lv = some (.int v2) → r87 h v0 v2 = some q → bi_go 1 tX7_readWord n (fV n q) 87 lv [] h) (l0 : ai_ld 0 lv = some (.ref v0)) (l2 : ai_ld 2 lv = some (.int v2)) (hh : fX7_readWord_87b n r87 h v0 v2 = some q) : bi_go 1 tX7_readWord n (fV n q) 87 lv [] h := by
  unfold fX7_readWord_87b at hh
  refine go_il (pc := 87) rfl l2 ?_
  refine go_pi (pc := 88) rfl ?_
  refine bi_ite hh (fun hc hh => ?_) (fun hc hh => ?_)
  · refine go_cmpgeT (pc := 90) rfl hc ?_
    exact go_rv (pc := 126) rfl hh
  · refine go_cmpgeF (pc := 90) rfl hc ?_
    refine go_al (pc := 93) rfl l0 ?_
    obtain ⟨x1, ex1, hh⟩ := bi_bd hh
    refine go_gfI (pc := 94) rfl ex1 ?_
    refine go_pi (pc := 97) rfl ?_
    refine bi_ite hh (fun hc hh => ?_) (fun hc hh => ?_)
    · refine go_cmpneT (pc := 99) rfl hc ?_
      exact go_rv (pc := 126) rfl hh
    · refine go_cmpneF (pc := 99) rfl hc ?_
      refine go_al (pc := 102) rfl l0 ?_
      obtain ⟨x2, ex2, hh⟩ := bi_bd hh
      refine go_gfR (pc := 103) rfl ex2 ?_
      refine go_il (pc := 106) rfl l2 ?_
      obtain ⟨x3, ex3, hh⟩ := bi_bd hh
      refine go_iald (pc := 107) rfl ex3 ?_
      refine go_al (pc := 108) rfl l0 ?_
      obtain ⟨x4, ex4, hh⟩ := bi_bd hh
      refine go_gfI (pc := 109) rfl ex4 ?_
      refine bi_ite hh (fun hc hh => ?_) (fun hc hh => ?_)
      · refine go_cmpneT (pc := 112) rfl hc ?_
        exact sX7_readWord_120 R87 l0 l2 hh
      · refine go_cmpneF (pc := 112) rfl hc ?_
        refine go_al (pc := 115) rfl l0 ?_
        refine go_il (pc := 116) rfl l2 ?_
        obtain ⟨h5, eh5, hh⟩ := bi_bd hh
        refine go_pf (pc := 117) rfl eh5 ?_
        exact sX7_readWord_120 R87 l0 l2 hh
def fX7_readWord_87 (n : Nat) : Nat → ai_H → Nat → Int32 → Option (Unit × ai_H)
  | 0 => fun _ _ _ => none
  | k + 1 => fun h v0 v2 => fX7_readWord_87b n (fX7_readWord_87 n k) h v0 v2
theorem sX7_readWord_87 {n : Nat} {q : Unit × ai_H} : ∀ (k : Nat) (h : ai_H) (v0 : Nat) (v2 : Int32) (lv : ai_L), ai_ld 0 lv = some (.ref v0) → ai_ld 2 lv = some (.int v2) → fX7_readWord_87 n k h v0 v2 = some q → bi_go 1 tX7_readWord n (fV n q) 87 lv [] h
  | 0 => fun _ _ _ _ _ _ hh => by cases hh
  | k + 1 => fun h v0 v2 lv l0 l2 hh => sX7_readWord_87b  (sX7_readWord_87  k) l0 l2 hh
def fX7_readWord_82 (n : Nat) (h : ai_H) (v0 : Nat) (s0 : Int32) (s1 : Nat) : Option (Unit × ai_H) :=
  (sF n h s1 7 4 (.int) (.int s0)).bind fun h1 =>
  fX7_readWord_87 n bi_K h1 v0 (0 : Int32)
theorem sX7_readWord_82 {n : Nat} {q : Unit × ai_H} {h : ai_H} {v0 : Nat} {s0 : Int32} {s1 : Nat} {lv : ai_L} (l0 : ai_ld 0 lv = some (.ref v0)) (hh : fX7_readWord_82 n h v0 s0 s1 = some q) : bi_go 1 tX7_readWord n (fV n q) 82 lv [.int s0, .ref s1] h := by
  unfold fX7_readWord_82 at hh
  obtain ⟨h1, eh1, hh⟩ := bi_bd hh
  refine go_pf (pc := 82) rfl eh1 ?_
  refine go_pi (pc := 85) rfl ?_
  refine go_is (pc := 86) rfl ?_
  exact sX7_readWord_87  _ _ _ _ _ (bi_k1 l0 rfl rfl) bi_e1 hh
def fX7_readWord_68 (n : Nat) (h : ai_H) (v0 : Nat) (v1 : Int32) : Option (Unit × ai_H) :=
  if v1 ≤ (6 : Int32) then (
    fX7_readWord_82 n h v0 (22 : Int32) v0)
  else (
    fX7_readWord_82 n h v0 (38 : Int32) v0)
theorem sX7_readWord_68 {n : Nat} {q : Unit × ai_H} {h : ai_H} {v0 : Nat} {v1 : Int32} {lv : ai_L} (l0 : ai_ld 0 lv = some (.ref v0)) (l1 : ai_ld 1 lv = some (.int v1)) (hh : fX7_readWord_68 n h v0 v1 = some q) : bi_go 1 tX7_readWord n (fV n q) 68 lv [] h := by
  unfold fX7_readWord_68 at hh
  refine go_al (pc := 68) rfl l0 ?_
  refine go_il (pc := 69) rfl l1 ?_
  refine go_pi (pc := 70) rfl ?_
  refine bi_ite hh (fun hc hh => ?_) (fun hc hh => ?_)
  · refine go_cmpleT (pc := 72) rfl hc ?_
    refine go_pi (pc := 80) rfl ?_
    exact sX7_readWord_82  l0 hh
  · refine go_cmpleF (pc := 72) rfl hc ?_
    refine go_pi (pc := 75) rfl ?_
    refine go_goto (pc := 77) rfl ?_
    exact sX7_readWord_82  l0 hh
def fX7_readWord_2b (n : Nat) (r2 : ai_H → Nat → Int32 → Option (Unit × ai_H)) (h : ai_H) (v0 : Nat) (v1 : Int32) : Option (Unit × ai_H) :=
  (pI n h v0 7 3).bind fun x1 =>
  (pI n h v0 7 2).bind fun x2 =>
  if x2 ≤ x1 then (
    fX7_readWord_68 n h v0 v1)
  else (
    (fX7_isBetween n h v0 (97 : Int32) (122 : Int32)).bind fun q3 =>
    if q3.1 = 0 then (
      fX7_readWord_68 n q3.2 v0 v1)
    else (
      if (6 : Int32) ≤ v1 then (
        fX7_readWord_52 n r2 q3.2 v0 v1)
      else (
        (pI n q3.2 v0 7 6).bind fun x4 =>
        (pR n q3.2 v0 7 1).bind fun x5 =>
        (pI n q3.2 v0 7 3).bind fun x6 =>
        (gB n q3.2 x5 x6).bind fun x7 =>
        (fX7_packed n q3.2 x7 v1).bind fun q8 =>
        (sF n q8.2 v0 7 6 (.int) (.int (x4 ||| q8.1))).bind fun h9 =>
        fX7_readWord_52 n r2 h9 v0 v1)))
theorem sX7_readWord_2b {n : Nat} {r2 : ai_H → Nat → Int32 → Option (Unit × ai_H)} {q : Unit × ai_H} {h : ai_H} {v0 : Nat} {v1 : Int32} {lv : ai_L} (R2 : ∀ (h : ai_H) (v0 : Nat) (v1 : Int32) (lv : ai_L), ai_ld 0 lv = some (.ref v0) → ai_ld 1 lv = some (.int v1) → r2 h v0 v1 = some q → bi_go 1 tX7_readWord n (fV n q) 2 lv [] h) (l0 : ai_ld 0 lv = some (.ref v0)) (l1 : ai_ld 1 lv = some (.int v1)) (hh : fX7_readWord_2b n r2 h v0 v1 = some q) : bi_go 1 tX7_readWord n (fV n q) 2 lv [] h := by
  unfold fX7_readWord_2b at hh
  refine go_al (pc := 2) rfl l0 ?_
  obtain ⟨x1, ex1, hh⟩ := bi_bd hh
  refine go_gfI (pc := 3) rfl ex1 ?_
  refine go_al (pc := 6) rfl l0 ?_
  obtain ⟨x2, ex2, hh⟩ := bi_bd hh
  refine go_gfI (pc := 7) rfl ex2 ?_
  refine bi_ite hh (fun hc hh => ?_) (fun hc hh => ?_)
  · refine go_cmpgeT (pc := 10) rfl hc ?_
    exact sX7_readWord_68  l0 l1 hh
  · refine go_cmpgeF (pc := 10) rfl hc ?_
    refine go_al (pc := 13) rfl l0 ?_
    refine go_pi (pc := 14) rfl ?_
    refine go_pi (pc := 16) rfl ?_
    obtain ⟨q3, eq3, hh⟩ := bi_bd hh
    refine go_ivI (pc := 18) rfl rfl (gX7_isBetween eq3) (Nat.le_of_ble_eq_true rfl) (bi_up (sX7_isBetween eq3) (Nat.le_of_ble_eq_true rfl)) ?_
    refine bi_ite hh (fun hc hh => ?_) (fun hc hh => ?_)
    · refine go_ifeqT (pc := 21) rfl hc ?_
      exact sX7_readWord_68  l0 l1 hh
    · refine go_ifeqF (pc := 21) rfl hc ?_
      refine go_il (pc := 24) rfl l1 ?_
      refine go_pi (pc := 25) rfl ?_
      refine bi_ite hh (fun hc hh => ?_) (fun hc hh => ?_)
      · refine go_cmpgeT (pc := 27) rfl hc ?_
        exact sX7_readWord_52 R2 l0 l1 hh
      · refine go_cmpgeF (pc := 27) rfl hc ?_
        refine go_al (pc := 30) rfl l0 ?_
        refine go_dup (pc := 31) rfl rfl ?_
        obtain ⟨x4, ex4, hh⟩ := bi_bd hh
        refine go_gfI (pc := 32) rfl ex4 ?_
        refine go_al (pc := 35) rfl l0 ?_
        obtain ⟨x5, ex5, hh⟩ := bi_bd hh
        refine go_gfR (pc := 36) rfl ex5 ?_
        refine go_al (pc := 39) rfl l0 ?_
        obtain ⟨x6, ex6, hh⟩ := bi_bd hh
        refine go_gfI (pc := 40) rfl ex6 ?_
        obtain ⟨x7, ex7, hh⟩ := bi_bd hh
        refine go_bald (pc := 43) rfl ex7 ?_
        refine go_il (pc := 44) rfl l1 ?_
        obtain ⟨q8, eq8, hh⟩ := bi_bd hh
        refine go_iSI (pc := 45) rfl (Nat.le_of_ble_eq_true rfl) rfl (Nat.le_of_ble_eq_true rfl) (bi_up (sX7_packed eq8) (Nat.le_of_ble_eq_true rfl)) ?_
        refine go_ior (pc := 48) rfl ?_
        obtain ⟨h9, eh9, hh⟩ := bi_bd hh
        refine go_pf (pc := 49) rfl eh9 ?_
        exact sX7_readWord_52 R2 l0 l1 hh
def fX7_readWord_2 (n : Nat) : Nat → ai_H → Nat → Int32 → Option (Unit × ai_H)
  | 0 => fun _ _ _ => none
  | k + 1 => fun h v0 v1 => fX7_readWord_2b n (fX7_readWord_2 n k) h v0 v1
theorem sX7_readWord_2 {n : Nat} {q : Unit × ai_H} : ∀ (k : Nat) (h : ai_H) (v0 : Nat) (v1 : Int32) (lv : ai_L), ai_ld 0 lv = some (.ref v0) → ai_ld 1 lv = some (.int v1) → fX7_readWord_2 n k h v0 v1 = some q → bi_go 1 tX7_readWord n (fV n q) 2 lv [] h
  | 0 => fun _ _ _ _ _ _ hh => by cases hh
  | k + 1 => fun h v0 v1 lv l0 l1 hh => sX7_readWord_2b  (sX7_readWord_2  k) l0 l1 hh
def fX7_readWord (n : Nat) (h : ai_H) (a0 : Nat) : Option (Unit × ai_H) :=
  (kO n h a0 7).bind fun _ =>
  fX7_readWord_2 n bi_K h a0 (0 : Int32)
theorem gX7_readWord {n : Nat} {h : ai_H} {a0 : Nat} {q : Unit × ai_H} (hh : fX7_readWord n h a0 = some q) : kO n h a0 7 = some () := by
  obtain ⟨_, e, -⟩ := bi_bd hh
  exact e
theorem sX7_readWord {n : Nat} {h : ai_H} {a0 : Nat} {q : Unit × ai_H} (hh : fX7_readWord n h a0 = some q) : bi_sp 2 64 [.ref a0] h n (fV n q) := by
  refine bi_en (D := 1) (T := tX7_readWord) (funext fun pc => rfl) rfl (Nat.le_of_ble_eq_true rfl) ?_
  unfold fX7_readWord at hh
  obtain ⟨_, eO, hh⟩ := bi_bd hh
  refine go_pi (pc := 0) rfl ?_
  refine go_is (pc := 1) rfl ?_
  exact sX7_readWord_2  _ _ _ _ _ (bi_k1 (rfl : ai_ld 0 (lv_args 0 [.ref a0]) = some (.ref a0)) rfl rfl) bi_e1 hh
def fX7_readDigits_55 (n : Nat) (r0 : ai_H → Nat → Option (Unit × ai_H)) (h : ai_H) (v0 : Nat) : Option (Unit × ai_H) :=
  (pI n h v0 7 3).bind fun x1 =>
  (sF n h v0 7 3 (.int) (.int (x1 + (1 : Int32)))).bind fun h2 =>
  r0 h2 v0
theorem sX7_readDigits_55 {n : Nat} {r0 : ai_H → Nat → Option (Unit × ai_H)} {q : Unit × ai_H} {h : ai_H} {v0 : Nat} {lv : ai_L} (R0 : ∀ (h : ai_H) (v0 : Nat) (lv : ai_L), ai_ld 0 lv = some (.ref v0) → r0 h v0 = some q → bi_go 1 tX7_readDigits n (fV n q) 0 lv [] h) (l0 : ai_ld 0 lv = some (.ref v0)) (hh : fX7_readDigits_55 n r0 h v0 = some q) : bi_go 1 tX7_readDigits n (fV n q) 55 lv [] h := by
  unfold fX7_readDigits_55 at hh
  refine go_al (pc := 55) rfl l0 ?_
  refine go_dup (pc := 56) rfl rfl ?_
  obtain ⟨x1, ex1, hh⟩ := bi_bd hh
  refine go_gfI (pc := 57) rfl ex1 ?_
  refine go_pi (pc := 60) rfl ?_
  refine go_iadd (pc := 61) rfl ?_
  obtain ⟨h2, eh2, hh⟩ := bi_bd hh
  refine go_pf (pc := 62) rfl eh2 ?_
  refine go_goto (pc := 65) rfl ?_
  exact R0 _ _ _ l0 hh
def fX7_readDigits_0b (n : Nat) (r0 : ai_H → Nat → Option (Unit × ai_H)) (h : ai_H) (v0 : Nat) : Option (Unit × ai_H) :=
  (pI n h v0 7 3).bind fun x1 =>
  (pI n h v0 7 2).bind fun x2 =>
  if x2 ≤ x1 then (
    (sF n h v0 7 4 (.int) (.int (23 : Int32))).bind fun h3 =>
    some ((), h3))
  else (
    (fX7_isBetween n h v0 (48 : Int32) (57 : Int32)).bind fun q4 =>
    if q4.1 = 0 then (
      (sF n q4.2 v0 7 4 (.int) (.int (23 : Int32))).bind fun h5 =>
      some ((), h5))
    else (
      (pI n q4.2 v0 7 6).bind fun x6 =>
      if (100000 : Int32) ≤ x6 then (
        fX7_readDigits_55 n r0 q4.2 v0)
      else (
        (pI n q4.2 v0 7 6).bind fun x7 =>
        (pR n q4.2 v0 7 1).bind fun x8 =>
        (pI n q4.2 v0 7 3).bind fun x9 =>
        (gB n q4.2 x8 x9).bind fun x10 =>
        (sF n q4.2 v0 7 6 (.int) (.int (((x7 * (10 : Int32)) + x10) - (48 : Int32)))).bind fun h11 =>
        fX7_readDigits_55 n r0 h11 v0)))
theorem sX7_readDigits_0b {n : Nat} {r0 : ai_H → Nat → Option (Unit × ai_H)} {q : Unit × ai_H} {h : ai_H} {v0 : Nat} {lv : ai_L} (R0 : ∀ (h : ai_H) (v0 : Nat) (lv : ai_L), ai_ld 0 lv = some (.ref v0) → r0 h v0 = some q → bi_go 1 tX7_readDigits n (fV n q) 0 lv [] h) (l0 : ai_ld 0 lv = some (.ref v0)) (hh : fX7_readDigits_0b n r0 h v0 = some q) : bi_go 1 tX7_readDigits n (fV n q) 0 lv [] h := by
  unfold fX7_readDigits_0b at hh
  refine go_al (pc := 0) rfl l0 ?_
  obtain ⟨x1, ex1, hh⟩ := bi_bd hh
  refine go_gfI (pc := 1) rfl ex1 ?_
  refine go_al (pc := 4) rfl l0 ?_
  obtain ⟨x2, ex2, hh⟩ := bi_bd hh
  refine go_gfI (pc := 5) rfl ex2 ?_
  refine bi_ite hh (fun hc hh => ?_) (fun hc hh => ?_)
  · refine go_cmpgeT (pc := 8) rfl hc ?_
    refine go_al (pc := 68) rfl l0 ?_
    refine go_pi (pc := 69) rfl ?_
    obtain ⟨h3, eh3, hh⟩ := bi_bd hh
    refine go_pf (pc := 71) rfl eh3 ?_
    exact go_rv (pc := 74) rfl hh
  · refine go_cmpgeF (pc := 8) rfl hc ?_
    refine go_al (pc := 11) rfl l0 ?_
    refine go_pi (pc := 12) rfl ?_
    refine go_pi (pc := 14) rfl ?_
    obtain ⟨q4, eq4, hh⟩ := bi_bd hh
    refine go_ivI (pc := 16) rfl rfl (gX7_isBetween eq4) (Nat.le_of_ble_eq_true rfl) (bi_up (sX7_isBetween eq4) (Nat.le_of_ble_eq_true rfl)) ?_
    refine bi_ite hh (fun hc hh => ?_) (fun hc hh => ?_)
    · refine go_ifeqT (pc := 19) rfl hc ?_
      refine go_al (pc := 68) rfl l0 ?_
      refine go_pi (pc := 69) rfl ?_
      obtain ⟨h5, eh5, hh⟩ := bi_bd hh
      refine go_pf (pc := 71) rfl eh5 ?_
      exact go_rv (pc := 74) rfl hh
    · refine go_ifeqF (pc := 19) rfl hc ?_
      refine go_al (pc := 22) rfl l0 ?_
      obtain ⟨x6, ex6, hh⟩ := bi_bd hh
      refine go_gfI (pc := 23) rfl ex6 ?_
      refine go_pi (pc := 26) rfl ?_
      refine bi_ite hh (fun hc hh => ?_) (fun hc hh => ?_)
      · refine go_cmpgeT (pc := 28) rfl hc ?_
        exact sX7_readDigits_55 R0 l0 hh
      · refine go_cmpgeF (pc := 28) rfl hc ?_
        refine go_al (pc := 31) rfl l0 ?_
        refine go_al (pc := 32) rfl l0 ?_
        obtain ⟨x7, ex7, hh⟩ := bi_bd hh
        refine go_gfI (pc := 33) rfl ex7 ?_
        refine go_pi (pc := 36) rfl ?_
        refine go_imul (pc := 38) rfl ?_
        refine go_al (pc := 39) rfl l0 ?_
        obtain ⟨x8, ex8, hh⟩ := bi_bd hh
        refine go_gfR (pc := 40) rfl ex8 ?_
        refine go_al (pc := 43) rfl l0 ?_
        obtain ⟨x9, ex9, hh⟩ := bi_bd hh
        refine go_gfI (pc := 44) rfl ex9 ?_
        obtain ⟨x10, ex10, hh⟩ := bi_bd hh
        refine go_bald (pc := 47) rfl ex10 ?_
        refine go_iadd (pc := 48) rfl ?_
        refine go_pi (pc := 49) rfl ?_
        refine go_isub (pc := 51) rfl ?_
        obtain ⟨h11, eh11, hh⟩ := bi_bd hh
        refine go_pf (pc := 52) rfl eh11 ?_
        exact sX7_readDigits_55 R0 l0 hh
def fX7_readDigits_0 (n : Nat) : Nat → ai_H → Nat → Option (Unit × ai_H)
  | 0 => fun _ _ => none
  | k + 1 => fun h v0 => fX7_readDigits_0b n (fX7_readDigits_0 n k) h v0
theorem sX7_readDigits_0 {n : Nat} {q : Unit × ai_H} : ∀ (k : Nat) (h : ai_H) (v0 : Nat) (lv : ai_L), ai_ld 0 lv = some (.ref v0) → fX7_readDigits_0 n k h v0 = some q → bi_go 1 tX7_readDigits n (fV n q) 0 lv [] h
  | 0 => fun _ _ _ _ hh => by cases hh
  | k + 1 => fun h v0 lv l0 hh => sX7_readDigits_0b  (sX7_readDigits_0  k) l0 hh
def fX7_readDigits (n : Nat) (h : ai_H) (a0 : Nat) : Option (Unit × ai_H) :=
  (kO n h a0 7).bind fun _ =>
  fX7_readDigits_0 n bi_K h a0
theorem gX7_readDigits {n : Nat} {h : ai_H} {a0 : Nat} {q : Unit × ai_H} (hh : fX7_readDigits n h a0 = some q) : kO n h a0 7 = some () := by
  obtain ⟨_, e, -⟩ := bi_bd hh
  exact e
theorem sX7_readDigits {n : Nat} {h : ai_H} {a0 : Nat} {q : Unit × ai_H} (hh : fX7_readDigits n h a0 = some q) : bi_sp 2 65 [.ref a0] h n (fV n q) := by
  refine bi_en (D := 1) (T := tX7_readDigits) (funext fun pc => rfl) rfl (Nat.le_of_ble_eq_true rfl) ?_
  unfold fX7_readDigits at hh
  obtain ⟨_, eO, hh⟩ := bi_bd hh
  exact sX7_readDigits_0  _ _ _ _ (rfl : ai_ld 0 (lv_args 0 [.ref a0]) = some (.ref a0)) hh
def fX7_takes (n : Nat) (h : ai_H) (a0 : Nat) (a1 : Int32) : Option (Int32 × ai_H) :=
  (kO n h a0 7).bind fun _ =>
  (pI n h a0 7 3).bind fun x1 =>
  (pI n h a0 7 2).bind fun x2 =>
  if x2 ≤ x1 then (
    some ((0 : Int32), h))
  else (
    (pR n h a0 7 1).bind fun x3 =>
    (pI n h a0 7 3).bind fun x4 =>
    (gB n h x3 x4).bind fun x5 =>
    if x5 = a1 then (
      (pI n h a0 7 3).bind fun x6 =>
      (sF n h a0 7 3 (.int) (.int (x6 + (1 : Int32)))).bind fun h7 =>
      some ((1 : Int32), h7))
    else (
      some ((0 : Int32), h)))
theorem gX7_takes {n : Nat} {h : ai_H} {a0 : Nat} {a1 : Int32} {q : Int32 × ai_H} (hh : fX7_takes n h a0 a1 = some q) : kO n h a0 7 = some () := by
  obtain ⟨_, e, -⟩ := bi_bd hh
  exact e
theorem sX7_takes {n : Nat} {h : ai_H} {a0 : Nat} {a1 : Int32} {q : Int32 × ai_H} (hh : fX7_takes n h a0 a1 = some q) : bi_sp 1 67 [.ref a0, .int a1] h n (fI n q) := by
  refine bi_en (D := 0) (T := tX7_takes) (funext fun pc => rfl) rfl (Nat.le_of_ble_eq_true rfl) ?_
  unfold fX7_takes at hh
  obtain ⟨_, eO, hh⟩ := bi_bd hh
  refine go_al (pc := 0) rfl (rfl : ai_ld 0 (lv_args 0 [.ref a0, .int a1]) = some (.ref a0)) ?_
  obtain ⟨x1, ex1, hh⟩ := bi_bd hh
  refine go_gfI (pc := 1) rfl ex1 ?_
  refine go_al (pc := 4) rfl (rfl : ai_ld 0 (lv_args 0 [.ref a0, .int a1]) = some (.ref a0)) ?_
  obtain ⟨x2, ex2, hh⟩ := bi_bd hh
  refine go_gfI (pc := 5) rfl ex2 ?_
  refine bi_ite hh (fun hc hh => ?_) (fun hc hh => ?_)
  · refine go_cmpgeT (pc := 8) rfl hc ?_
    refine go_pi (pc := 24) rfl ?_
    exact go_rz (pc := 25) rfl bi_z0 hh
  · refine go_cmpgeF (pc := 8) rfl hc ?_
    refine go_al (pc := 11) rfl (rfl : ai_ld 0 (lv_args 0 [.ref a0, .int a1]) = some (.ref a0)) ?_
    obtain ⟨x3, ex3, hh⟩ := bi_bd hh
    refine go_gfR (pc := 12) rfl ex3 ?_
    refine go_al (pc := 15) rfl (rfl : ai_ld 0 (lv_args 0 [.ref a0, .int a1]) = some (.ref a0)) ?_
    obtain ⟨x4, ex4, hh⟩ := bi_bd hh
    refine go_gfI (pc := 16) rfl ex4 ?_
    obtain ⟨x5, ex5, hh⟩ := bi_bd hh
    refine go_bald (pc := 19) rfl ex5 ?_
    refine go_il (pc := 20) rfl (rfl : ai_ld 1 (lv_args 0 [.ref a0, .int a1]) = some (.int a1)) ?_
    refine bi_ite hh (fun hc hh => ?_) (fun hc hh => ?_)
    · refine go_cmpeqT (pc := 21) rfl hc ?_
      refine go_al (pc := 26) rfl (rfl : ai_ld 0 (lv_args 0 [.ref a0, .int a1]) = some (.ref a0)) ?_
      refine go_dup (pc := 27) rfl rfl ?_
      obtain ⟨x6, ex6, hh⟩ := bi_bd hh
      refine go_gfI (pc := 28) rfl ex6 ?_
      refine go_pi (pc := 31) rfl ?_
      refine go_iadd (pc := 32) rfl ?_
      obtain ⟨h7, eh7, hh⟩ := bi_bd hh
      refine go_pf (pc := 33) rfl eh7 ?_
      refine go_pi (pc := 36) rfl ?_
      exact go_rz (pc := 37) rfl bi_z1 hh
    · refine go_cmpeqF (pc := 21) rfl hc ?_
      refine go_pi (pc := 24) rfl ?_
      exact go_rz (pc := 25) rfl bi_z0 hh
def fX7_readSign (n : Nat) (h : ai_H) (a0 : Nat) : Option (Int32 × ai_H) :=
  (kO n h a0 7).bind fun _ =>
  (pR n h a0 7 1).bind fun x1 =>
  (pI n h a0 7 3).bind fun x2 =>
  (gB n h x1 x2).bind fun x3 =>
  (pI n h a0 7 3).bind fun x4 =>
  (sF n h a0 7 3 (.int) (.int (x4 + (1 : Int32)))).bind fun h5 =>
  if x3 = 40 then (
    some ((25 : Int32), h5))
  else (
    if x3 = 41 then (
      some ((26 : Int32), h5))
    else (
      if x3 = 42 then (
        some ((35 : Int32), h5))
      else (
        if x3 = 43 then (
          some ((33 : Int32), h5))
        else (
          if x3 = 45 then (
            some ((34 : Int32), h5))
          else (
            if x3 = 47 then (
              some ((36 : Int32), h5))
            else (
              if x3 = 59 then (
                some ((24 : Int32), h5))
              else (
                if x3 = 60 then (
                  (fX7_takes n h5 a0 (61 : Int32)).bind fun q6 =>
                  if q6.1 = 0 then (
                    (fX7_takes n q6.2 a0 (62 : Int32)).bind fun q7 =>
                    if q7.1 = 0 then (
                      some ((27 : Int32), q7.2))
                    else (
                      some ((30 : Int32), q7.2)))
                  else (
                    some ((28 : Int32), q6.2)))
                else (
                  if x3 = 61 then (
                    some ((29 : Int32), h5))
                  else (
                    if x3 = 62 then (
                      (fX7_takes n h5 a0 (61 : Int32)).bind fun q8 =>
                      if q8.1 = 0 then (
                        some ((32 : Int32), q8.2))
                      else (
                        some ((31 : Int32), q8.2)))
                    else (
                      some ((38 : Int32), h5)))))))))))
theorem gX7_readSign {n : Nat} {h : ai_H} {a0 : Nat} {q : Int32 × ai_H} (hh : fX7_readSign n h a0 = some q) : kO n h a0 7 = some () := by
  obtain ⟨_, e, -⟩ := bi_bd hh
  exact e
theorem sX7_readSign {n : Nat} {h : ai_H} {a0 : Nat} {q : Int32 × ai_H} (hh : fX7_readSign n h a0 = some q) : bi_sp 2 66 [.ref a0] h n (fI n q) := by
  refine bi_en (D := 1) (T := tX7_readSign) (funext fun pc => rfl) rfl (Nat.le_of_ble_eq_true rfl) ?_
  unfold fX7_readSign at hh
  obtain ⟨_, eO, hh⟩ := bi_bd hh
  refine go_al (pc := 0) rfl (rfl : ai_ld 0 (lv_args 0 [.ref a0]) = some (.ref a0)) ?_
  obtain ⟨x1, ex1, hh⟩ := bi_bd hh
  refine go_gfR (pc := 1) rfl ex1 ?_
  refine go_al (pc := 4) rfl (rfl : ai_ld 0 (lv_args 0 [.ref a0]) = some (.ref a0)) ?_
  obtain ⟨x2, ex2, hh⟩ := bi_bd hh
  refine go_gfI (pc := 5) rfl ex2 ?_
  obtain ⟨x3, ex3, hh⟩ := bi_bd hh
  refine go_bald (pc := 8) rfl ex3 ?_
  refine go_is (pc := 9) rfl ?_
  refine go_al (pc := 10) rfl (bi_k1 (rfl : ai_ld 0 (lv_args 0 [.ref a0]) = some (.ref a0)) rfl rfl) ?_
  refine go_dup (pc := 11) rfl rfl ?_
  obtain ⟨x4, ex4, hh⟩ := bi_bd hh
  refine go_gfI (pc := 12) rfl ex4 ?_
  refine go_pi (pc := 15) rfl ?_
  refine go_iadd (pc := 16) rfl ?_
  obtain ⟨h5, eh5, hh⟩ := bi_bd hh
  refine go_pf (pc := 17) rfl eh5 ?_
  refine go_il (pc := 20) rfl bi_e1 ?_
  refine bi_ite hh (fun hc0 hh => ?_) (fun hc0 hh => ?_)
  · refine go_swc (t := 131) 40 (pc := 21) rfl hc0 (by decide) ?_
    refine go_pi (pc := 131) rfl ?_
    exact go_ri (pc := 133) rfl hh
  · skip
    refine bi_ite hh (fun hc1 hh => ?_) (fun hc1 hh => ?_)
    · refine go_swc (t := 134) 41 (pc := 21) rfl hc1 (by decide) ?_
      refine go_pi (pc := 134) rfl ?_
      exact go_ri (pc := 136) rfl hh
    · skip
      refine bi_ite hh (fun hc2 hh => ?_) (fun hc2 hh => ?_)
      · refine go_swc (t := 194) 42 (pc := 21) rfl hc2 (by decide) ?_
        refine go_pi (pc := 194) rfl ?_
        exact go_ri (pc := 196) rfl hh
      · skip
        refine bi_ite hh (fun hc3 hh => ?_) (fun hc3 hh => ?_)
        · refine go_swc (t := 188) 43 (pc := 21) rfl hc3 (by decide) ?_
          refine go_pi (pc := 188) rfl ?_
          exact go_ri (pc := 190) rfl hh
        · skip
          refine bi_ite hh (fun hc5 hh => ?_) (fun hc5 hh => ?_)
          · refine go_swc (t := 191) 45 (pc := 21) rfl hc5 (by decide) ?_
            refine go_pi (pc := 191) rfl ?_
            exact go_ri (pc := 193) rfl hh
          · skip
            refine bi_ite hh (fun hc7 hh => ?_) (fun hc7 hh => ?_)
            · refine go_swc (t := 197) 47 (pc := 21) rfl hc7 (by decide) ?_
              refine go_pi (pc := 197) rfl ?_
              exact go_ri (pc := 199) rfl hh
            · skip
              refine bi_ite hh (fun hc19 hh => ?_) (fun hc19 hh => ?_)
              · refine go_swc (t := 128) 59 (pc := 21) rfl hc19 (by decide) ?_
                refine go_pi (pc := 128) rfl ?_
                exact go_ri (pc := 130) rfl hh
              · skip
                refine bi_ite hh (fun hc20 hh => ?_) (fun hc20 hh => ?_)
                · refine go_swc (t := 137) 60 (pc := 21) rfl hc20 (by decide) ?_
                  refine go_al (pc := 137) rfl (bi_k1 (rfl : ai_ld 0 (lv_args 0 [.ref a0]) = some (.ref a0)) rfl rfl) ?_
                  refine go_pi (pc := 138) rfl ?_
                  obtain ⟨q6, eq6, hh⟩ := bi_bd hh
                  refine go_ivI (pc := 140) rfl rfl (gX7_takes eq6) (Nat.le_of_ble_eq_true rfl) (bi_up (sX7_takes eq6) (Nat.le_of_ble_eq_true rfl)) ?_
                  refine bi_ite hh (fun hc hh => ?_) (fun hc hh => ?_)
                  · refine go_ifeqT (pc := 143) rfl hc ?_
                    refine go_al (pc := 151) rfl (bi_k1 (rfl : ai_ld 0 (lv_args 0 [.ref a0]) = some (.ref a0)) rfl rfl) ?_
                    refine go_pi (pc := 152) rfl ?_
                    obtain ⟨q7, eq7, hh⟩ := bi_bd hh
                    refine go_ivI (pc := 154) rfl rfl (gX7_takes eq7) (Nat.le_of_ble_eq_true rfl) (bi_up (sX7_takes eq7) (Nat.le_of_ble_eq_true rfl)) ?_
                    refine bi_ite hh (fun hc hh => ?_) (fun hc hh => ?_)
                    · refine go_ifeqT (pc := 157) rfl hc ?_
                      refine go_pi (pc := 165) rfl ?_
                      exact go_ri (pc := 167) rfl hh
                    · refine go_ifeqF (pc := 157) rfl hc ?_
                      refine go_pi (pc := 160) rfl ?_
                      refine go_goto (pc := 162) rfl ?_
                      exact go_ri (pc := 167) rfl hh
                  · refine go_ifeqF (pc := 143) rfl hc ?_
                    refine go_pi (pc := 146) rfl ?_
                    refine go_goto (pc := 148) rfl ?_
                    exact go_ri (pc := 167) rfl hh
                · skip
                  refine bi_ite hh (fun hc21 hh => ?_) (fun hc21 hh => ?_)
                  · refine go_swc (t := 168) 61 (pc := 21) rfl hc21 (by decide) ?_
                    refine go_pi (pc := 168) rfl ?_
                    exact go_ri (pc := 170) rfl hh
                  · skip
                    refine bi_ite hh (fun hc22 hh => ?_) (fun hc22 hh => ?_)
                    · refine go_swc (t := 171) 62 (pc := 21) rfl hc22 (by decide) ?_
                      refine go_al (pc := 171) rfl (bi_k1 (rfl : ai_ld 0 (lv_args 0 [.ref a0]) = some (.ref a0)) rfl rfl) ?_
                      refine go_pi (pc := 172) rfl ?_
                      obtain ⟨q8, eq8, hh⟩ := bi_bd hh
                      refine go_ivI (pc := 174) rfl rfl (gX7_takes eq8) (Nat.le_of_ble_eq_true rfl) (bi_up (sX7_takes eq8) (Nat.le_of_ble_eq_true rfl)) ?_
                      refine bi_ite hh (fun hc hh => ?_) (fun hc hh => ?_)
                      · refine go_ifeqT (pc := 177) rfl hc ?_
                        refine go_pi (pc := 185) rfl ?_
                        exact go_ri (pc := 187) rfl hh
                      · refine go_ifeqF (pc := 177) rfl hc ?_
                        refine go_pi (pc := 180) rfl ?_
                        refine go_goto (pc := 182) rfl ?_
                        exact go_ri (pc := 187) rfl hh
                    · skip
                      refine go_swd (pc := 21) rfl (fun i hi => match i, hi with | 0, _ => Or.inr (lv_neT hc0 (by decide)) | 1, _ => Or.inr (lv_neT hc1 (by decide)) | 2, _ => Or.inr (lv_neT hc2 (by decide)) | 3, _ => Or.inr (lv_neT hc3 (by decide)) | 4, _ => Or.inl rfl | 5, _ => Or.inr (lv_neT hc5 (by decide)) | 6, _ => Or.inl rfl | 7, _ => Or.inr (lv_neT hc7 (by decide)) | 8, _ => Or.inl rfl | 9, _ => Or.inl rfl | 10, _ => Or.inl rfl | 11, _ => Or.inl rfl | 12, _ => Or.inl rfl | 13, _ => Or.inl rfl | 14, _ => Or.inl rfl | 15, _ => Or.inl rfl | 16, _ => Or.inl rfl | 17, _ => Or.inl rfl | 18, _ => Or.inl rfl | 19, _ => Or.inr (lv_neT hc19 (by decide)) | 20, _ => Or.inr (lv_neT hc20 (by decide)) | 21, _ => Or.inr (lv_neT hc21 (by decide)) | 22, _ => Or.inr (lv_neT hc22 (by decide)) | i + 23, hi => absurd hi (Nat.not_lt.mpr (Nat.le_add_left _ _))) ?_
                      refine go_pi (pc := 200) rfl ?_
                      exact go_ri (pc := 202) rfl hh
def fX7_advance_39 (n : Nat) (r0 : ai_H → Nat → Option (Unit × ai_H)) (h : ai_H) (v0 : Nat) : Option (Unit × ai_H) :=
  (pI n h v0 7 3).bind fun x1 =>
  (sF n h v0 7 3 (.int) (.int (x1 + (1 : Int32)))).bind fun h2 =>
  r0 h2 v0
theorem sX7_advance_39 {n : Nat} {r0 : ai_H → Nat → Option (Unit × ai_H)} {q : Unit × ai_H} {h : ai_H} {v0 : Nat} {lv : ai_L} (R0 : ∀ (h : ai_H) (v0 : Nat) (lv : ai_L), ai_ld 0 lv = some (.ref v0) → r0 h v0 = some q → bi_go 2 tX7_advance n (fV n q) 0 lv [] h) (l0 : ai_ld 0 lv = some (.ref v0)) (hh : fX7_advance_39 n r0 h v0 = some q) : bi_go 2 tX7_advance n (fV n q) 39 lv [] h := by
  unfold fX7_advance_39 at hh
  refine go_al (pc := 39) rfl l0 ?_
  refine go_dup (pc := 40) rfl rfl ?_
  obtain ⟨x1, ex1, hh⟩ := bi_bd hh
  refine go_gfI (pc := 41) rfl ex1 ?_
  refine go_pi (pc := 44) rfl ?_
  refine go_iadd (pc := 45) rfl ?_
  obtain ⟨h2, eh2, hh⟩ := bi_bd hh
  refine go_pf (pc := 46) rfl eh2 ?_
  refine go_goto (pc := 49) rfl ?_
  exact R0 _ _ _ l0 hh
def fX7_advance_52 (n : Nat) (h : ai_H) (v0 : Nat) : Option (Unit × ai_H) :=
  (pI n h v0 7 3).bind fun x1 =>
  (sF n h v0 7 5 (.int) (.int x1)).bind fun h2 =>
  (sF n h2 v0 7 6 (.int) (.int (0 : Int32))).bind fun h3 =>
  (pI n h3 v0 7 3).bind fun x4 =>
  (pI n h3 v0 7 2).bind fun x5 =>
  if x4 < x5 then (
    (fX7_isBetween n h3 v0 (97 : Int32) (122 : Int32)).bind fun q6 =>
    if q6.1 = 0 then (
      (fX7_isBetween n q6.2 v0 (48 : Int32) (57 : Int32)).bind fun q7 =>
      if q7.1 = 0 then (
        (fX7_readSign n q7.2 v0).bind fun q8 =>
        (sF n q8.2 v0 7 4 (.int) (.int q8.1)).bind fun h9 =>
        some ((), h9))
      else (
        (fX7_readDigits n q7.2 v0).bind fun q10 =>
        some ((), q10.2)))
    else (
      (fX7_readWord n q6.2 v0).bind fun q11 =>
      some ((), q11.2)))
  else (
    (sF n h3 v0 7 4 (.int) (.int (37 : Int32))).bind fun h12 =>
    some ((), h12))
theorem sX7_advance_52 {n : Nat} {q : Unit × ai_H} {h : ai_H} {v0 : Nat} {lv : ai_L} (l0 : ai_ld 0 lv = some (.ref v0)) (hh : fX7_advance_52 n h v0 = some q) : bi_go 2 tX7_advance n (fV n q) 52 lv [] h := by
  unfold fX7_advance_52 at hh
  refine go_al (pc := 52) rfl l0 ?_
  refine go_al (pc := 53) rfl l0 ?_
  obtain ⟨x1, ex1, hh⟩ := bi_bd hh
  refine go_gfI (pc := 54) rfl ex1 ?_
  obtain ⟨h2, eh2, hh⟩ := bi_bd hh
  refine go_pf (pc := 57) rfl eh2 ?_
  refine go_al (pc := 60) rfl l0 ?_
  refine go_pi (pc := 61) rfl ?_
  obtain ⟨h3, eh3, hh⟩ := bi_bd hh
  refine go_pf (pc := 62) rfl eh3 ?_
  refine go_al (pc := 65) rfl l0 ?_
  obtain ⟨x4, ex4, hh⟩ := bi_bd hh
  refine go_gfI (pc := 66) rfl ex4 ?_
  refine go_al (pc := 69) rfl l0 ?_
  obtain ⟨x5, ex5, hh⟩ := bi_bd hh
  refine go_gfI (pc := 70) rfl ex5 ?_
  refine bi_ite hh (fun hc hh => ?_) (fun hc hh => ?_)
  · refine go_cmpltT (pc := 73) rfl hc ?_
    refine go_al (pc := 85) rfl l0 ?_
    refine go_pi (pc := 86) rfl ?_
    refine go_pi (pc := 88) rfl ?_
    obtain ⟨q6, eq6, hh⟩ := bi_bd hh
    refine go_ivI (pc := 90) rfl rfl (gX7_isBetween eq6) (Nat.le_of_ble_eq_true rfl) (bi_up (sX7_isBetween eq6) (Nat.le_of_ble_eq_true rfl)) ?_
    refine bi_ite hh (fun hc hh => ?_) (fun hc hh => ?_)
    · refine go_ifeqT (pc := 93) rfl hc ?_
      refine go_al (pc := 103) rfl l0 ?_
      refine go_pi (pc := 104) rfl ?_
      refine go_pi (pc := 106) rfl ?_
      obtain ⟨q7, eq7, hh⟩ := bi_bd hh
      refine go_ivI (pc := 108) rfl rfl (gX7_isBetween eq7) (Nat.le_of_ble_eq_true rfl) (bi_up (sX7_isBetween eq7) (Nat.le_of_ble_eq_true rfl)) ?_
      refine bi_ite hh (fun hc hh => ?_) (fun hc hh => ?_)
      · refine go_ifeqT (pc := 111) rfl hc ?_
        refine go_al (pc := 121) rfl l0 ?_
        refine go_al (pc := 122) rfl l0 ?_
        obtain ⟨q8, eq8, hh⟩ := bi_bd hh
        refine go_ivI (pc := 123) rfl rfl (gX7_readSign eq8) (Nat.le_of_ble_eq_true rfl) (bi_up (sX7_readSign eq8) (Nat.le_of_ble_eq_true rfl)) ?_
        obtain ⟨h9, eh9, hh⟩ := bi_bd hh
        refine go_pf (pc := 126) rfl eh9 ?_
        exact go_rv (pc := 129) rfl hh
      · refine go_ifeqF (pc := 111) rfl hc ?_
        refine go_al (pc := 114) rfl l0 ?_
        obtain ⟨q10, eq10, hh⟩ := bi_bd hh
        refine go_ivV (pc := 115) rfl rfl (gX7_readDigits eq10) (Nat.le_of_ble_eq_true rfl) (bi_up (sX7_readDigits eq10) (Nat.le_of_ble_eq_true rfl)) ?_
        refine go_goto (pc := 118) rfl ?_
        exact go_rv (pc := 129) rfl hh
    · refine go_ifeqF (pc := 93) rfl hc ?_
      refine go_al (pc := 96) rfl l0 ?_
      obtain ⟨q11, eq11, hh⟩ := bi_bd hh
      refine go_ivV (pc := 97) rfl rfl (gX7_readWord eq11) (Nat.le_of_ble_eq_true rfl) (bi_up (sX7_readWord eq11) (Nat.le_of_ble_eq_true rfl)) ?_
      refine go_goto (pc := 100) rfl ?_
      exact go_rv (pc := 129) rfl hh
  · refine go_cmpltF (pc := 73) rfl hc ?_
    refine go_al (pc := 76) rfl l0 ?_
    refine go_pi (pc := 77) rfl ?_
    obtain ⟨h12, eh12, hh⟩ := bi_bd hh
    refine go_pf (pc := 79) rfl eh12 ?_
    refine go_goto (pc := 82) rfl ?_
    exact go_rv (pc := 129) rfl hh
def fX7_advance_0b (n : Nat) (r0 : ai_H → Nat → Option (Unit × ai_H)) (h : ai_H) (v0 : Nat) : Option (Unit × ai_H) :=
  (pI n h v0 7 3).bind fun x1 =>
  (pI n h v0 7 2).bind fun x2 =>
  if x2 ≤ x1 then (
    fX7_advance_52 n h v0)
  else (
    (pR n h v0 7 1).bind fun x3 =>
    (pI n h v0 7 3).bind fun x4 =>
    (gB n h x3 x4).bind fun x5 =>
    if x5 = (32 : Int32) then (
      fX7_advance_39 n r0 h v0)
    else (
      (pR n h v0 7 1).bind fun x6 =>
      (pI n h v0 7 3).bind fun x7 =>
      (gB n h x6 x7).bind fun x8 =>
      if ¬ x8 = (10 : Int32) then (
        fX7_advance_52 n h v0)
      else (
        fX7_advance_39 n r0 h v0)))
theorem sX7_advance_0b {n : Nat} {r0 : ai_H → Nat → Option (Unit × ai_H)} {q : Unit × ai_H} {h : ai_H} {v0 : Nat} {lv : ai_L} (R0 : ∀ (h : ai_H) (v0 : Nat) (lv : ai_L), ai_ld 0 lv = some (.ref v0) → r0 h v0 = some q → bi_go 2 tX7_advance n (fV n q) 0 lv [] h) (l0 : ai_ld 0 lv = some (.ref v0)) (hh : fX7_advance_0b n r0 h v0 = some q) : bi_go 2 tX7_advance n (fV n q) 0 lv [] h := by
  unfold fX7_advance_0b at hh
  refine go_al (pc := 0) rfl l0 ?_
  obtain ⟨x1, ex1, hh⟩ := bi_bd hh
  refine go_gfI (pc := 1) rfl ex1 ?_
  refine go_al (pc := 4) rfl l0 ?_
  obtain ⟨x2, ex2, hh⟩ := bi_bd hh
  refine go_gfI (pc := 5) rfl ex2 ?_
  refine bi_ite hh (fun hc hh => ?_) (fun hc hh => ?_)
  · refine go_cmpgeT (pc := 8) rfl hc ?_
    exact sX7_advance_52  l0 hh
  · refine go_cmpgeF (pc := 8) rfl hc ?_
    refine go_al (pc := 11) rfl l0 ?_
    obtain ⟨x3, ex3, hh⟩ := bi_bd hh
    refine go_gfR (pc := 12) rfl ex3 ?_
    refine go_al (pc := 15) rfl l0 ?_
    obtain ⟨x4, ex4, hh⟩ := bi_bd hh
    refine go_gfI (pc := 16) rfl ex4 ?_
    obtain ⟨x5, ex5, hh⟩ := bi_bd hh
    refine go_bald (pc := 19) rfl ex5 ?_
    refine go_pi (pc := 20) rfl ?_
    refine bi_ite hh (fun hc hh => ?_) (fun hc hh => ?_)
    · refine go_cmpeqT (pc := 22) rfl hc ?_
      exact sX7_advance_39 R0 l0 hh
    · refine go_cmpeqF (pc := 22) rfl hc ?_
      refine go_al (pc := 25) rfl l0 ?_
      obtain ⟨x6, ex6, hh⟩ := bi_bd hh
      refine go_gfR (pc := 26) rfl ex6 ?_
      refine go_al (pc := 29) rfl l0 ?_
      obtain ⟨x7, ex7, hh⟩ := bi_bd hh
      refine go_gfI (pc := 30) rfl ex7 ?_
      obtain ⟨x8, ex8, hh⟩ := bi_bd hh
      refine go_bald (pc := 33) rfl ex8 ?_
      refine go_pi (pc := 34) rfl ?_
      refine bi_ite hh (fun hc hh => ?_) (fun hc hh => ?_)
      · refine go_cmpneT (pc := 36) rfl hc ?_
        exact sX7_advance_52  l0 hh
      · refine go_cmpneF (pc := 36) rfl hc ?_
        exact sX7_advance_39 R0 l0 hh
def fX7_advance_0 (n : Nat) : Nat → ai_H → Nat → Option (Unit × ai_H)
  | 0 => fun _ _ => none
  | k + 1 => fun h v0 => fX7_advance_0b n (fX7_advance_0 n k) h v0
theorem sX7_advance_0 {n : Nat} {q : Unit × ai_H} : ∀ (k : Nat) (h : ai_H) (v0 : Nat) (lv : ai_L), ai_ld 0 lv = some (.ref v0) → fX7_advance_0 n k h v0 = some q → bi_go 2 tX7_advance n (fV n q) 0 lv [] h
  | 0 => fun _ _ _ _ hh => by cases hh
  | k + 1 => fun h v0 lv l0 hh => sX7_advance_0b  (sX7_advance_0  k) l0 hh
def fX7_advance (n : Nat) (h : ai_H) (a0 : Nat) : Option (Unit × ai_H) :=
  (kO n h a0 7).bind fun _ =>
  fX7_advance_0 n bi_K h a0
theorem gX7_advance {n : Nat} {h : ai_H} {a0 : Nat} {q : Unit × ai_H} (hh : fX7_advance n h a0 = some q) : kO n h a0 7 = some () := by
  obtain ⟨_, e, -⟩ := bi_bd hh
  exact e
theorem sX7_advance {n : Nat} {h : ai_H} {a0 : Nat} {q : Unit × ai_H} (hh : fX7_advance n h a0 = some q) : bi_sp 3 62 [.ref a0] h n (fV n q) := by
  refine bi_en (D := 2) (T := tX7_advance) (funext fun pc => rfl) rfl (Nat.le_of_ble_eq_true rfl) ?_
  unfold fX7_advance at hh
  obtain ⟨_, eO, hh⟩ := bi_bd hh
  exact sX7_advance_0  _ _ _ _ (rfl : ai_ld 0 (lv_args 0 [.ref a0]) = some (.ref a0)) hh
def fX7_begin (n : Nat) (h : ai_H) (a0 : Nat) (a1 : Nat) (a2 : Int32) : Option (Unit × ai_H) :=
  (kO n h a0 7).bind fun _ =>
  (sF n h a0 7 1 (.array .byte) (.ref a1)).bind fun h1 =>
  (lA n h1 a1).bind fun x2 =>
  (sF n h1 a0 7 2 (.int) (.int (if x2 < a2 then x2 else a2))).bind fun h3 =>
  (sF n h3 a0 7 3 (.int) (.int (0 : Int32))).bind fun h4 =>
  (fX7_advance n h4 a0).bind fun q5 =>
  some ((), q5.2)
theorem gX7_begin {n : Nat} {h : ai_H} {a0 : Nat} {a1 : Nat} {a2 : Int32} {q : Unit × ai_H} (hh : fX7_begin n h a0 a1 a2 = some q) : kO n h a0 7 = some () := by
  obtain ⟨_, e, -⟩ := bi_bd hh
  exact e
theorem sX7_begin {n : Nat} {h : ai_H} {a0 : Nat} {a1 : Nat} {a2 : Int32} {q : Unit × ai_H} (hh : fX7_begin n h a0 a1 a2 = some q) : bi_sp 4 61 [.ref a0, .ref a1, .int a2] h n (fV n q) := by
  refine bi_en (D := 3) (T := tX7_begin) (funext fun pc => rfl) rfl (Nat.le_of_ble_eq_true rfl) ?_
  unfold fX7_begin at hh
  obtain ⟨_, eO, hh⟩ := bi_bd hh
  refine go_al (pc := 0) rfl (rfl : ai_ld 0 (lv_args 0 [.ref a0, .ref a1, .int a2]) = some (.ref a0)) ?_
  refine go_al (pc := 1) rfl (rfl : ai_ld 1 (lv_args 0 [.ref a0, .ref a1, .int a2]) = some (.ref a1)) ?_
  obtain ⟨h1, eh1, hh⟩ := bi_bd hh
  refine go_pf (pc := 2) rfl eh1 ?_
  refine go_al (pc := 5) rfl (rfl : ai_ld 0 (lv_args 0 [.ref a0, .ref a1, .int a2]) = some (.ref a0)) ?_
  refine go_al (pc := 6) rfl (rfl : ai_ld 1 (lv_args 0 [.ref a0, .ref a1, .int a2]) = some (.ref a1)) ?_
  refine go_nn (pc := 7) rfl ?_
  refine go_il (pc := 14) rfl (rfl : ai_ld 2 (lv_args 0 [.ref a0, .ref a1, .int a2]) = some (.int a2)) ?_
  refine go_al (pc := 15) rfl (rfl : ai_ld 1 (lv_args 0 [.ref a0, .ref a1, .int a2]) = some (.ref a1)) ?_
  obtain ⟨x2, ex2, hh⟩ := bi_bd hh
  refine go_len (pc := 16) rfl ex2 ?_
  refine go_imin (pc := 17) rfl (Nat.le_of_ble_eq_true rfl) ?_
  obtain ⟨h3, eh3, hh⟩ := bi_bd hh
  refine go_pf (pc := 20) rfl eh3 ?_
  refine go_al (pc := 23) rfl (rfl : ai_ld 0 (lv_args 0 [.ref a0, .ref a1, .int a2]) = some (.ref a0)) ?_
  refine go_pi (pc := 24) rfl ?_
  obtain ⟨h4, eh4, hh⟩ := bi_bd hh
  refine go_pf (pc := 25) rfl eh4 ?_
  refine go_al (pc := 28) rfl (rfl : ai_ld 0 (lv_args 0 [.ref a0, .ref a1, .int a2]) = some (.ref a0)) ?_
  obtain ⟨q5, eq5, hh⟩ := bi_bd hh
  refine go_ivV (pc := 29) rfl rfl (gX7_advance eq5) (Nat.le_of_ble_eq_true rfl) (bi_up (sX7_advance eq5) (Nat.le_of_ble_eq_true rfl)) ?_
  exact go_rv (pc := 32) rfl hh
def fX6_isFull (n : Nat) (h : ai_H) (a0 : Nat) : Option (Int32 × ai_H) :=
  (kO n h a0 6).bind fun _ =>
  (pI n h a0 6 4).bind fun x1 =>
  (pI n h a0 6 0).bind fun x2 =>
  if x1 < x2 then (
    some ((0 : Int32), h))
  else (
    some ((1 : Int32), h))
theorem gX6_isFull {n : Nat} {h : ai_H} {a0 : Nat} {q : Int32 × ai_H} (hh : fX6_isFull n h a0 = some q) : kO n h a0 6 = some () := by
  obtain ⟨_, e, -⟩ := bi_bd hh
  exact e
theorem sX6_isFull {n : Nat} {h : ai_H} {a0 : Nat} {q : Int32 × ai_H} (hh : fX6_isFull n h a0 = some q) : bi_sp 1 53 [.ref a0] h n (fI n q) := by
  refine bi_en (D := 0) (T := tX6_isFull) (funext fun pc => rfl) rfl (Nat.le_of_ble_eq_true rfl) ?_
  unfold fX6_isFull at hh
  obtain ⟨_, eO, hh⟩ := bi_bd hh
  refine go_al (pc := 0) rfl (rfl : ai_ld 0 (lv_args 0 [.ref a0]) = some (.ref a0)) ?_
  obtain ⟨x1, ex1, hh⟩ := bi_bd hh
  refine go_gfI (pc := 1) rfl ex1 ?_
  refine go_al (pc := 4) rfl (rfl : ai_ld 0 (lv_args 0 [.ref a0]) = some (.ref a0)) ?_
  obtain ⟨x2, ex2, hh⟩ := bi_bd hh
  refine go_gfI (pc := 5) rfl ex2 ?_
  refine bi_ite hh (fun hc hh => ?_) (fun hc hh => ?_)
  · refine go_cmpltT (pc := 8) rfl hc ?_
    refine go_pi (pc := 15) rfl ?_
    exact go_rz (pc := 16) rfl bi_z0 hh
  · refine go_cmpltF (pc := 8) rfl hc ?_
    refine go_pi (pc := 11) rfl ?_
    refine go_goto (pc := 12) rfl ?_
    exact go_rz (pc := 16) rfl bi_z1 hh
def fX3_fail (n : Nat) (h : ai_H) (a0 : Nat) (a1 : Int32) : Option ((Unit ⊕ Nat) × ai_H) :=
  (kO n h a0 3).bind fun _ =>
  (sF n h a0 3 3 (.int) (.int a1)).bind fun h1 =>
  (pR n h1 a0 3 0).bind fun x2 =>
  (pI n h1 x2 7 5).bind fun x3 =>
  (sF n h1 a0 3 4 (.int) (.int x3)).bind fun h4 =>
  some (.inr 0, h4)
theorem gX3_fail {n : Nat} {h : ai_H} {a0 : Nat} {a1 : Int32} {q : (Unit ⊕ Nat) × ai_H} (hh : fX3_fail n h a0 a1 = some q) : kO n h a0 3 = some () := by
  obtain ⟨_, e, -⟩ := bi_bd hh
  exact e
theorem sX3_fail {n : Nat} {h : ai_H} {a0 : Nat} {a1 : Int32} {q : (Unit ⊕ Nat) × ai_H} (hh : fX3_fail n h a0 a1 = some q) : bi_sp 1 24 [.ref a0, .int a1] h n (tV n q) := by
  refine bi_en (D := 0) (T := tX3_fail) (funext fun pc => rfl) rfl (Nat.le_of_ble_eq_true rfl) ?_
  unfold fX3_fail at hh
  obtain ⟨_, eO, hh⟩ := bi_bd hh
  refine go_al (pc := 0) rfl (rfl : ai_ld 0 (lv_args 0 [.ref a0, .int a1]) = some (.ref a0)) ?_
  refine go_il (pc := 1) rfl (rfl : ai_ld 1 (lv_args 0 [.ref a0, .int a1]) = some (.int a1)) ?_
  obtain ⟨h1, eh1, hh⟩ := bi_bd hh
  refine go_pf (pc := 2) rfl eh1 ?_
  refine go_al (pc := 5) rfl (rfl : ai_ld 0 (lv_args 0 [.ref a0, .int a1]) = some (.ref a0)) ?_
  refine go_al (pc := 6) rfl (rfl : ai_ld 0 (lv_args 0 [.ref a0, .int a1]) = some (.ref a0)) ?_
  obtain ⟨x2, ex2, hh⟩ := bi_bd hh
  refine go_gfR (pc := 7) rfl ex2 ?_
  obtain ⟨x3, ex3, hh⟩ := bi_bd hh
  refine go_gfI (pc := 10) rfl ex3 ?_
  obtain ⟨h4, eh4, hh⟩ := bi_bd hh
  refine go_pf (pc := 13) rfl eh4 ?_
  exact go_th (pc := 16) rfl (Nat.le_of_ble_eq_true rfl) (bi_xV hh)
def fX3_beginRow_12 (n : Nat) (h : ai_H) (v0 : Nat) : Option ((Unit ⊕ Nat) × ai_H) :=
  (pR n h v0 3 0).bind fun x1 =>
  (fX7_advance n h x1).bind fun q2 =>
  some (.inl (), q2.2)
theorem sX3_beginRow_12 {n : Nat} {q : (Unit ⊕ Nat) × ai_H} {h : ai_H} {v0 : Nat} {lv : ai_L} (l0 : ai_ld 0 lv = some (.ref v0)) (hh : fX3_beginRow_12 n h v0 = some q) : bi_go 3 tX3_beginRow n (tV n q) 12 lv [] h := by
  unfold fX3_beginRow_12 at hh
  refine go_al (pc := 12) rfl l0 ?_
  obtain ⟨x1, ex1, hh⟩ := bi_bd hh
  refine go_gfR (pc := 13) rfl ex1 ?_
  obtain ⟨q2, eq2, hh⟩ := bi_bd hh
  refine go_ivV (pc := 16) rfl rfl (gX7_advance eq2) (Nat.le_of_ble_eq_true rfl) (bi_up (sX7_advance eq2) (Nat.le_of_ble_eq_true rfl)) ?_
  exact go_trv (pc := 19) rfl hh
def fX3_beginRow (n : Nat) (h : ai_H) (a0 : Nat) (a1 : Nat) : Option ((Unit ⊕ Nat) × ai_H) :=
  (kO n h a0 3).bind fun _ =>
  (fX6_isFull n h a1).bind fun q1 =>
  if q1.1 = 0 then (
    fX3_beginRow_12 n q1.2 a0)
  else (
    bt (fX3_fail n q1.2 a0 (2 : Int32)) fun x2 h3 =>
    fX3_beginRow_12 n h3 a0)
theorem gX3_beginRow {n : Nat} {h : ai_H} {a0 : Nat} {a1 : Nat} {q : (Unit ⊕ Nat) × ai_H} (hh : fX3_beginRow n h a0 a1 = some q) : kO n h a0 3 = some () := by
  obtain ⟨_, e, -⟩ := bi_bd hh
  exact e
theorem sX3_beginRow {n : Nat} {h : ai_H} {a0 : Nat} {a1 : Nat} {q : (Unit ⊕ Nat) × ai_H} (hh : fX3_beginRow n h a0 a1 = some q) : bi_sp 4 27 [.ref a0, .ref a1] h n (tV n q) := by
  refine bi_en (D := 3) (T := tX3_beginRow) (funext fun pc => rfl) rfl (Nat.le_of_ble_eq_true rfl) ?_
  unfold fX3_beginRow at hh
  obtain ⟨_, eO, hh⟩ := bi_bd hh
  refine go_al (pc := 0) rfl (rfl : ai_ld 1 (lv_args 0 [.ref a0, .ref a1]) = some (.ref a1)) ?_
  obtain ⟨q1, eq1, hh⟩ := bi_bd hh
  refine go_ivI (pc := 1) rfl rfl (gX6_isFull eq1) (Nat.le_of_ble_eq_true rfl) (bi_up (sX6_isFull eq1) (Nat.le_of_ble_eq_true rfl)) ?_
  refine bi_ite hh (fun hc hh => ?_) (fun hc hh => ?_)
  · refine go_ifeqT (pc := 4) rfl hc ?_
    exact sX3_beginRow_12  (rfl : ai_ld 0 (lv_args 0 [.ref a0, .ref a1]) = some (.ref a0)) hh
  · refine go_ifeqF (pc := 4) rfl hc ?_
    refine go_al (pc := 7) rfl (rfl : ai_ld 0 (lv_args 0 [.ref a0, .ref a1]) = some (.ref a0)) ?_
    refine go_pi (pc := 8) rfl ?_
    refine bt_c hh (fun E hE ee hh => go_ivX (pc := 9) rfl rfl (gX3_fail ee) (Nat.le_of_ble_eq_true rfl) (bi_up (sX3_fail ee) (Nat.le_of_ble_eq_true rfl)) (bi_xV hh)) ?_
    intro x2 h3 ex2 hh
    refine go_ivV (pc := 9) rfl rfl (gX3_fail ex2) (Nat.le_of_ble_eq_true rfl) (bi_up (sX3_fail ex2) (Nat.le_of_ble_eq_true rfl)) ?_
    exact sX3_beginRow_12  (rfl : ai_ld 0 (lv_args 0 [.ref a0, .ref a1]) = some (.ref a0)) hh
def fX6_find_2b (n : Nat) (r2 : ai_H → Nat → Int32 → Int32 → Option (Int32 × ai_H)) (h : ai_H) (v0 : Nat) (v1 : Int32) (v2 : Int32) : Option (Int32 × ai_H) :=
  (pI n h v0 6 4).bind fun x1 =>
  if x1 ≤ v2 then (
    some ((-1 : Int32), h))
  else (
    (pR n h v0 6 2).bind fun x2 =>
    (gX 1 n h x2 v2).bind fun x3 =>
    if ¬ x3 = v1 then (
      r2 h v0 v1 (v2 + 1))
    else (
      some (v2, h)))
theorem sX6_find_2b {n : Nat} {r2 : ai_H → Nat → Int32 → Int32 → Option (Int32 × ai_H)} {q : Int32 × ai_H} {h : ai_H} {v0 : Nat} {v1 : Int32} {v2 : Int32} {lv : ai_L} (R2 : ∀ (h : ai_H) (v0 : Nat) (v1 : Int32) (v2 : Int32) (lv : ai_L), ai_ld 0 lv = some (.ref v0) → ai_ld 1 lv = some (.int v1) → ai_ld 2 lv = some (.int v2) → r2 h v0 v1 v2 = some q → bi_go 0 tX6_find n (fI n q) 2 lv [] h) (l0 : ai_ld 0 lv = some (.ref v0)) (l1 : ai_ld 1 lv = some (.int v1)) (l2 : ai_ld 2 lv = some (.int v2)) (hh : fX6_find_2b n r2 h v0 v1 v2 = some q) : bi_go 0 tX6_find n (fI n q) 2 lv [] h := by
  unfold fX6_find_2b at hh
  refine go_il (pc := 2) rfl l2 ?_
  refine go_al (pc := 3) rfl l0 ?_
  obtain ⟨x1, ex1, hh⟩ := bi_bd hh
  refine go_gfI (pc := 4) rfl ex1 ?_
  refine bi_ite hh (fun hc hh => ?_) (fun hc hh => ?_)
  · refine go_cmpgeT (pc := 7) rfl hc ?_
    refine go_pi (pc := 28) rfl ?_
    exact go_ri (pc := 29) rfl hh
  · refine go_cmpgeF (pc := 7) rfl hc ?_
    refine go_al (pc := 10) rfl l0 ?_
    obtain ⟨x2, ex2, hh⟩ := bi_bd hh
    refine go_gfR (pc := 11) rfl ex2 ?_
    refine go_il (pc := 14) rfl l2 ?_
    obtain ⟨x3, ex3, hh⟩ := bi_bd hh
    refine go_iald (pc := 15) rfl ex3 ?_
    refine go_il (pc := 16) rfl l1 ?_
    refine bi_ite hh (fun hc hh => ?_) (fun hc hh => ?_)
    · refine go_cmpneT (pc := 17) rfl hc ?_
      refine go_inc (pc := 22) rfl l2 ?_
      refine go_goto (pc := 25) rfl ?_
      exact R2 _ _ _ _ _ (bi_k1 l0 rfl rfl) (bi_k1 l1 rfl rfl) bi_e1 hh
    · refine go_cmpneF (pc := 17) rfl hc ?_
      refine go_il (pc := 20) rfl l2 ?_
      exact go_ri (pc := 21) rfl hh
def fX6_find_2 (n : Nat) : Nat → ai_H → Nat → Int32 → Int32 → Option (Int32 × ai_H)
  | 0 => fun _ _ _ _ => none
  | k + 1 => fun h v0 v1 v2 => fX6_find_2b n (fX6_find_2 n k) h v0 v1 v2
theorem sX6_find_2 {n : Nat} {q : Int32 × ai_H} : ∀ (k : Nat) (h : ai_H) (v0 : Nat) (v1 : Int32) (v2 : Int32) (lv : ai_L), ai_ld 0 lv = some (.ref v0) → ai_ld 1 lv = some (.int v1) → ai_ld 2 lv = some (.int v2) → fX6_find_2 n k h v0 v1 v2 = some q → bi_go 0 tX6_find n (fI n q) 2 lv [] h
  | 0 => fun _ _ _ _ _ _ _ _ hh => by cases hh
  | k + 1 => fun h v0 v1 v2 lv l0 l1 l2 hh => sX6_find_2b  (sX6_find_2  k) l0 l1 l2 hh
def fX6_find (n : Nat) (h : ai_H) (a0 : Nat) (a1 : Int32) : Option (Int32 × ai_H) :=
  (kO n h a0 6).bind fun _ =>
  fX6_find_2 n bi_K h a0 a1 (0 : Int32)
theorem gX6_find {n : Nat} {h : ai_H} {a0 : Nat} {a1 : Int32} {q : Int32 × ai_H} (hh : fX6_find n h a0 a1 = some q) : kO n h a0 6 = some () := by
  obtain ⟨_, e, -⟩ := bi_bd hh
  exact e
theorem sX6_find {n : Nat} {h : ai_H} {a0 : Nat} {a1 : Int32} {q : Int32 × ai_H} (hh : fX6_find n h a0 a1 = some q) : bi_sp 1 54 [.ref a0, .int a1] h n (fI n q) := by
  refine bi_en (D := 0) (T := tX6_find) (funext fun pc => rfl) rfl (Nat.le_of_ble_eq_true rfl) ?_
  unfold fX6_find at hh
  obtain ⟨_, eO, hh⟩ := bi_bd hh
  refine go_pi (pc := 0) rfl ?_
  refine go_is (pc := 1) rfl ?_
  exact sX6_find_2  _ _ _ _ _ _ (bi_k1 (rfl : ai_ld 0 (lv_args 0 [.ref a0, .int a1]) = some (.ref a0)) rfl rfl) (bi_k1 (rfl : ai_ld 1 (lv_args 0 [.ref a0, .int a1]) = some (.int a1)) rfl rfl) bi_e1 hh
def fX6_putName (n : Nat) (h : ai_H) (a0 : Nat) (a1 : Int32) : Option (Unit × ai_H) :=
  (kO n h a0 6).bind fun _ =>
  (fX6_isFull n h a0).bind fun q1 =>
  if ¬ q1.1 = 0 then (
    some ((), q1.2))
  else (
    (pR n q1.2 a0 6 2).bind fun x2 =>
    (pI n q1.2 a0 6 4).bind fun x3 =>
    (wX 1 (fun x => x) n q1.2 x2 x3 a1).bind fun h4 =>
    some ((), h4))
theorem gX6_putName {n : Nat} {h : ai_H} {a0 : Nat} {a1 : Int32} {q : Unit × ai_H} (hh : fX6_putName n h a0 a1 = some q) : kO n h a0 6 = some () := by
  obtain ⟨_, e, -⟩ := bi_bd hh
  exact e
theorem sX6_putName {n : Nat} {h : ai_H} {a0 : Nat} {a1 : Int32} {q : Unit × ai_H} (hh : fX6_putName n h a0 a1 = some q) : bi_sp 2 57 [.ref a0, .int a1] h n (fV n q) := by
  refine bi_en (D := 1) (T := tX6_putName) (funext fun pc => rfl) rfl (Nat.le_of_ble_eq_true rfl) ?_
  unfold fX6_putName at hh
  obtain ⟨_, eO, hh⟩ := bi_bd hh
  refine go_al (pc := 0) rfl (rfl : ai_ld 0 (lv_args 0 [.ref a0, .int a1]) = some (.ref a0)) ?_
  obtain ⟨q1, eq1, hh⟩ := bi_bd hh
  refine go_ivI (pc := 1) rfl rfl (gX6_isFull eq1) (Nat.le_of_ble_eq_true rfl) (bi_up (sX6_isFull eq1) (Nat.le_of_ble_eq_true rfl)) ?_
  refine bi_ite hh (fun hc hh => ?_) (fun hc hh => ?_)
  · refine go_ifneT (pc := 4) rfl hc ?_
    exact go_rv (pc := 17) rfl hh
  · refine go_ifneF (pc := 4) rfl hc ?_
    refine go_al (pc := 7) rfl (rfl : ai_ld 0 (lv_args 0 [.ref a0, .int a1]) = some (.ref a0)) ?_
    obtain ⟨x2, ex2, hh⟩ := bi_bd hh
    refine go_gfR (pc := 8) rfl ex2 ?_
    refine go_al (pc := 11) rfl (rfl : ai_ld 0 (lv_args 0 [.ref a0, .int a1]) = some (.ref a0)) ?_
    obtain ⟨x3, ex3, hh⟩ := bi_bd hh
    refine go_gfI (pc := 12) rfl ex3 ?_
    refine go_il (pc := 15) rfl (rfl : ai_ld 1 (lv_args 0 [.ref a0, .int a1]) = some (.int a1)) ?_
    obtain ⟨h4, eh4, hh⟩ := bi_bd hh
    refine go_iast (pc := 16) rfl eh4 ?_
    exact go_rv (pc := 17) rfl hh
def fX3_expect_16 (n : Nat) (h : ai_H) (v0 : Nat) : Option ((Unit ⊕ Nat) × ai_H) :=
  (pR n h v0 3 0).bind fun x1 =>
  (fX7_advance n h x1).bind fun q2 =>
  some (.inl (), q2.2)
theorem sX3_expect_16 {n : Nat} {q : (Unit ⊕ Nat) × ai_H} {h : ai_H} {v0 : Nat} {lv : ai_L} (l0 : ai_ld 0 lv = some (.ref v0)) (hh : fX3_expect_16 n h v0 = some q) : bi_go 3 tX3_expect n (tV n q) 16 lv [] h := by
  unfold fX3_expect_16 at hh
  refine go_al (pc := 16) rfl l0 ?_
  obtain ⟨x1, ex1, hh⟩ := bi_bd hh
  refine go_gfR (pc := 17) rfl ex1 ?_
  obtain ⟨q2, eq2, hh⟩ := bi_bd hh
  refine go_ivV (pc := 20) rfl rfl (gX7_advance eq2) (Nat.le_of_ble_eq_true rfl) (bi_up (sX7_advance eq2) (Nat.le_of_ble_eq_true rfl)) ?_
  exact go_trv (pc := 23) rfl hh
def fX3_expect (n : Nat) (h : ai_H) (a0 : Nat) (a1 : Int32) : Option ((Unit ⊕ Nat) × ai_H) :=
  (kO n h a0 3).bind fun _ =>
  (pR n h a0 3 0).bind fun x1 =>
  (pI n h x1 7 4).bind fun x2 =>
  if x2 = a1 then (
    fX3_expect_16 n h a0)
  else (
    bt (fX3_fail n h a0 (1 : Int32)) fun x3 h4 =>
    fX3_expect_16 n h4 a0)
theorem gX3_expect {n : Nat} {h : ai_H} {a0 : Nat} {a1 : Int32} {q : (Unit ⊕ Nat) × ai_H} (hh : fX3_expect n h a0 a1 = some q) : kO n h a0 3 = some () := by
  obtain ⟨_, e, -⟩ := bi_bd hh
  exact e
theorem sX3_expect {n : Nat} {h : ai_H} {a0 : Nat} {a1 : Int32} {q : (Unit ⊕ Nat) × ai_H} (hh : fX3_expect n h a0 a1 = some q) : bi_sp 4 25 [.ref a0, .int a1] h n (tV n q) := by
  refine bi_en (D := 3) (T := tX3_expect) (funext fun pc => rfl) rfl (Nat.le_of_ble_eq_true rfl) ?_
  unfold fX3_expect at hh
  obtain ⟨_, eO, hh⟩ := bi_bd hh
  refine go_al (pc := 0) rfl (rfl : ai_ld 0 (lv_args 0 [.ref a0, .int a1]) = some (.ref a0)) ?_
  obtain ⟨x1, ex1, hh⟩ := bi_bd hh
  refine go_gfR (pc := 1) rfl ex1 ?_
  obtain ⟨x2, ex2, hh⟩ := bi_bd hh
  refine go_gfI (pc := 4) rfl ex2 ?_
  refine go_il (pc := 7) rfl (rfl : ai_ld 1 (lv_args 0 [.ref a0, .int a1]) = some (.int a1)) ?_
  refine bi_ite hh (fun hc hh => ?_) (fun hc hh => ?_)
  · refine go_cmpeqT (pc := 8) rfl hc ?_
    exact sX3_expect_16  (rfl : ai_ld 0 (lv_args 0 [.ref a0, .int a1]) = some (.ref a0)) hh
  · refine go_cmpeqF (pc := 8) rfl hc ?_
    refine go_al (pc := 11) rfl (rfl : ai_ld 0 (lv_args 0 [.ref a0, .int a1]) = some (.ref a0)) ?_
    refine go_pi (pc := 12) rfl ?_
    refine bt_c hh (fun E hE ee hh => go_ivX (pc := 13) rfl rfl (gX3_fail ee) (Nat.le_of_ble_eq_true rfl) (bi_up (sX3_fail ee) (Nat.le_of_ble_eq_true rfl)) (bi_xV hh)) ?_
    intro x3 h4 ex3 hh
    refine go_ivV (pc := 13) rfl rfl (gX3_fail ex3) (Nat.le_of_ble_eq_true rfl) (bi_up (sX3_fail ex3) (Nat.le_of_ble_eq_true rfl)) ?_
    exact sX3_expect_16  (rfl : ai_ld 0 (lv_args 0 [.ref a0, .int a1]) = some (.ref a0)) hh
def fX3_readNewName_31 (n : Nat) (h : ai_H) (v0 : Nat) (v1 : Nat) : Option ((Unit ⊕ Nat) × ai_H) :=
  (pR n h v0 3 0).bind fun x1 =>
  (pI n h x1 7 6).bind fun x2 =>
  (fX6_putName n h v1 x2).bind fun q3 =>
  bt (fX3_expect n q3.2 v0 (22 : Int32)) fun x4 h5 =>
  some (.inl (), h5)
theorem sX3_readNewName_31 {n : Nat} {q : (Unit ⊕ Nat) × ai_H} {h : ai_H} {v0 : Nat} {v1 : Nat} {lv : ai_L} (l0 : ai_ld 0 lv = some (.ref v0)) (l1 : ai_ld 1 lv = some (.ref v1)) (hh : fX3_readNewName_31 n h v0 v1 = some q) : bi_go 4 tX3_readNewName n (tV n q) 31 lv [] h := by
  unfold fX3_readNewName_31 at hh
  refine go_al (pc := 31) rfl l1 ?_
  refine go_al (pc := 32) rfl l0 ?_
  obtain ⟨x1, ex1, hh⟩ := bi_bd hh
  refine go_gfR (pc := 33) rfl ex1 ?_
  obtain ⟨x2, ex2, hh⟩ := bi_bd hh
  refine go_gfI (pc := 36) rfl ex2 ?_
  obtain ⟨q3, eq3, hh⟩ := bi_bd hh
  refine go_ivV (pc := 39) rfl rfl (gX6_putName eq3) (Nat.le_of_ble_eq_true rfl) (bi_up (sX6_putName eq3) (Nat.le_of_ble_eq_true rfl)) ?_
  refine go_al (pc := 42) rfl l0 ?_
  refine go_pi (pc := 43) rfl ?_
  refine bt_c hh (fun E hE ee hh => go_ivX (pc := 45) rfl rfl (gX3_expect ee) (Nat.le_of_ble_eq_true rfl) (bi_up (sX3_expect ee) (Nat.le_of_ble_eq_true rfl)) (bi_xV hh)) ?_
  intro x4 h5 ex4 hh
  refine go_ivV (pc := 45) rfl rfl (gX3_expect ex4) (Nat.le_of_ble_eq_true rfl) (bi_up (sX3_expect ex4) (Nat.le_of_ble_eq_true rfl)) ?_
  exact go_trv (pc := 48) rfl hh
def fX3_readNewName (n : Nat) (h : ai_H) (a0 : Nat) (a1 : Nat) : Option ((Unit ⊕ Nat) × ai_H) :=
  (kO n h a0 3).bind fun _ =>
  (pR n h a0 3 0).bind fun x1 =>
  (pI n h x1 7 4).bind fun x2 =>
  if ¬ x2 = (22 : Int32) then (
    fX3_readNewName_31 n h a0 a1)
  else (
    (pR n h a0 3 0).bind fun x3 =>
    (pI n h x3 7 6).bind fun x4 =>
    (fX6_find n h a1 x4).bind fun q5 =>
    if q5.1 < 0 then (
      fX3_readNewName_31 n q5.2 a0 a1)
    else (
      bt (fX3_fail n q5.2 a0 (3 : Int32)) fun x6 h7 =>
      fX3_readNewName_31 n h7 a0 a1))
theorem gX3_readNewName {n : Nat} {h : ai_H} {a0 : Nat} {a1 : Nat} {q : (Unit ⊕ Nat) × ai_H} (hh : fX3_readNewName n h a0 a1 = some q) : kO n h a0 3 = some () := by
  obtain ⟨_, e, -⟩ := bi_bd hh
  exact e
theorem sX3_readNewName {n : Nat} {h : ai_H} {a0 : Nat} {a1 : Nat} {q : (Unit ⊕ Nat) × ai_H} (hh : fX3_readNewName n h a0 a1 = some q) : bi_sp 5 33 [.ref a0, .ref a1] h n (tV n q) := by
  refine bi_en (D := 4) (T := tX3_readNewName) (funext fun pc => rfl) rfl (Nat.le_of_ble_eq_true rfl) ?_
  unfold fX3_readNewName at hh
  obtain ⟨_, eO, hh⟩ := bi_bd hh
  refine go_al (pc := 0) rfl (rfl : ai_ld 0 (lv_args 0 [.ref a0, .ref a1]) = some (.ref a0)) ?_
  obtain ⟨x1, ex1, hh⟩ := bi_bd hh
  refine go_gfR (pc := 1) rfl ex1 ?_
  obtain ⟨x2, ex2, hh⟩ := bi_bd hh
  refine go_gfI (pc := 4) rfl ex2 ?_
  refine go_pi (pc := 7) rfl ?_
  refine bi_ite hh (fun hc hh => ?_) (fun hc hh => ?_)
  · refine go_cmpneT (pc := 9) rfl hc ?_
    exact sX3_readNewName_31  (rfl : ai_ld 0 (lv_args 0 [.ref a0, .ref a1]) = some (.ref a0)) (rfl : ai_ld 1 (lv_args 0 [.ref a0, .ref a1]) = some (.ref a1)) hh
  · refine go_cmpneF (pc := 9) rfl hc ?_
    refine go_al (pc := 12) rfl (rfl : ai_ld 1 (lv_args 0 [.ref a0, .ref a1]) = some (.ref a1)) ?_
    refine go_al (pc := 13) rfl (rfl : ai_ld 0 (lv_args 0 [.ref a0, .ref a1]) = some (.ref a0)) ?_
    obtain ⟨x3, ex3, hh⟩ := bi_bd hh
    refine go_gfR (pc := 14) rfl ex3 ?_
    obtain ⟨x4, ex4, hh⟩ := bi_bd hh
    refine go_gfI (pc := 17) rfl ex4 ?_
    obtain ⟨q5, eq5, hh⟩ := bi_bd hh
    refine go_ivI (pc := 20) rfl rfl (gX6_find eq5) (Nat.le_of_ble_eq_true rfl) (bi_up (sX6_find eq5) (Nat.le_of_ble_eq_true rfl)) ?_
    refine bi_ite hh (fun hc hh => ?_) (fun hc hh => ?_)
    · refine go_ifltT (pc := 23) rfl hc ?_
      exact sX3_readNewName_31  (rfl : ai_ld 0 (lv_args 0 [.ref a0, .ref a1]) = some (.ref a0)) (rfl : ai_ld 1 (lv_args 0 [.ref a0, .ref a1]) = some (.ref a1)) hh
    · refine go_ifltF (pc := 23) rfl hc ?_
      refine go_al (pc := 26) rfl (rfl : ai_ld 0 (lv_args 0 [.ref a0, .ref a1]) = some (.ref a0)) ?_
      refine go_pi (pc := 27) rfl ?_
      refine bt_c hh (fun E hE ee hh => go_ivX (pc := 28) rfl rfl (gX3_fail ee) (Nat.le_of_ble_eq_true rfl) (bi_up (sX3_fail ee) (Nat.le_of_ble_eq_true rfl)) (bi_xV hh)) ?_
      intro x6 h7 ex6 hh
      refine go_ivV (pc := 28) rfl rfl (gX3_fail ex6) (Nat.le_of_ble_eq_true rfl) (bi_up (sX3_fail ex6) (Nat.le_of_ble_eq_true rfl)) ?_
      exact sX3_readNewName_31  (rfl : ai_ld 0 (lv_args 0 [.ref a0, .ref a1]) = some (.ref a0)) (rfl : ai_ld 1 (lv_args 0 [.ref a0, .ref a1]) = some (.ref a1)) hh
def fX6_endRow (n : Nat) (h : ai_H) (a0 : Nat) : Option (Unit × ai_H) :=
  (kO n h a0 6).bind fun _ =>
  (fX6_isFull n h a0).bind fun q1 =>
  if ¬ q1.1 = 0 then (
    some ((), q1.2))
  else (
    (pI n q1.2 a0 6 4).bind fun x2 =>
    (sF n q1.2 a0 6 4 (.int) (.int (x2 + (1 : Int32)))).bind fun h3 =>
    some ((), h3))
theorem gX6_endRow {n : Nat} {h : ai_H} {a0 : Nat} {q : Unit × ai_H} (hh : fX6_endRow n h a0 = some q) : kO n h a0 6 = some () := by
  obtain ⟨_, e, -⟩ := bi_bd hh
  exact e
theorem sX6_endRow {n : Nat} {h : ai_H} {a0 : Nat} {q : Unit × ai_H} (hh : fX6_endRow n h a0 = some q) : bi_sp 2 58 [.ref a0] h n (fV n q) := by
  refine bi_en (D := 1) (T := tX6_endRow) (funext fun pc => rfl) rfl (Nat.le_of_ble_eq_true rfl) ?_
  unfold fX6_endRow at hh
  obtain ⟨_, eO, hh⟩ := bi_bd hh
  refine go_al (pc := 0) rfl (rfl : ai_ld 0 (lv_args 0 [.ref a0]) = some (.ref a0)) ?_
  obtain ⟨q1, eq1, hh⟩ := bi_bd hh
  refine go_ivI (pc := 1) rfl rfl (gX6_isFull eq1) (Nat.le_of_ble_eq_true rfl) (bi_up (sX6_isFull eq1) (Nat.le_of_ble_eq_true rfl)) ?_
  refine bi_ite hh (fun hc hh => ?_) (fun hc hh => ?_)
  · refine go_ifneT (pc := 4) rfl hc ?_
    exact go_rv (pc := 17) rfl hh
  · refine go_ifneF (pc := 4) rfl hc ?_
    refine go_al (pc := 7) rfl (rfl : ai_ld 0 (lv_args 0 [.ref a0]) = some (.ref a0)) ?_
    refine go_dup (pc := 8) rfl rfl ?_
    obtain ⟨x2, ex2, hh⟩ := bi_bd hh
    refine go_gfI (pc := 9) rfl ex2 ?_
    refine go_pi (pc := 12) rfl ?_
    refine go_iadd (pc := 13) rfl ?_
    obtain ⟨h3, eh3, hh⟩ := bi_bd hh
    refine go_pf (pc := 14) rfl eh3 ?_
    exact go_rv (pc := 17) rfl hh
def fX3_readTold_33 (n : Nat) (h : ai_H) (v0 : Nat) (v2 : Int32) : Option ((Int32 ⊕ Nat) × ai_H) :=
  bt (fX3_expect n h v0 (22 : Int32)) fun x1 h2 =>
  some (.inl v2, h2)
theorem sX3_readTold_33 {n : Nat} {q : (Int32 ⊕ Nat) × ai_H} {h : ai_H} {v0 : Nat} {v2 : Int32} {lv : ai_L} (l0 : ai_ld 0 lv = some (.ref v0)) (l2 : ai_ld 2 lv = some (.int v2)) (hh : fX3_readTold_33 n h v0 v2 = some q) : bi_go 4 tX3_readTold n (tI n q) 33 lv [] h := by
  unfold fX3_readTold_33 at hh
  refine go_al (pc := 33) rfl l0 ?_
  refine go_pi (pc := 34) rfl ?_
  refine bt_c hh (fun E hE ee hh => go_ivX (pc := 36) rfl rfl (gX3_expect ee) (Nat.le_of_ble_eq_true rfl) (bi_up (sX3_expect ee) (Nat.le_of_ble_eq_true rfl)) (bi_xI hh)) ?_
  intro x1 h2 ex1 hh
  refine go_ivV (pc := 36) rfl rfl (gX3_expect ex1) (Nat.le_of_ble_eq_true rfl) (bi_up (sX3_expect ex1) (Nat.le_of_ble_eq_true rfl)) ?_
  refine go_il (pc := 39) rfl l2 ?_
  exact go_tri (pc := 40) rfl hh
def fX3_readTold (n : Nat) (h : ai_H) (a0 : Nat) (a1 : Nat) : Option ((Int32 ⊕ Nat) × ai_H) :=
  (kO n h a0 3).bind fun _ =>
  (pR n h a0 3 0).bind fun x1 =>
  (pI n h x1 7 6).bind fun x2 =>
  (fX6_find n h a1 x2).bind fun q3 =>
  (pR n q3.2 a0 3 0).bind fun x4 =>
  (pI n q3.2 x4 7 4).bind fun x5 =>
  if ¬ x5 = (22 : Int32) then (
    fX3_readTold_33 n q3.2 a0 q3.1)
  else (
    if 0 ≤ q3.1 then (
      fX3_readTold_33 n q3.2 a0 q3.1)
    else (
      bt (fX3_fail n q3.2 a0 (4 : Int32)) fun x6 h7 =>
      fX3_readTold_33 n h7 a0 q3.1))
theorem gX3_readTold {n : Nat} {h : ai_H} {a0 : Nat} {a1 : Nat} {q : (Int32 ⊕ Nat) × ai_H} (hh : fX3_readTold n h a0 a1 = some q) : kO n h a0 3 = some () := by
  obtain ⟨_, e, -⟩ := bi_bd hh
  exact e
theorem sX3_readTold {n : Nat} {h : ai_H} {a0 : Nat} {a1 : Nat} {q : (Int32 ⊕ Nat) × ai_H} (hh : fX3_readTold n h a0 a1 = some q) : bi_sp 5 34 [.ref a0, .ref a1] h n (tI n q) := by
  refine bi_en (D := 4) (T := tX3_readTold) (funext fun pc => rfl) rfl (Nat.le_of_ble_eq_true rfl) ?_
  unfold fX3_readTold at hh
  obtain ⟨_, eO, hh⟩ := bi_bd hh
  refine go_al (pc := 0) rfl (rfl : ai_ld 1 (lv_args 0 [.ref a0, .ref a1]) = some (.ref a1)) ?_
  refine go_al (pc := 1) rfl (rfl : ai_ld 0 (lv_args 0 [.ref a0, .ref a1]) = some (.ref a0)) ?_
  obtain ⟨x1, ex1, hh⟩ := bi_bd hh
  refine go_gfR (pc := 2) rfl ex1 ?_
  obtain ⟨x2, ex2, hh⟩ := bi_bd hh
  refine go_gfI (pc := 5) rfl ex2 ?_
  obtain ⟨q3, eq3, hh⟩ := bi_bd hh
  refine go_ivI (pc := 8) rfl rfl (gX6_find eq3) (Nat.le_of_ble_eq_true rfl) (bi_up (sX6_find eq3) (Nat.le_of_ble_eq_true rfl)) ?_
  refine go_is (pc := 11) rfl ?_
  refine go_al (pc := 12) rfl (bi_k1 (rfl : ai_ld 0 (lv_args 0 [.ref a0, .ref a1]) = some (.ref a0)) rfl rfl) ?_
  obtain ⟨x4, ex4, hh⟩ := bi_bd hh
  refine go_gfR (pc := 13) rfl ex4 ?_
  obtain ⟨x5, ex5, hh⟩ := bi_bd hh
  refine go_gfI (pc := 16) rfl ex5 ?_
  refine go_pi (pc := 19) rfl ?_
  refine bi_ite hh (fun hc hh => ?_) (fun hc hh => ?_)
  · refine go_cmpneT (pc := 21) rfl hc ?_
    exact sX3_readTold_33  (bi_k1 (rfl : ai_ld 0 (lv_args 0 [.ref a0, .ref a1]) = some (.ref a0)) rfl rfl) bi_e1 hh
  · refine go_cmpneF (pc := 21) rfl hc ?_
    refine go_il (pc := 24) rfl bi_e1 ?_
    refine bi_ite hh (fun hc hh => ?_) (fun hc hh => ?_)
    · refine go_ifgeT (pc := 25) rfl hc ?_
      exact sX3_readTold_33  (bi_k1 (rfl : ai_ld 0 (lv_args 0 [.ref a0, .ref a1]) = some (.ref a0)) rfl rfl) bi_e1 hh
    · refine go_ifgeF (pc := 25) rfl hc ?_
      refine go_al (pc := 28) rfl (bi_k1 (rfl : ai_ld 0 (lv_args 0 [.ref a0, .ref a1]) = some (.ref a0)) rfl rfl) ?_
      refine go_pi (pc := 29) rfl ?_
      refine bt_c hh (fun E hE ee hh => go_ivX (pc := 30) rfl rfl (gX3_fail ee) (Nat.le_of_ble_eq_true rfl) (bi_up (sX3_fail ee) (Nat.le_of_ble_eq_true rfl)) (bi_xI hh)) ?_
      intro x6 h7 ex6 hh
      refine go_ivV (pc := 30) rfl rfl (gX3_fail ex6) (Nat.le_of_ble_eq_true rfl) (bi_up (sX3_fail ex6) (Nat.le_of_ble_eq_true rfl)) ?_
      exact sX3_readTold_33  (bi_k1 (rfl : ai_ld 0 (lv_args 0 [.ref a0, .ref a1]) = some (.ref a0)) rfl rfl) bi_e1 hh
def fX6_put (n : Nat) (h : ai_H) (a0 : Nat) (a1 : Int32) (a2 : Int32) : Option (Unit × ai_H) :=
  (kO n h a0 6).bind fun _ =>
  (fX6_isFull n h a0).bind fun q1 =>
  if ¬ q1.1 = 0 then (
    some ((), q1.2))
  else (
    if a1 < 0 then (
      some ((), q1.2))
    else (
      (pI n q1.2 a0 6 1).bind fun x2 =>
      if x2 ≤ a1 then (
        some ((), q1.2))
      else (
        (pR n q1.2 a0 6 3).bind fun x3 =>
        (pI n q1.2 a0 6 4).bind fun x4 =>
        (pI n q1.2 a0 6 1).bind fun x5 =>
        (wX 1 (fun x => x) n q1.2 x3 ((x4 * x5) + a1) a2).bind fun h6 =>
        some ((), h6))))
theorem gX6_put {n : Nat} {h : ai_H} {a0 : Nat} {a1 : Int32} {a2 : Int32} {q : Unit × ai_H} (hh : fX6_put n h a0 a1 a2 = some q) : kO n h a0 6 = some () := by
  obtain ⟨_, e, -⟩ := bi_bd hh
  exact e
theorem sX6_put {n : Nat} {h : ai_H} {a0 : Nat} {a1 : Int32} {a2 : Int32} {q : Unit × ai_H} (hh : fX6_put n h a0 a1 a2 = some q) : bi_sp 2 56 [.ref a0, .int a1, .int a2] h n (fV n q) := by
  refine bi_en (D := 1) (T := tX6_put) (funext fun pc => rfl) rfl (Nat.le_of_ble_eq_true rfl) ?_
  unfold fX6_put at hh
  obtain ⟨_, eO, hh⟩ := bi_bd hh
  refine go_al (pc := 0) rfl (rfl : ai_ld 0 (lv_args 0 [.ref a0, .int a1, .int a2]) = some (.ref a0)) ?_
  obtain ⟨q1, eq1, hh⟩ := bi_bd hh
  refine go_ivI (pc := 1) rfl rfl (gX6_isFull eq1) (Nat.le_of_ble_eq_true rfl) (bi_up (sX6_isFull eq1) (Nat.le_of_ble_eq_true rfl)) ?_
  refine bi_ite hh (fun hc hh => ?_) (fun hc hh => ?_)
  · refine go_ifneT (pc := 4) rfl hc ?_
    exact go_rv (pc := 36) rfl hh
  · refine go_ifneF (pc := 4) rfl hc ?_
    refine go_il (pc := 7) rfl (rfl : ai_ld 1 (lv_args 0 [.ref a0, .int a1, .int a2]) = some (.int a1)) ?_
    refine bi_ite hh (fun hc hh => ?_) (fun hc hh => ?_)
    · refine go_ifltT (pc := 8) rfl hc ?_
      exact go_rv (pc := 36) rfl hh
    · refine go_ifltF (pc := 8) rfl hc ?_
      refine go_il (pc := 11) rfl (rfl : ai_ld 1 (lv_args 0 [.ref a0, .int a1, .int a2]) = some (.int a1)) ?_
      refine go_al (pc := 12) rfl (rfl : ai_ld 0 (lv_args 0 [.ref a0, .int a1, .int a2]) = some (.ref a0)) ?_
      obtain ⟨x2, ex2, hh⟩ := bi_bd hh
      refine go_gfI (pc := 13) rfl ex2 ?_
      refine bi_ite hh (fun hc hh => ?_) (fun hc hh => ?_)
      · refine go_cmpgeT (pc := 16) rfl hc ?_
        exact go_rv (pc := 36) rfl hh
      · refine go_cmpgeF (pc := 16) rfl hc ?_
        refine go_al (pc := 19) rfl (rfl : ai_ld 0 (lv_args 0 [.ref a0, .int a1, .int a2]) = some (.ref a0)) ?_
        obtain ⟨x3, ex3, hh⟩ := bi_bd hh
        refine go_gfR (pc := 20) rfl ex3 ?_
        refine go_al (pc := 23) rfl (rfl : ai_ld 0 (lv_args 0 [.ref a0, .int a1, .int a2]) = some (.ref a0)) ?_
        obtain ⟨x4, ex4, hh⟩ := bi_bd hh
        refine go_gfI (pc := 24) rfl ex4 ?_
        refine go_al (pc := 27) rfl (rfl : ai_ld 0 (lv_args 0 [.ref a0, .int a1, .int a2]) = some (.ref a0)) ?_
        obtain ⟨x5, ex5, hh⟩ := bi_bd hh
        refine go_gfI (pc := 28) rfl ex5 ?_
        refine go_imul (pc := 31) rfl ?_
        refine go_il (pc := 32) rfl (rfl : ai_ld 1 (lv_args 0 [.ref a0, .int a1, .int a2]) = some (.int a1)) ?_
        refine go_iadd (pc := 33) rfl ?_
        refine go_il (pc := 34) rfl (rfl : ai_ld 2 (lv_args 0 [.ref a0, .int a1, .int a2]) = some (.int a2)) ?_
        obtain ⟨h6, eh6, hh⟩ := bi_bd hh
        refine go_iast (pc := 35) rfl eh6 ?_
        exact go_rv (pc := 36) rfl hh
def fX3_readNumber_34 (n : Nat) (h : ai_H) (v0 : Nat) (v3 : Int32) : Option ((Int32 ⊕ Nat) × ai_H) :=
  bt (fX3_expect n h v0 (23 : Int32)) fun x1 h2 =>
  some (.inl v3, h2)
theorem sX3_readNumber_34 {n : Nat} {q : (Int32 ⊕ Nat) × ai_H} {h : ai_H} {v0 : Nat} {v3 : Int32} {lv : ai_L} (l0 : ai_ld 0 lv = some (.ref v0)) (l3 : ai_ld 3 lv = some (.int v3)) (hh : fX3_readNumber_34 n h v0 v3 = some q) : bi_go 4 tX3_readNumber n (tI n q) 34 lv [] h := by
  unfold fX3_readNumber_34 at hh
  refine go_al (pc := 34) rfl l0 ?_
  refine go_pi (pc := 35) rfl ?_
  refine bt_c hh (fun E hE ee hh => go_ivX (pc := 37) rfl rfl (gX3_expect ee) (Nat.le_of_ble_eq_true rfl) (bi_up (sX3_expect ee) (Nat.le_of_ble_eq_true rfl)) (bi_xI hh)) ?_
  intro x1 h2 ex1 hh
  refine go_ivV (pc := 37) rfl rfl (gX3_expect ex1) (Nat.le_of_ble_eq_true rfl) (bi_up (sX3_expect ex1) (Nat.le_of_ble_eq_true rfl)) ?_
  refine go_il (pc := 40) rfl l3 ?_
  exact go_tri (pc := 41) rfl hh
def fX3_readNumber (n : Nat) (h : ai_H) (a0 : Nat) (a1 : Int32) (a2 : Int32) : Option ((Int32 ⊕ Nat) × ai_H) :=
  (kO n h a0 3).bind fun _ =>
  (pR n h a0 3 0).bind fun x1 =>
  (pI n h x1 7 6).bind fun x2 =>
  (pR n h a0 3 0).bind fun x3 =>
  (pI n h x3 7 4).bind fun x4 =>
  if ¬ x4 = (23 : Int32) then (
    fX3_readNumber_34 n h a0 x2)
  else (
    (fX10_isWithin n h a1 x2 a2).bind fun q5 =>
    if ¬ q5.1 = 0 then (
      fX3_readNumber_34 n q5.2 a0 x2)
    else (
      bt (fX3_fail n q5.2 a0 (2 : Int32)) fun x6 h7 =>
      fX3_readNumber_34 n h7 a0 x2))
theorem gX3_readNumber {n : Nat} {h : ai_H} {a0 : Nat} {a1 : Int32} {a2 : Int32} {q : (Int32 ⊕ Nat) × ai_H} (hh : fX3_readNumber n h a0 a1 a2 = some q) : kO n h a0 3 = some () := by
  obtain ⟨_, e, -⟩ := bi_bd hh
  exact e
theorem sX3_readNumber {n : Nat} {h : ai_H} {a0 : Nat} {a1 : Int32} {a2 : Int32} {q : (Int32 ⊕ Nat) × ai_H} (hh : fX3_readNumber n h a0 a1 a2 = some q) : bi_sp 5 35 [.ref a0, .int a1, .int a2] h n (tI n q) := by
  refine bi_en (D := 4) (T := tX3_readNumber) (funext fun pc => rfl) rfl (Nat.le_of_ble_eq_true rfl) ?_
  unfold fX3_readNumber at hh
  obtain ⟨_, eO, hh⟩ := bi_bd hh
  refine go_al (pc := 0) rfl (rfl : ai_ld 0 (lv_args 0 [.ref a0, .int a1, .int a2]) = some (.ref a0)) ?_
  obtain ⟨x1, ex1, hh⟩ := bi_bd hh
  refine go_gfR (pc := 1) rfl ex1 ?_
  obtain ⟨x2, ex2, hh⟩ := bi_bd hh
  refine go_gfI (pc := 4) rfl ex2 ?_
  refine go_is (pc := 7) rfl ?_
  refine go_al (pc := 8) rfl (bi_k1 (rfl : ai_ld 0 (lv_args 0 [.ref a0, .int a1, .int a2]) = some (.ref a0)) rfl rfl) ?_
  obtain ⟨x3, ex3, hh⟩ := bi_bd hh
  refine go_gfR (pc := 9) rfl ex3 ?_
  obtain ⟨x4, ex4, hh⟩ := bi_bd hh
  refine go_gfI (pc := 12) rfl ex4 ?_
  refine go_pi (pc := 15) rfl ?_
  refine bi_ite hh (fun hc hh => ?_) (fun hc hh => ?_)
  · refine go_cmpneT (pc := 17) rfl hc ?_
    exact sX3_readNumber_34  (bi_k1 (rfl : ai_ld 0 (lv_args 0 [.ref a0, .int a1, .int a2]) = some (.ref a0)) rfl rfl) bi_e1 hh
  · refine go_cmpneF (pc := 17) rfl hc ?_
    refine go_il (pc := 20) rfl (bi_k1 (rfl : ai_ld 1 (lv_args 0 [.ref a0, .int a1, .int a2]) = some (.int a1)) rfl rfl) ?_
    refine go_il (pc := 21) rfl bi_e1 ?_
    refine go_il (pc := 22) rfl (bi_k1 (rfl : ai_ld 2 (lv_args 0 [.ref a0, .int a1, .int a2]) = some (.int a2)) rfl rfl) ?_
    obtain ⟨q5, eq5, hh⟩ := bi_bd hh
    refine go_iSI (pc := 23) rfl (Nat.le_of_ble_eq_true rfl) rfl (Nat.le_of_ble_eq_true rfl) (bi_up (sX10_isWithin eq5) (Nat.le_of_ble_eq_true rfl)) ?_
    refine bi_ite hh (fun hc hh => ?_) (fun hc hh => ?_)
    · refine go_ifneT (pc := 26) rfl hc ?_
      exact sX3_readNumber_34  (bi_k1 (rfl : ai_ld 0 (lv_args 0 [.ref a0, .int a1, .int a2]) = some (.ref a0)) rfl rfl) bi_e1 hh
    · refine go_ifneF (pc := 26) rfl hc ?_
      refine go_al (pc := 29) rfl (bi_k1 (rfl : ai_ld 0 (lv_args 0 [.ref a0, .int a1, .int a2]) = some (.ref a0)) rfl rfl) ?_
      refine go_pi (pc := 30) rfl ?_
      refine bt_c hh (fun E hE ee hh => go_ivX (pc := 31) rfl rfl (gX3_fail ee) (Nat.le_of_ble_eq_true rfl) (bi_up (sX3_fail ee) (Nat.le_of_ble_eq_true rfl)) (bi_xI hh)) ?_
      intro x6 h7 ex6 hh
      refine go_ivV (pc := 31) rfl rfl (gX3_fail ex6) (Nat.le_of_ble_eq_true rfl) (bi_up (sX3_fail ex6) (Nat.le_of_ble_eq_true rfl)) ?_
      exact sX3_readNumber_34  (bi_k1 (rfl : ai_ld 0 (lv_args 0 [.ref a0, .int a1, .int a2]) = some (.ref a0)) rfl rfl) bi_e1 hh
