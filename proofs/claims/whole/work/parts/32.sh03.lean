/-! ===== methods as functions, part 3 ===== -/
def fX7_readWord_72 (n : Nat) (r2 : ai_H → Nat → Int32 → Option (Unit × ai_H)) (h : ai_H) (v0 : Nat) (v1 : Int32) : Option (Unit × ai_H) :=
  (pI n h v0 7 3).bind fun x1 =>
  (sF n h v0 7 3 (.int) (.int (x1 + (1 : Int32)))).bind fun h2 =>
  r2 h2 v0 (v1 + 1)
theorem sX7_readWord_72 {n : Nat} {r2 : ai_H → Nat → Int32 → Option (Unit × ai_H)} {q : Unit × ai_H} {h : ai_H} {v0 : Nat} {v1 : Int32} {lv : ai_L} (R2 : ∀ (h : ai_H) (v0 : Nat) (v1 : Int32) (lv : ai_L), ai_ld 0 lv = some (.ref v0) → ai_ld 1 lv = some (.int v1) → r2 h v0 v1 = some q → bi_go 0 tX7_readWord n (fV n q) 2 lv [] h) (l0 : ai_ld 0 lv = some (.ref v0)) (l1 : ai_ld 1 lv = some (.int v1)) (hh : fX7_readWord_72 n r2 h v0 v1 = some q) : bi_go 0 tX7_readWord n (fV n q) 72 lv [] h := by
  unfold fX7_readWord_72 at hh
  refine go_inc (pc := 72) rfl l1 ?_
  refine go_al (pc := 75) rfl (bi_k1 l0 rfl rfl) ?_
  refine go_dup (pc := 76) rfl rfl ?_
  obtain ⟨x1, ex1, hh⟩ := bi_bd hh
  refine go_gfI (pc := 77) rfl ex1 ?_
  refine go_pi (pc := 80) rfl ?_
  refine go_iadd (pc := 81) rfl ?_
  obtain ⟨h2, eh2, hh⟩ := bi_bd hh
  refine go_pf (pc := 82) rfl eh2 ?_
  refine go_goto (pc := 85) rfl ?_
  exact R2 _ _ _ _ (bi_k1 l0 rfl rfl) bi_e1 hh
def fX7_readWord_157 (n : Nat) (r124 : ai_H → Nat → Int32 → Option (Unit × ai_H)) (h : ai_H) (v0 : Nat) (v2 : Int32) : Option (Unit × ai_H) :=
  r124 h v0 (v2 + 1)
theorem sX7_readWord_157 {n : Nat} {r124 : ai_H → Nat → Int32 → Option (Unit × ai_H)} {q : Unit × ai_H} {h : ai_H} {v0 : Nat} {v2 : Int32} {lv : ai_L} (R124 : ∀ (h : ai_H) (v0 : Nat) (v2 : Int32) (lv : ai_L), ai_ld 0 lv = some (.ref v0) → ai_ld 2 lv = some (.int v2) → r124 h v0 v2 = some q → bi_go 0 tX7_readWord n (fV n q) 124 lv [] h) (l0 : ai_ld 0 lv = some (.ref v0)) (l2 : ai_ld 2 lv = some (.int v2)) (hh : fX7_readWord_157 n r124 h v0 v2 = some q) : bi_go 0 tX7_readWord n (fV n q) 157 lv [] h := by
  unfold fX7_readWord_157 at hh
  refine go_inc (pc := 157) rfl l2 ?_
  refine go_goto (pc := 160) rfl ?_
  exact R124 _ _ _ _ (bi_k1 l0 rfl rfl) bi_e1 hh
def fX7_readWord_124b (n : Nat) (r124 : ai_H → Nat → Int32 → Option (Unit × ai_H)) (h : ai_H) (v0 : Nat) (v2 : Int32) : Option (Unit × ai_H) :=
  if (22 : Int32) ≤ v2 then (
    some ((), h))
  else (
    (pI n h v0 7 4).bind fun x1 =>
    if ¬ x1 = (22 : Int32) then (
      some ((), h))
    else (
      (pR n h v0 7 0).bind fun x2 =>
      (gX 1 n h x2 v2).bind fun x3 =>
      (pI n h v0 7 6).bind fun x4 =>
      if ¬ x3 = x4 then (
        fX7_readWord_157 n r124 h v0 v2)
      else (
        (sF n h v0 7 4 (.int) (.int v2)).bind fun h5 =>
        fX7_readWord_157 n r124 h5 v0 v2)))
theorem sX7_readWord_124b {n : Nat} {r124 : ai_H → Nat → Int32 → Option (Unit × ai_H)} {q : Unit × ai_H} {h : ai_H} {v0 : Nat} {v2 : Int32} {lv : ai_L} (R124 : ∀ (h : ai_H) (v0 : Nat) (v2 : Int32) (lv : ai_L), ai_ld 0 lv = some (.ref v0) → ai_ld 2 lv = some (.int v2) → r124 h v0 v2 = some q → bi_go 0 tX7_readWord n (fV n q) 124 lv [] h) (l0 : ai_ld 0 lv = some (.ref v0)) (l2 : ai_ld 2 lv = some (.int v2)) (hh : fX7_readWord_124b n r124 h v0 v2 = some q) : bi_go 0 tX7_readWord n (fV n q) 124 lv [] h := by
  unfold fX7_readWord_124b at hh
  refine go_il (pc := 124) rfl l2 ?_
  refine go_pi (pc := 125) rfl ?_
  refine bi_ite hh (fun hc hh => ?_) (fun hc hh => ?_)
  · refine go_cmpgeT (pc := 127) rfl hc ?_
    exact go_rv (pc := 163) rfl hh
  · refine go_cmpgeF (pc := 127) rfl hc ?_
    refine go_al (pc := 130) rfl l0 ?_
    obtain ⟨x1, ex1, hh⟩ := bi_bd hh
    refine go_gfI (pc := 131) rfl ex1 ?_
    refine go_pi (pc := 134) rfl ?_
    refine bi_ite hh (fun hc hh => ?_) (fun hc hh => ?_)
    · refine go_cmpneT (pc := 136) rfl hc ?_
      exact go_rv (pc := 163) rfl hh
    · refine go_cmpneF (pc := 136) rfl hc ?_
      refine go_al (pc := 139) rfl l0 ?_
      obtain ⟨x2, ex2, hh⟩ := bi_bd hh
      refine go_gfR (pc := 140) rfl ex2 ?_
      refine go_il (pc := 143) rfl l2 ?_
      obtain ⟨x3, ex3, hh⟩ := bi_bd hh
      refine go_iald (pc := 144) rfl ex3 ?_
      refine go_al (pc := 145) rfl l0 ?_
      obtain ⟨x4, ex4, hh⟩ := bi_bd hh
      refine go_gfI (pc := 146) rfl ex4 ?_
      refine bi_ite hh (fun hc hh => ?_) (fun hc hh => ?_)
      · refine go_cmpneT (pc := 149) rfl hc ?_
        exact sX7_readWord_157 R124 l0 l2 hh
      · refine go_cmpneF (pc := 149) rfl hc ?_
        refine go_al (pc := 152) rfl l0 ?_
        refine go_il (pc := 153) rfl l2 ?_
        obtain ⟨h5, eh5, hh⟩ := bi_bd hh
        refine go_pf (pc := 154) rfl eh5 ?_
        exact sX7_readWord_157 R124 l0 l2 hh
def fX7_readWord_124 (n : Nat) : Nat → ai_H → Nat → Int32 → Option (Unit × ai_H)
  | 0 => fun _ _ _ => none
  | k + 1 => fun h v0 v2 => fX7_readWord_124b n (fX7_readWord_124 n k) h v0 v2
theorem sX7_readWord_124 {n : Nat} {q : Unit × ai_H} : ∀ (k : Nat) (h : ai_H) (v0 : Nat) (v2 : Int32) (lv : ai_L), ai_ld 0 lv = some (.ref v0) → ai_ld 2 lv = some (.int v2) → fX7_readWord_124 n k h v0 v2 = some q → bi_go 0 tX7_readWord n (fV n q) 124 lv [] h
  | 0 => fun _ _ _ _ _ _ hh => by cases hh
  | k + 1 => fun h v0 v2 lv l0 l2 hh => sX7_readWord_124b  (sX7_readWord_124  k) l0 l2 hh
def fX7_readWord_88 (n : Nat) (h : ai_H) (v0 : Nat) (v1 : Int32) : Option (Unit × ai_H) :=
  if v1 ≤ (6 : Int32) then (
    (pI n h v0 7 6).bind fun x1 =>
    (sF n h v0 7 6 (.int) (.int (x1 <<< (((5 : Int32) * ((6 : Int32) - v1)) &&& 31)))).bind fun h2 =>
    (sF n h2 v0 7 4 (.int) (.int (22 : Int32))).bind fun h3 =>
    fX7_readWord_124 n bi_K h3 v0 (0 : Int32))
  else (
    (sF n h v0 7 4 (.int) (.int (38 : Int32))).bind fun h4 =>
    some ((), h4))
theorem sX7_readWord_88 {n : Nat} {q : Unit × ai_H} {h : ai_H} {v0 : Nat} {v1 : Int32} {lv : ai_L} (l0 : ai_ld 0 lv = some (.ref v0)) (l1 : ai_ld 1 lv = some (.int v1)) (hh : fX7_readWord_88 n h v0 v1 = some q) : bi_go 0 tX7_readWord n (fV n q) 88 lv [] h := by
  unfold fX7_readWord_88 at hh
  refine go_il (pc := 88) rfl l1 ?_
  refine go_pi (pc := 89) rfl ?_
  refine bi_ite hh (fun hc hh => ?_) (fun hc hh => ?_)
  · refine go_cmpleT (pc := 91) rfl hc ?_
    refine go_al (pc := 101) rfl l0 ?_
    refine go_dup (pc := 102) rfl rfl ?_
    obtain ⟨x1, ex1, hh⟩ := bi_bd hh
    refine go_gfI (pc := 103) rfl ex1 ?_
    refine go_pi (pc := 106) rfl ?_
    refine go_pi (pc := 107) rfl ?_
    refine go_il (pc := 109) rfl l1 ?_
    refine go_isub (pc := 110) rfl ?_
    refine go_imul (pc := 111) rfl ?_
    refine go_ishl (pc := 112) rfl ?_
    obtain ⟨h2, eh2, hh⟩ := bi_bd hh
    refine go_pf (pc := 113) rfl eh2 ?_
    refine go_al (pc := 116) rfl l0 ?_
    refine go_pi (pc := 117) rfl ?_
    obtain ⟨h3, eh3, hh⟩ := bi_bd hh
    refine go_pf (pc := 119) rfl eh3 ?_
    refine go_pi (pc := 122) rfl ?_
    refine go_is (pc := 123) rfl ?_
    exact sX7_readWord_124  _ _ _ _ _ (bi_k1 l0 rfl rfl) bi_e1 hh
  · refine go_cmpleF (pc := 91) rfl hc ?_
    refine go_al (pc := 94) rfl l0 ?_
    refine go_pi (pc := 95) rfl ?_
    obtain ⟨h4, eh4, hh⟩ := bi_bd hh
    refine go_pf (pc := 97) rfl eh4 ?_
    exact go_rv (pc := 100) rfl hh
def fX7_readWord_2b (n : Nat) (r2 : ai_H → Nat → Int32 → Option (Unit × ai_H)) (h : ai_H) (v0 : Nat) (v1 : Int32) : Option (Unit × ai_H) :=
  (pI n h v0 7 3).bind fun x1 =>
  (pI n h v0 7 2).bind fun x2 =>
  if x2 ≤ x1 then (
    fX7_readWord_88 n h v0 v1)
  else (
    (pR n h v0 7 1).bind fun x3 =>
    (pI n h v0 7 3).bind fun x4 =>
    (gB n h x3 x4).bind fun x5 =>
    if x5 < (97 : Int32) then (
      fX7_readWord_88 n h v0 v1)
    else (
      (pR n h v0 7 1).bind fun x6 =>
      (pI n h v0 7 3).bind fun x7 =>
      (gB n h x6 x7).bind fun x8 =>
      if (122 : Int32) < x8 then (
        fX7_readWord_88 n h v0 v1)
      else (
        if (6 : Int32) ≤ v1 then (
          fX7_readWord_72 n r2 h v0 v1)
        else (
          (pI n h v0 7 6).bind fun x9 =>
          (pR n h v0 7 1).bind fun x10 =>
          (pI n h v0 7 3).bind fun x11 =>
          (gB n h x10 x11).bind fun x12 =>
          (sF n h v0 7 6 (.int) (.int ((x9 <<< ((5 : Int32) &&& 31)) ||| ((x12 - (97 : Int32)) + (1 : Int32))))).bind fun h13 =>
          fX7_readWord_72 n r2 h13 v0 v1))))
theorem sX7_readWord_2b {n : Nat} {r2 : ai_H → Nat → Int32 → Option (Unit × ai_H)} {q : Unit × ai_H} {h : ai_H} {v0 : Nat} {v1 : Int32} {lv : ai_L} (R2 : ∀ (h : ai_H) (v0 : Nat) (v1 : Int32) (lv : ai_L), ai_ld 0 lv = some (.ref v0) → ai_ld 1 lv = some (.int v1) → r2 h v0 v1 = some q → bi_go 0 tX7_readWord n (fV n q) 2 lv [] h) (l0 : ai_ld 0 lv = some (.ref v0)) (l1 : ai_ld 1 lv = some (.int v1)) (hh : fX7_readWord_2b n r2 h v0 v1 = some q) : bi_go 0 tX7_readWord n (fV n q) 2 lv [] h := by
  unfold fX7_readWord_2b at hh
  refine go_al (pc := 2) rfl l0 ?_
  obtain ⟨x1, ex1, hh⟩ := bi_bd hh
  refine go_gfI (pc := 3) rfl ex1 ?_
  refine go_al (pc := 6) rfl l0 ?_
  obtain ⟨x2, ex2, hh⟩ := bi_bd hh
  refine go_gfI (pc := 7) rfl ex2 ?_
  refine bi_ite hh (fun hc hh => ?_) (fun hc hh => ?_)
  · refine go_cmpgeT (pc := 10) rfl hc ?_
    exact sX7_readWord_88  l0 l1 hh
  · refine go_cmpgeF (pc := 10) rfl hc ?_
    refine go_al (pc := 13) rfl l0 ?_
    obtain ⟨x3, ex3, hh⟩ := bi_bd hh
    refine go_gfR (pc := 14) rfl ex3 ?_
    refine go_al (pc := 17) rfl l0 ?_
    obtain ⟨x4, ex4, hh⟩ := bi_bd hh
    refine go_gfI (pc := 18) rfl ex4 ?_
    obtain ⟨x5, ex5, hh⟩ := bi_bd hh
    refine go_bald (pc := 21) rfl ex5 ?_
    refine go_pi (pc := 22) rfl ?_
    refine bi_ite hh (fun hc hh => ?_) (fun hc hh => ?_)
    · refine go_cmpltT (pc := 24) rfl hc ?_
      exact sX7_readWord_88  l0 l1 hh
    · refine go_cmpltF (pc := 24) rfl hc ?_
      refine go_al (pc := 27) rfl l0 ?_
      obtain ⟨x6, ex6, hh⟩ := bi_bd hh
      refine go_gfR (pc := 28) rfl ex6 ?_
      refine go_al (pc := 31) rfl l0 ?_
      obtain ⟨x7, ex7, hh⟩ := bi_bd hh
      refine go_gfI (pc := 32) rfl ex7 ?_
      obtain ⟨x8, ex8, hh⟩ := bi_bd hh
      refine go_bald (pc := 35) rfl ex8 ?_
      refine go_pi (pc := 36) rfl ?_
      refine bi_ite hh (fun hc hh => ?_) (fun hc hh => ?_)
      · refine go_cmpgtT (pc := 38) rfl hc ?_
        exact sX7_readWord_88  l0 l1 hh
      · refine go_cmpgtF (pc := 38) rfl hc ?_
        refine go_il (pc := 41) rfl l1 ?_
        refine go_pi (pc := 42) rfl ?_
        refine bi_ite hh (fun hc hh => ?_) (fun hc hh => ?_)
        · refine go_cmpgeT (pc := 44) rfl hc ?_
          exact sX7_readWord_72 R2 l0 l1 hh
        · refine go_cmpgeF (pc := 44) rfl hc ?_
          refine go_al (pc := 47) rfl l0 ?_
          refine go_al (pc := 48) rfl l0 ?_
          obtain ⟨x9, ex9, hh⟩ := bi_bd hh
          refine go_gfI (pc := 49) rfl ex9 ?_
          refine go_pi (pc := 52) rfl ?_
          refine go_ishl (pc := 53) rfl ?_
          refine go_al (pc := 54) rfl l0 ?_
          obtain ⟨x10, ex10, hh⟩ := bi_bd hh
          refine go_gfR (pc := 55) rfl ex10 ?_
          refine go_al (pc := 58) rfl l0 ?_
          obtain ⟨x11, ex11, hh⟩ := bi_bd hh
          refine go_gfI (pc := 59) rfl ex11 ?_
          obtain ⟨x12, ex12, hh⟩ := bi_bd hh
          refine go_bald (pc := 62) rfl ex12 ?_
          refine go_pi (pc := 63) rfl ?_
          refine go_isub (pc := 65) rfl ?_
          refine go_pi (pc := 66) rfl ?_
          refine go_iadd (pc := 67) rfl ?_
          refine go_ior (pc := 68) rfl ?_
          obtain ⟨h13, eh13, hh⟩ := bi_bd hh
          refine go_pf (pc := 69) rfl eh13 ?_
          exact sX7_readWord_72 R2 l0 l1 hh
def fX7_readWord_2 (n : Nat) : Nat → ai_H → Nat → Int32 → Option (Unit × ai_H)
  | 0 => fun _ _ _ => none
  | k + 1 => fun h v0 v1 => fX7_readWord_2b n (fX7_readWord_2 n k) h v0 v1
theorem sX7_readWord_2 {n : Nat} {q : Unit × ai_H} : ∀ (k : Nat) (h : ai_H) (v0 : Nat) (v1 : Int32) (lv : ai_L), ai_ld 0 lv = some (.ref v0) → ai_ld 1 lv = some (.int v1) → fX7_readWord_2 n k h v0 v1 = some q → bi_go 0 tX7_readWord n (fV n q) 2 lv [] h
  | 0 => fun _ _ _ _ _ _ hh => by cases hh
  | k + 1 => fun h v0 v1 lv l0 l1 hh => sX7_readWord_2b  (sX7_readWord_2  k) l0 l1 hh
def fX7_readWord (n : Nat) (h : ai_H) (a0 : Nat) : Option (Unit × ai_H) :=
  (kO n h a0 7).bind fun _ =>
  fX7_readWord_2 n bi_K h a0 (0 : Int32)
theorem gX7_readWord {n : Nat} {h : ai_H} {a0 : Nat} {q : Unit × ai_H} (hh : fX7_readWord n h a0 = some q) : kO n h a0 7 = some () := by
  obtain ⟨_, e, -⟩ := bi_bd hh
  exact e
theorem sX7_readWord {n : Nat} {h : ai_H} {a0 : Nat} {q : Unit × ai_H} (hh : fX7_readWord n h a0 = some q) : bi_sp 1 64 [.ref a0] h n (fV n q) := by
  refine bi_en (D := 0) (T := tX7_readWord) (funext fun pc => rfl) rfl (Nat.le_of_ble_eq_true rfl) ?_
  unfold fX7_readWord at hh
  obtain ⟨_, eO, hh⟩ := bi_bd hh
  refine go_pi (pc := 0) rfl ?_
  refine go_is (pc := 1) rfl ?_
  exact sX7_readWord_2  _ _ _ _ _ (bi_k1 (rfl : ai_ld 0 (lv_args 0 [.ref a0]) = some (.ref a0)) rfl rfl) bi_e1 hh
def fX7_readDigits_72 (n : Nat) (r0 : ai_H → Nat → Option (Unit × ai_H)) (h : ai_H) (v0 : Nat) : Option (Unit × ai_H) :=
  (pI n h v0 7 3).bind fun x1 =>
  (sF n h v0 7 3 (.int) (.int (x1 + (1 : Int32)))).bind fun h2 =>
  r0 h2 v0
theorem sX7_readDigits_72 {n : Nat} {r0 : ai_H → Nat → Option (Unit × ai_H)} {q : Unit × ai_H} {h : ai_H} {v0 : Nat} {lv : ai_L} (R0 : ∀ (h : ai_H) (v0 : Nat) (lv : ai_L), ai_ld 0 lv = some (.ref v0) → r0 h v0 = some q → bi_go 0 tX7_readDigits n (fV n q) 0 lv [] h) (l0 : ai_ld 0 lv = some (.ref v0)) (hh : fX7_readDigits_72 n r0 h v0 = some q) : bi_go 0 tX7_readDigits n (fV n q) 72 lv [] h := by
  unfold fX7_readDigits_72 at hh
  refine go_al (pc := 72) rfl l0 ?_
  refine go_dup (pc := 73) rfl rfl ?_
  obtain ⟨x1, ex1, hh⟩ := bi_bd hh
  refine go_gfI (pc := 74) rfl ex1 ?_
  refine go_pi (pc := 77) rfl ?_
  refine go_iadd (pc := 78) rfl ?_
  obtain ⟨h2, eh2, hh⟩ := bi_bd hh
  refine go_pf (pc := 79) rfl eh2 ?_
  refine go_goto (pc := 82) rfl ?_
  exact R0 _ _ _ l0 hh
def fX7_readDigits_0b (n : Nat) (r0 : ai_H → Nat → Option (Unit × ai_H)) (h : ai_H) (v0 : Nat) : Option (Unit × ai_H) :=
  (pI n h v0 7 3).bind fun x1 =>
  (pI n h v0 7 2).bind fun x2 =>
  if x2 ≤ x1 then (
    (sF n h v0 7 4 (.int) (.int (23 : Int32))).bind fun h3 =>
    some ((), h3))
  else (
    (pR n h v0 7 1).bind fun x4 =>
    (pI n h v0 7 3).bind fun x5 =>
    (gB n h x4 x5).bind fun x6 =>
    if x6 < (48 : Int32) then (
      (sF n h v0 7 4 (.int) (.int (23 : Int32))).bind fun h7 =>
      some ((), h7))
    else (
      (pR n h v0 7 1).bind fun x8 =>
      (pI n h v0 7 3).bind fun x9 =>
      (gB n h x8 x9).bind fun x10 =>
      if (57 : Int32) < x10 then (
        (sF n h v0 7 4 (.int) (.int (23 : Int32))).bind fun h11 =>
        some ((), h11))
      else (
        (pI n h v0 7 6).bind fun x12 =>
        if (100000 : Int32) ≤ x12 then (
          fX7_readDigits_72 n r0 h v0)
        else (
          (pI n h v0 7 6).bind fun x13 =>
          (pR n h v0 7 1).bind fun x14 =>
          (pI n h v0 7 3).bind fun x15 =>
          (gB n h x14 x15).bind fun x16 =>
          (sF n h v0 7 6 (.int) (.int (((x13 * (10 : Int32)) + x16) - (48 : Int32)))).bind fun h17 =>
          fX7_readDigits_72 n r0 h17 v0))))
theorem sX7_readDigits_0b {n : Nat} {r0 : ai_H → Nat → Option (Unit × ai_H)} {q : Unit × ai_H} {h : ai_H} {v0 : Nat} {lv : ai_L} (R0 : ∀ (h : ai_H) (v0 : Nat) (lv : ai_L), ai_ld 0 lv = some (.ref v0) → r0 h v0 = some q → bi_go 0 tX7_readDigits n (fV n q) 0 lv [] h) (l0 : ai_ld 0 lv = some (.ref v0)) (hh : fX7_readDigits_0b n r0 h v0 = some q) : bi_go 0 tX7_readDigits n (fV n q) 0 lv [] h := by
  unfold fX7_readDigits_0b at hh
  refine go_al (pc := 0) rfl l0 ?_
  obtain ⟨x1, ex1, hh⟩ := bi_bd hh
  refine go_gfI (pc := 1) rfl ex1 ?_
  refine go_al (pc := 4) rfl l0 ?_
  obtain ⟨x2, ex2, hh⟩ := bi_bd hh
  refine go_gfI (pc := 5) rfl ex2 ?_
  refine bi_ite hh (fun hc hh => ?_) (fun hc hh => ?_)
  · refine go_cmpgeT (pc := 8) rfl hc ?_
    refine go_al (pc := 85) rfl l0 ?_
    refine go_pi (pc := 86) rfl ?_
    obtain ⟨h3, eh3, hh⟩ := bi_bd hh
    refine go_pf (pc := 88) rfl eh3 ?_
    exact go_rv (pc := 91) rfl hh
  · refine go_cmpgeF (pc := 8) rfl hc ?_
    refine go_al (pc := 11) rfl l0 ?_
    obtain ⟨x4, ex4, hh⟩ := bi_bd hh
    refine go_gfR (pc := 12) rfl ex4 ?_
    refine go_al (pc := 15) rfl l0 ?_
    obtain ⟨x5, ex5, hh⟩ := bi_bd hh
    refine go_gfI (pc := 16) rfl ex5 ?_
    obtain ⟨x6, ex6, hh⟩ := bi_bd hh
    refine go_bald (pc := 19) rfl ex6 ?_
    refine go_pi (pc := 20) rfl ?_
    refine bi_ite hh (fun hc hh => ?_) (fun hc hh => ?_)
    · refine go_cmpltT (pc := 22) rfl hc ?_
      refine go_al (pc := 85) rfl l0 ?_
      refine go_pi (pc := 86) rfl ?_
      obtain ⟨h7, eh7, hh⟩ := bi_bd hh
      refine go_pf (pc := 88) rfl eh7 ?_
      exact go_rv (pc := 91) rfl hh
    · refine go_cmpltF (pc := 22) rfl hc ?_
      refine go_al (pc := 25) rfl l0 ?_
      obtain ⟨x8, ex8, hh⟩ := bi_bd hh
      refine go_gfR (pc := 26) rfl ex8 ?_
      refine go_al (pc := 29) rfl l0 ?_
      obtain ⟨x9, ex9, hh⟩ := bi_bd hh
      refine go_gfI (pc := 30) rfl ex9 ?_
      obtain ⟨x10, ex10, hh⟩ := bi_bd hh
      refine go_bald (pc := 33) rfl ex10 ?_
      refine go_pi (pc := 34) rfl ?_
      refine bi_ite hh (fun hc hh => ?_) (fun hc hh => ?_)
      · refine go_cmpgtT (pc := 36) rfl hc ?_
        refine go_al (pc := 85) rfl l0 ?_
        refine go_pi (pc := 86) rfl ?_
        obtain ⟨h11, eh11, hh⟩ := bi_bd hh
        refine go_pf (pc := 88) rfl eh11 ?_
        exact go_rv (pc := 91) rfl hh
      · refine go_cmpgtF (pc := 36) rfl hc ?_
        refine go_al (pc := 39) rfl l0 ?_
        obtain ⟨x12, ex12, hh⟩ := bi_bd hh
        refine go_gfI (pc := 40) rfl ex12 ?_
        refine go_pi (pc := 43) rfl ?_
        refine bi_ite hh (fun hc hh => ?_) (fun hc hh => ?_)
        · refine go_cmpgeT (pc := 45) rfl hc ?_
          exact sX7_readDigits_72 R0 l0 hh
        · refine go_cmpgeF (pc := 45) rfl hc ?_
          refine go_al (pc := 48) rfl l0 ?_
          refine go_al (pc := 49) rfl l0 ?_
          obtain ⟨x13, ex13, hh⟩ := bi_bd hh
          refine go_gfI (pc := 50) rfl ex13 ?_
          refine go_pi (pc := 53) rfl ?_
          refine go_imul (pc := 55) rfl ?_
          refine go_al (pc := 56) rfl l0 ?_
          obtain ⟨x14, ex14, hh⟩ := bi_bd hh
          refine go_gfR (pc := 57) rfl ex14 ?_
          refine go_al (pc := 60) rfl l0 ?_
          obtain ⟨x15, ex15, hh⟩ := bi_bd hh
          refine go_gfI (pc := 61) rfl ex15 ?_
          obtain ⟨x16, ex16, hh⟩ := bi_bd hh
          refine go_bald (pc := 64) rfl ex16 ?_
          refine go_iadd (pc := 65) rfl ?_
          refine go_pi (pc := 66) rfl ?_
          refine go_isub (pc := 68) rfl ?_
          obtain ⟨h17, eh17, hh⟩ := bi_bd hh
          refine go_pf (pc := 69) rfl eh17 ?_
          exact sX7_readDigits_72 R0 l0 hh
def fX7_readDigits_0 (n : Nat) : Nat → ai_H → Nat → Option (Unit × ai_H)
  | 0 => fun _ _ => none
  | k + 1 => fun h v0 => fX7_readDigits_0b n (fX7_readDigits_0 n k) h v0
theorem sX7_readDigits_0 {n : Nat} {q : Unit × ai_H} : ∀ (k : Nat) (h : ai_H) (v0 : Nat) (lv : ai_L), ai_ld 0 lv = some (.ref v0) → fX7_readDigits_0 n k h v0 = some q → bi_go 0 tX7_readDigits n (fV n q) 0 lv [] h
  | 0 => fun _ _ _ _ hh => by cases hh
  | k + 1 => fun h v0 lv l0 hh => sX7_readDigits_0b  (sX7_readDigits_0  k) l0 hh
def fX7_readDigits (n : Nat) (h : ai_H) (a0 : Nat) : Option (Unit × ai_H) :=
  (kO n h a0 7).bind fun _ =>
  fX7_readDigits_0 n bi_K h a0
theorem gX7_readDigits {n : Nat} {h : ai_H} {a0 : Nat} {q : Unit × ai_H} (hh : fX7_readDigits n h a0 = some q) : kO n h a0 7 = some () := by
  obtain ⟨_, e, -⟩ := bi_bd hh
  exact e
theorem sX7_readDigits {n : Nat} {h : ai_H} {a0 : Nat} {q : Unit × ai_H} (hh : fX7_readDigits n h a0 = some q) : bi_sp 1 65 [.ref a0] h n (fV n q) := by
  refine bi_en (D := 0) (T := tX7_readDigits) (funext fun pc => rfl) rfl (Nat.le_of_ble_eq_true rfl) ?_
  unfold fX7_readDigits at hh
  obtain ⟨_, eO, hh⟩ := bi_bd hh
  exact sX7_readDigits_0  _ _ _ _ (rfl : ai_ld 0 (lv_args 0 [.ref a0]) = some (.ref a0)) hh
def fX7_readComparison_100 (n : Nat) (h : ai_H) (v1 : Int32) : Option (Int32 × ai_H) :=
  if ¬ v1 = (60 : Int32) then (
    some ((32 : Int32), h))
  else (
    some ((27 : Int32), h))
theorem sX7_readComparison_100 {n : Nat} {q : Int32 × ai_H} {h : ai_H} {v1 : Int32} {lv : ai_L} (l1 : ai_ld 1 lv = some (.int v1)) (hh : fX7_readComparison_100 n h v1 = some q) : bi_go 0 tX7_readComparison n (fI n q) 100 lv [] h := by
  unfold fX7_readComparison_100 at hh
  refine go_il (pc := 100) rfl l1 ?_
  refine go_pi (pc := 101) rfl ?_
  refine bi_ite hh (fun hc hh => ?_) (fun hc hh => ?_)
  · refine go_cmpneT (pc := 103) rfl hc ?_
    refine go_pi (pc := 111) rfl ?_
    exact go_ri (pc := 113) rfl hh
  · refine go_cmpneF (pc := 103) rfl hc ?_
    refine go_pi (pc := 106) rfl ?_
    refine go_goto (pc := 108) rfl ?_
    exact go_ri (pc := 113) rfl hh
def fX7_readComparison_44 (n : Nat) (h : ai_H) (v0 : Nat) (v1 : Int32) (s0 : Int32) : Option (Int32 × ai_H) :=
  if ¬ s0 = (61 : Int32) then (
    if ¬ v1 = (60 : Int32) then (
      fX7_readComparison_100 n h v1)
    else (
      if ¬ s0 = (62 : Int32) then (
        fX7_readComparison_100 n h v1)
      else (
        (pI n h v0 7 3).bind fun x1 =>
        (sF n h v0 7 3 (.int) (.int (x1 + (1 : Int32)))).bind fun h2 =>
        some ((30 : Int32), h2))))
  else (
    (pI n h v0 7 3).bind fun x3 =>
    (sF n h v0 7 3 (.int) (.int (x3 + (1 : Int32)))).bind fun h4 =>
    if ¬ v1 = (60 : Int32) then (
      some ((31 : Int32), h4))
    else (
      some ((28 : Int32), h4)))
theorem sX7_readComparison_44 {n : Nat} {q : Int32 × ai_H} {h : ai_H} {v0 : Nat} {v1 : Int32} {s0 : Int32} {lv : ai_L} (l0 : ai_ld 0 lv = some (.ref v0)) (l1 : ai_ld 1 lv = some (.int v1)) (hh : fX7_readComparison_44 n h v0 v1 s0 = some q) : bi_go 0 tX7_readComparison n (fI n q) 44 lv [.int s0] h := by
  unfold fX7_readComparison_44 at hh
  refine go_is (pc := 44) rfl ?_
  refine go_il (pc := 45) rfl bi_e1 ?_
  refine go_pi (pc := 46) rfl ?_
  refine bi_ite hh (fun hc hh => ?_) (fun hc hh => ?_)
  · refine go_cmpneT (pc := 48) rfl hc ?_
    refine go_il (pc := 75) rfl (bi_k1 l1 rfl rfl) ?_
    refine go_pi (pc := 76) rfl ?_
    refine bi_ite hh (fun hc hh => ?_) (fun hc hh => ?_)
    · refine go_cmpneT (pc := 78) rfl hc ?_
      exact sX7_readComparison_100  (bi_k1 l1 rfl rfl) hh
    · refine go_cmpneF (pc := 78) rfl hc ?_
      refine go_il (pc := 81) rfl bi_e1 ?_
      refine go_pi (pc := 82) rfl ?_
      refine bi_ite hh (fun hc hh => ?_) (fun hc hh => ?_)
      · refine go_cmpneT (pc := 84) rfl hc ?_
        exact sX7_readComparison_100  (bi_k1 l1 rfl rfl) hh
      · refine go_cmpneF (pc := 84) rfl hc ?_
        refine go_al (pc := 87) rfl (bi_k1 l0 rfl rfl) ?_
        refine go_dup (pc := 88) rfl rfl ?_
        obtain ⟨x1, ex1, hh⟩ := bi_bd hh
        refine go_gfI (pc := 89) rfl ex1 ?_
        refine go_pi (pc := 92) rfl ?_
        refine go_iadd (pc := 93) rfl ?_
        obtain ⟨h2, eh2, hh⟩ := bi_bd hh
        refine go_pf (pc := 94) rfl eh2 ?_
        refine go_pi (pc := 97) rfl ?_
        exact go_ri (pc := 99) rfl hh
  · refine go_cmpneF (pc := 48) rfl hc ?_
    refine go_al (pc := 51) rfl (bi_k1 l0 rfl rfl) ?_
    refine go_dup (pc := 52) rfl rfl ?_
    obtain ⟨x3, ex3, hh⟩ := bi_bd hh
    refine go_gfI (pc := 53) rfl ex3 ?_
    refine go_pi (pc := 56) rfl ?_
    refine go_iadd (pc := 57) rfl ?_
    obtain ⟨h4, eh4, hh⟩ := bi_bd hh
    refine go_pf (pc := 58) rfl eh4 ?_
    refine go_il (pc := 61) rfl (bi_k1 l1 rfl rfl) ?_
    refine go_pi (pc := 62) rfl ?_
    refine bi_ite hh (fun hc hh => ?_) (fun hc hh => ?_)
    · refine go_cmpneT (pc := 64) rfl hc ?_
      refine go_pi (pc := 72) rfl ?_
      exact go_ri (pc := 74) rfl hh
    · refine go_cmpneF (pc := 64) rfl hc ?_
      refine go_pi (pc := 67) rfl ?_
      refine go_goto (pc := 69) rfl ?_
      exact go_ri (pc := 74) rfl hh
def fX7_readComparison (n : Nat) (h : ai_H) (a0 : Nat) : Option (Int32 × ai_H) :=
  (kO n h a0 7).bind fun _ =>
  (pR n h a0 7 1).bind fun x1 =>
  (pI n h a0 7 3).bind fun x2 =>
  (gB n h x1 x2).bind fun x3 =>
  (pI n h a0 7 3).bind fun x4 =>
  (sF n h a0 7 3 (.int) (.int (x4 + (1 : Int32)))).bind fun h5 =>
  (pI n h5 a0 7 3).bind fun x6 =>
  (pI n h5 a0 7 2).bind fun x7 =>
  if x7 ≤ x6 then (
    fX7_readComparison_44 n h5 a0 x3 (0 : Int32))
  else (
    (pR n h5 a0 7 1).bind fun x8 =>
    (pI n h5 a0 7 3).bind fun x9 =>
    (gB n h5 x8 x9).bind fun x10 =>
    fX7_readComparison_44 n h5 a0 x3 x10)
theorem gX7_readComparison {n : Nat} {h : ai_H} {a0 : Nat} {q : Int32 × ai_H} (hh : fX7_readComparison n h a0 = some q) : kO n h a0 7 = some () := by
  obtain ⟨_, e, -⟩ := bi_bd hh
  exact e
theorem sX7_readComparison {n : Nat} {h : ai_H} {a0 : Nat} {q : Int32 × ai_H} (hh : fX7_readComparison n h a0 = some q) : bi_sp 1 67 [.ref a0] h n (fI n q) := by
  refine bi_en (D := 0) (T := tX7_readComparison) (funext fun pc => rfl) rfl (Nat.le_of_ble_eq_true rfl) ?_
  unfold fX7_readComparison at hh
  obtain ⟨_, eO, hh⟩ := bi_bd hh
  refine go_al (pc := 0) rfl (rfl : ai_ld 0 (lv_args 0 [.ref a0]) = some (.ref a0)) ?_
  obtain ⟨x1, ex1, hh⟩ := bi_bd hh
  refine go_gfR (pc := 1) rfl ex1 ?_
  refine go_al (pc := 4) rfl (rfl : ai_ld 0 (lv_args 0 [.ref a0]) = some (.ref a0)) ?_
  obtain ⟨x2, ex2, hh⟩ := bi_bd hh
  refine go_gfI (pc := 5) rfl ex2 ?_
  obtain ⟨x3, ex3, hh⟩ := bi_bd hh
  refine go_bald (pc := 8) rfl ex3 ?_
  refine go_is (pc := 9) rfl ?_
  refine go_al (pc := 10) rfl (bi_k1 (rfl : ai_ld 0 (lv_args 0 [.ref a0]) = some (.ref a0)) rfl rfl) ?_
  refine go_dup (pc := 11) rfl rfl ?_
  obtain ⟨x4, ex4, hh⟩ := bi_bd hh
  refine go_gfI (pc := 12) rfl ex4 ?_
  refine go_pi (pc := 15) rfl ?_
  refine go_iadd (pc := 16) rfl ?_
  obtain ⟨h5, eh5, hh⟩ := bi_bd hh
  refine go_pf (pc := 17) rfl eh5 ?_
  refine go_al (pc := 20) rfl (bi_k1 (rfl : ai_ld 0 (lv_args 0 [.ref a0]) = some (.ref a0)) rfl rfl) ?_
  obtain ⟨x6, ex6, hh⟩ := bi_bd hh
  refine go_gfI (pc := 21) rfl ex6 ?_
  refine go_al (pc := 24) rfl (bi_k1 (rfl : ai_ld 0 (lv_args 0 [.ref a0]) = some (.ref a0)) rfl rfl) ?_
  obtain ⟨x7, ex7, hh⟩ := bi_bd hh
  refine go_gfI (pc := 25) rfl ex7 ?_
  refine bi_ite hh (fun hc hh => ?_) (fun hc hh => ?_)
  · refine go_cmpgeT (pc := 28) rfl hc ?_
    refine go_pi (pc := 43) rfl ?_
    exact sX7_readComparison_44  (bi_k1 (rfl : ai_ld 0 (lv_args 0 [.ref a0]) = some (.ref a0)) rfl rfl) bi_e1 hh
  · refine go_cmpgeF (pc := 28) rfl hc ?_
    refine go_al (pc := 31) rfl (bi_k1 (rfl : ai_ld 0 (lv_args 0 [.ref a0]) = some (.ref a0)) rfl rfl) ?_
    obtain ⟨x8, ex8, hh⟩ := bi_bd hh
    refine go_gfR (pc := 32) rfl ex8 ?_
    refine go_al (pc := 35) rfl (bi_k1 (rfl : ai_ld 0 (lv_args 0 [.ref a0]) = some (.ref a0)) rfl rfl) ?_
    obtain ⟨x9, ex9, hh⟩ := bi_bd hh
    refine go_gfI (pc := 36) rfl ex9 ?_
    obtain ⟨x10, ex10, hh⟩ := bi_bd hh
    refine go_bald (pc := 39) rfl ex10 ?_
    refine go_goto (pc := 40) rfl ?_
    exact sX7_readComparison_44  (bi_k1 (rfl : ai_ld 0 (lv_args 0 [.ref a0]) = some (.ref a0)) rfl rfl) bi_e1 hh
def fX7_readSign (n : Nat) (h : ai_H) (a0 : Nat) : Option (Int32 × ai_H) :=
  (kO n h a0 7).bind fun _ =>
  (pR n h a0 7 1).bind fun x1 =>
  (pI n h a0 7 3).bind fun x2 =>
  (gB n h x1 x2).bind fun x3 =>
  (pI n h a0 7 3).bind fun x4 =>
  (sF n h a0 7 3 (.int) (.int (x4 + (1 : Int32)))).bind fun h5 =>
  if x3 = 40 then (
    some ((25 : Int32), h5))
  else (
    if x3 = 41 then (
      some ((26 : Int32), h5))
    else (
      if x3 = 42 then (
        some ((35 : Int32), h5))
      else (
        if x3 = 43 then (
          some ((33 : Int32), h5))
        else (
          if x3 = 45 then (
            some ((34 : Int32), h5))
          else (
            if x3 = 47 then (
              some ((36 : Int32), h5))
            else (
              if x3 = 59 then (
                some ((24 : Int32), h5))
              else (
                if x3 = 61 then (
                  some ((29 : Int32), h5))
                else (
                  some ((38 : Int32), h5)))))))))
theorem gX7_readSign {n : Nat} {h : ai_H} {a0 : Nat} {q : Int32 × ai_H} (hh : fX7_readSign n h a0 = some q) : kO n h a0 7 = some () := by
  obtain ⟨_, e, -⟩ := bi_bd hh
  exact e
theorem sX7_readSign {n : Nat} {h : ai_H} {a0 : Nat} {q : Int32 × ai_H} (hh : fX7_readSign n h a0 = some q) : bi_sp 1 66 [.ref a0] h n (fI n q) := by
  refine bi_en (D := 0) (T := tX7_readSign) (funext fun pc => rfl) rfl (Nat.le_of_ble_eq_true rfl) ?_
  unfold fX7_readSign at hh
  obtain ⟨_, eO, hh⟩ := bi_bd hh
  refine go_al (pc := 0) rfl (rfl : ai_ld 0 (lv_args 0 [.ref a0]) = some (.ref a0)) ?_
  obtain ⟨x1, ex1, hh⟩ := bi_bd hh
  refine go_gfR (pc := 1) rfl ex1 ?_
  refine go_al (pc := 4) rfl (rfl : ai_ld 0 (lv_args 0 [.ref a0]) = some (.ref a0)) ?_
  obtain ⟨x2, ex2, hh⟩ := bi_bd hh
  refine go_gfI (pc := 5) rfl ex2 ?_
  obtain ⟨x3, ex3, hh⟩ := bi_bd hh
  refine go_bald (pc := 8) rfl ex3 ?_
  refine go_is (pc := 9) rfl ?_
  refine go_al (pc := 10) rfl (bi_k1 (rfl : ai_ld 0 (lv_args 0 [.ref a0]) = some (.ref a0)) rfl rfl) ?_
  refine go_dup (pc := 11) rfl rfl ?_
  obtain ⟨x4, ex4, hh⟩ := bi_bd hh
  refine go_gfI (pc := 12) rfl ex4 ?_
  refine go_pi (pc := 15) rfl ?_
  refine go_iadd (pc := 16) rfl ?_
  obtain ⟨h5, eh5, hh⟩ := bi_bd hh
  refine go_pf (pc := 17) rfl eh5 ?_
  refine go_il (pc := 20) rfl bi_e1 ?_
  refine bi_ite hh (fun hc0 hh => ?_) (fun hc0 hh => ?_)
  · refine go_swc (t := 127) 40 (pc := 21) rfl hc0 (by decide) ?_
    refine go_pi (pc := 127) rfl ?_
    exact go_ri (pc := 129) rfl hh
  · skip
    refine bi_ite hh (fun hc1 hh => ?_) (fun hc1 hh => ?_)
    · refine go_swc (t := 130) 41 (pc := 21) rfl hc1 (by decide) ?_
      refine go_pi (pc := 130) rfl ?_
      exact go_ri (pc := 132) rfl hh
    · skip
      refine bi_ite hh (fun hc2 hh => ?_) (fun hc2 hh => ?_)
      · refine go_swc (t := 142) 42 (pc := 21) rfl hc2 (by decide) ?_
        refine go_pi (pc := 142) rfl ?_
        exact go_ri (pc := 144) rfl hh
      · skip
        refine bi_ite hh (fun hc3 hh => ?_) (fun hc3 hh => ?_)
        · refine go_swc (t := 136) 43 (pc := 21) rfl hc3 (by decide) ?_
          refine go_pi (pc := 136) rfl ?_
          exact go_ri (pc := 138) rfl hh
        · skip
          refine bi_ite hh (fun hc5 hh => ?_) (fun hc5 hh => ?_)
          · refine go_swc (t := 139) 45 (pc := 21) rfl hc5 (by decide) ?_
            refine go_pi (pc := 139) rfl ?_
            exact go_ri (pc := 141) rfl hh
          · skip
            refine bi_ite hh (fun hc7 hh => ?_) (fun hc7 hh => ?_)
            · refine go_swc (t := 145) 47 (pc := 21) rfl hc7 (by decide) ?_
              refine go_pi (pc := 145) rfl ?_
              exact go_ri (pc := 147) rfl hh
            · skip
              refine bi_ite hh (fun hc19 hh => ?_) (fun hc19 hh => ?_)
              · refine go_swc (t := 124) 59 (pc := 21) rfl hc19 (by decide) ?_
                refine go_pi (pc := 124) rfl ?_
                exact go_ri (pc := 126) rfl hh
              · skip
                refine bi_ite hh (fun hc21 hh => ?_) (fun hc21 hh => ?_)
                · refine go_swc (t := 133) 61 (pc := 21) rfl hc21 (by decide) ?_
                  refine go_pi (pc := 133) rfl ?_
                  exact go_ri (pc := 135) rfl hh
                · skip
                  refine go_swd (pc := 21) rfl (fun i hi => match i, hi with | 0, _ => Or.inr (lv_neT hc0 (by decide)) | 1, _ => Or.inr (lv_neT hc1 (by decide)) | 2, _ => Or.inr (lv_neT hc2 (by decide)) | 3, _ => Or.inr (lv_neT hc3 (by decide)) | 4, _ => Or.inl rfl | 5, _ => Or.inr (lv_neT hc5 (by decide)) | 6, _ => Or.inl rfl | 7, _ => Or.inr (lv_neT hc7 (by decide)) | 8, _ => Or.inl rfl | 9, _ => Or.inl rfl | 10, _ => Or.inl rfl | 11, _ => Or.inl rfl | 12, _ => Or.inl rfl | 13, _ => Or.inl rfl | 14, _ => Or.inl rfl | 15, _ => Or.inl rfl | 16, _ => Or.inl rfl | 17, _ => Or.inl rfl | 18, _ => Or.inl rfl | 19, _ => Or.inr (lv_neT hc19 (by decide)) | 20, _ => Or.inl rfl | 21, _ => Or.inr (lv_neT hc21 (by decide)) | i + 22, hi => absurd hi (Nat.not_lt.mpr (Nat.le_add_left _ _))) ?_
                  refine go_pi (pc := 148) rfl ?_
                  exact go_ri (pc := 150) rfl hh
def fX7_advance_39 (n : Nat) (r0 : ai_H → Nat → Option (Unit × ai_H)) (h : ai_H) (v0 : Nat) : Option (Unit × ai_H) :=
  (pI n h v0 7 3).bind fun x1 =>
  (sF n h v0 7 3 (.int) (.int (x1 + (1 : Int32)))).bind fun h2 =>
  r0 h2 v0
theorem sX7_advance_39 {n : Nat} {r0 : ai_H → Nat → Option (Unit × ai_H)} {q : Unit × ai_H} {h : ai_H} {v0 : Nat} {lv : ai_L} (R0 : ∀ (h : ai_H) (v0 : Nat) (lv : ai_L), ai_ld 0 lv = some (.ref v0) → r0 h v0 = some q → bi_go 1 tX7_advance n (fV n q) 0 lv [] h) (l0 : ai_ld 0 lv = some (.ref v0)) (hh : fX7_advance_39 n r0 h v0 = some q) : bi_go 1 tX7_advance n (fV n q) 39 lv [] h := by
  unfold fX7_advance_39 at hh
  refine go_al (pc := 39) rfl l0 ?_
  refine go_dup (pc := 40) rfl rfl ?_
  obtain ⟨x1, ex1, hh⟩ := bi_bd hh
  refine go_gfI (pc := 41) rfl ex1 ?_
  refine go_pi (pc := 44) rfl ?_
  refine go_iadd (pc := 45) rfl ?_
  obtain ⟨h2, eh2, hh⟩ := bi_bd hh
  refine go_pf (pc := 46) rfl eh2 ?_
  refine go_goto (pc := 49) rfl ?_
  exact R0 _ _ _ l0 hh
def fX7_advance_183 (n : Nat) (h : ai_H) (v0 : Nat) : Option (Unit × ai_H) :=
  (fX7_readComparison n h v0).bind fun q1 =>
  (sF n q1.2 v0 7 4 (.int) (.int q1.1)).bind fun h2 =>
  some ((), h2)
theorem sX7_advance_183 {n : Nat} {q : Unit × ai_H} {h : ai_H} {v0 : Nat} {lv : ai_L} (l0 : ai_ld 0 lv = some (.ref v0)) (hh : fX7_advance_183 n h v0 = some q) : bi_go 1 tX7_advance n (fV n q) 183 lv [] h := by
  unfold fX7_advance_183 at hh
  refine go_al (pc := 183) rfl l0 ?_
  refine go_al (pc := 184) rfl l0 ?_
  obtain ⟨q1, eq1, hh⟩ := bi_bd hh
  refine go_ivI (pc := 185) rfl rfl (gX7_readComparison eq1) (Nat.le_of_ble_eq_true rfl) (bi_up (sX7_readComparison eq1) (Nat.le_of_ble_eq_true rfl)) ?_
  obtain ⟨h2, eh2, hh⟩ := bi_bd hh
  refine go_pf (pc := 188) rfl eh2 ?_
  refine go_goto (pc := 191) rfl ?_
  exact go_rv (pc := 202) rfl hh
def fX7_advance_155 (n : Nat) (h : ai_H) (v0 : Nat) : Option (Unit × ai_H) :=
  (pR n h v0 7 1).bind fun x1 =>
  (pI n h v0 7 3).bind fun x2 =>
  (gB n h x1 x2).bind fun x3 =>
  if x3 = (60 : Int32) then (
    fX7_advance_183 n h v0)
  else (
    (pR n h v0 7 1).bind fun x4 =>
    (pI n h v0 7 3).bind fun x5 =>
    (gB n h x4 x5).bind fun x6 =>
    if ¬ x6 = (62 : Int32) then (
      (fX7_readSign n h v0).bind fun q7 =>
      (sF n q7.2 v0 7 4 (.int) (.int q7.1)).bind fun h8 =>
      some ((), h8))
    else (
      fX7_advance_183 n h v0))
theorem sX7_advance_155 {n : Nat} {q : Unit × ai_H} {h : ai_H} {v0 : Nat} {lv : ai_L} (l0 : ai_ld 0 lv = some (.ref v0)) (hh : fX7_advance_155 n h v0 = some q) : bi_go 1 tX7_advance n (fV n q) 155 lv [] h := by
  unfold fX7_advance_155 at hh
  refine go_al (pc := 155) rfl l0 ?_
  obtain ⟨x1, ex1, hh⟩ := bi_bd hh
  refine go_gfR (pc := 156) rfl ex1 ?_
  refine go_al (pc := 159) rfl l0 ?_
  obtain ⟨x2, ex2, hh⟩ := bi_bd hh
  refine go_gfI (pc := 160) rfl ex2 ?_
  obtain ⟨x3, ex3, hh⟩ := bi_bd hh
  refine go_bald (pc := 163) rfl ex3 ?_
  refine go_pi (pc := 164) rfl ?_
  refine bi_ite hh (fun hc hh => ?_) (fun hc hh => ?_)
  · refine go_cmpeqT (pc := 166) rfl hc ?_
    exact sX7_advance_183  l0 hh
  · refine go_cmpeqF (pc := 166) rfl hc ?_
    refine go_al (pc := 169) rfl l0 ?_
    obtain ⟨x4, ex4, hh⟩ := bi_bd hh
    refine go_gfR (pc := 170) rfl ex4 ?_
    refine go_al (pc := 173) rfl l0 ?_
    obtain ⟨x5, ex5, hh⟩ := bi_bd hh
    refine go_gfI (pc := 174) rfl ex5 ?_
    obtain ⟨x6, ex6, hh⟩ := bi_bd hh
    refine go_bald (pc := 177) rfl ex6 ?_
    refine go_pi (pc := 178) rfl ?_
    refine bi_ite hh (fun hc hh => ?_) (fun hc hh => ?_)
    · refine go_cmpneT (pc := 180) rfl hc ?_
      refine go_al (pc := 194) rfl l0 ?_
      refine go_al (pc := 195) rfl l0 ?_
      obtain ⟨q7, eq7, hh⟩ := bi_bd hh
      refine go_ivI (pc := 196) rfl rfl (gX7_readSign eq7) (Nat.le_of_ble_eq_true rfl) (bi_up (sX7_readSign eq7) (Nat.le_of_ble_eq_true rfl)) ?_
      obtain ⟨h8, eh8, hh⟩ := bi_bd hh
      refine go_pf (pc := 199) rfl eh8 ?_
      exact go_rv (pc := 202) rfl hh
    · refine go_cmpneF (pc := 180) rfl hc ?_
      exact sX7_advance_183  l0 hh
def fX7_advance_120 (n : Nat) (h : ai_H) (v0 : Nat) : Option (Unit × ai_H) :=
  (pR n h v0 7 1).bind fun x1 =>
  (pI n h v0 7 3).bind fun x2 =>
  (gB n h x1 x2).bind fun x3 =>
  if x3 < (48 : Int32) then (
    fX7_advance_155 n h v0)
  else (
    (pR n h v0 7 1).bind fun x4 =>
    (pI n h v0 7 3).bind fun x5 =>
    (gB n h x4 x5).bind fun x6 =>
    if (57 : Int32) < x6 then (
      fX7_advance_155 n h v0)
    else (
      (fX7_readDigits n h v0).bind fun q7 =>
      some ((), q7.2)))
theorem sX7_advance_120 {n : Nat} {q : Unit × ai_H} {h : ai_H} {v0 : Nat} {lv : ai_L} (l0 : ai_ld 0 lv = some (.ref v0)) (hh : fX7_advance_120 n h v0 = some q) : bi_go 1 tX7_advance n (fV n q) 120 lv [] h := by
  unfold fX7_advance_120 at hh
  refine go_al (pc := 120) rfl l0 ?_
  obtain ⟨x1, ex1, hh⟩ := bi_bd hh
  refine go_gfR (pc := 121) rfl ex1 ?_
  refine go_al (pc := 124) rfl l0 ?_
  obtain ⟨x2, ex2, hh⟩ := bi_bd hh
  refine go_gfI (pc := 125) rfl ex2 ?_
  obtain ⟨x3, ex3, hh⟩ := bi_bd hh
  refine go_bald (pc := 128) rfl ex3 ?_
  refine go_pi (pc := 129) rfl ?_
  refine bi_ite hh (fun hc hh => ?_) (fun hc hh => ?_)
  · refine go_cmpltT (pc := 131) rfl hc ?_
    exact sX7_advance_155  l0 hh
  · refine go_cmpltF (pc := 131) rfl hc ?_
    refine go_al (pc := 134) rfl l0 ?_
    obtain ⟨x4, ex4, hh⟩ := bi_bd hh
    refine go_gfR (pc := 135) rfl ex4 ?_
    refine go_al (pc := 138) rfl l0 ?_
    obtain ⟨x5, ex5, hh⟩ := bi_bd hh
    refine go_gfI (pc := 139) rfl ex5 ?_
    obtain ⟨x6, ex6, hh⟩ := bi_bd hh
    refine go_bald (pc := 142) rfl ex6 ?_
    refine go_pi (pc := 143) rfl ?_
    refine bi_ite hh (fun hc hh => ?_) (fun hc hh => ?_)
    · refine go_cmpgtT (pc := 145) rfl hc ?_
      exact sX7_advance_155  l0 hh
    · refine go_cmpgtF (pc := 145) rfl hc ?_
      refine go_al (pc := 148) rfl l0 ?_
      obtain ⟨q7, eq7, hh⟩ := bi_bd hh
      refine go_ivV (pc := 149) rfl rfl (gX7_readDigits eq7) (Nat.le_of_ble_eq_true rfl) (bi_up (sX7_readDigits eq7) (Nat.le_of_ble_eq_true rfl)) ?_
      refine go_goto (pc := 152) rfl ?_
      exact go_rv (pc := 202) rfl hh
def fX7_advance_52 (n : Nat) (h : ai_H) (v0 : Nat) : Option (Unit × ai_H) :=
  (pI n h v0 7 3).bind fun x1 =>
  (sF n h v0 7 5 (.int) (.int x1)).bind fun h2 =>
  (sF n h2 v0 7 6 (.int) (.int (0 : Int32))).bind fun h3 =>
  (pI n h3 v0 7 3).bind fun x4 =>
  (pI n h3 v0 7 2).bind fun x5 =>
  if x4 < x5 then (
    (pR n h3 v0 7 1).bind fun x6 =>
    (pI n h3 v0 7 3).bind fun x7 =>
    (gB n h3 x6 x7).bind fun x8 =>
    if x8 < (97 : Int32) then (
      fX7_advance_120 n h3 v0)
    else (
      (pR n h3 v0 7 1).bind fun x9 =>
      (pI n h3 v0 7 3).bind fun x10 =>
      (gB n h3 x9 x10).bind fun x11 =>
      if (122 : Int32) < x11 then (
        fX7_advance_120 n h3 v0)
      else (
        (fX7_readWord n h3 v0).bind fun q12 =>
        some ((), q12.2))))
  else (
    (sF n h3 v0 7 4 (.int) (.int (37 : Int32))).bind fun h13 =>
    some ((), h13))
theorem sX7_advance_52 {n : Nat} {q : Unit × ai_H} {h : ai_H} {v0 : Nat} {lv : ai_L} (l0 : ai_ld 0 lv = some (.ref v0)) (hh : fX7_advance_52 n h v0 = some q) : bi_go 1 tX7_advance n (fV n q) 52 lv [] h := by
  unfold fX7_advance_52 at hh
  refine go_al (pc := 52) rfl l0 ?_
  refine go_al (pc := 53) rfl l0 ?_
  obtain ⟨x1, ex1, hh⟩ := bi_bd hh
  refine go_gfI (pc := 54) rfl ex1 ?_
  obtain ⟨h2, eh2, hh⟩ := bi_bd hh
  refine go_pf (pc := 57) rfl eh2 ?_
  refine go_al (pc := 60) rfl l0 ?_
  refine go_pi (pc := 61) rfl ?_
  obtain ⟨h3, eh3, hh⟩ := bi_bd hh
  refine go_pf (pc := 62) rfl eh3 ?_
  refine go_al (pc := 65) rfl l0 ?_
  obtain ⟨x4, ex4, hh⟩ := bi_bd hh
  refine go_gfI (pc := 66) rfl ex4 ?_
  refine go_al (pc := 69) rfl l0 ?_
  obtain ⟨x5, ex5, hh⟩ := bi_bd hh
  refine go_gfI (pc := 70) rfl ex5 ?_
  refine bi_ite hh (fun hc hh => ?_) (fun hc hh => ?_)
  · refine go_cmpltT (pc := 73) rfl hc ?_
    refine go_al (pc := 85) rfl l0 ?_
    obtain ⟨x6, ex6, hh⟩ := bi_bd hh
    refine go_gfR (pc := 86) rfl ex6 ?_
    refine go_al (pc := 89) rfl l0 ?_
    obtain ⟨x7, ex7, hh⟩ := bi_bd hh
    refine go_gfI (pc := 90) rfl ex7 ?_
    obtain ⟨x8, ex8, hh⟩ := bi_bd hh
    refine go_bald (pc := 93) rfl ex8 ?_
    refine go_pi (pc := 94) rfl ?_
    refine bi_ite hh (fun hc hh => ?_) (fun hc hh => ?_)
    · refine go_cmpltT (pc := 96) rfl hc ?_
      exact sX7_advance_120  l0 hh
    · refine go_cmpltF (pc := 96) rfl hc ?_
      refine go_al (pc := 99) rfl l0 ?_
      obtain ⟨x9, ex9, hh⟩ := bi_bd hh
      refine go_gfR (pc := 100) rfl ex9 ?_
      refine go_al (pc := 103) rfl l0 ?_
      obtain ⟨x10, ex10, hh⟩ := bi_bd hh
      refine go_gfI (pc := 104) rfl ex10 ?_
      obtain ⟨x11, ex11, hh⟩ := bi_bd hh
      refine go_bald (pc := 107) rfl ex11 ?_
      refine go_pi (pc := 108) rfl ?_
      refine bi_ite hh (fun hc hh => ?_) (fun hc hh => ?_)
      · refine go_cmpgtT (pc := 110) rfl hc ?_
        exact sX7_advance_120  l0 hh
      · refine go_cmpgtF (pc := 110) rfl hc ?_
        refine go_al (pc := 113) rfl l0 ?_
        obtain ⟨q12, eq12, hh⟩ := bi_bd hh
        refine go_ivV (pc := 114) rfl rfl (gX7_readWord eq12) (Nat.le_of_ble_eq_true rfl) (bi_up (sX7_readWord eq12) (Nat.le_of_ble_eq_true rfl)) ?_
        refine go_goto (pc := 117) rfl ?_
        exact go_rv (pc := 202) rfl hh
  · refine go_cmpltF (pc := 73) rfl hc ?_
    refine go_al (pc := 76) rfl l0 ?_
    refine go_pi (pc := 77) rfl ?_
    obtain ⟨h13, eh13, hh⟩ := bi_bd hh
    refine go_pf (pc := 79) rfl eh13 ?_
    refine go_goto (pc := 82) rfl ?_
    exact go_rv (pc := 202) rfl hh
def fX7_advance_0b (n : Nat) (r0 : ai_H → Nat → Option (Unit × ai_H)) (h : ai_H) (v0 : Nat) : Option (Unit × ai_H) :=
  (pI n h v0 7 3).bind fun x1 =>
  (pI n h v0 7 2).bind fun x2 =>
  if x2 ≤ x1 then (
    fX7_advance_52 n h v0)
  else (
    (pR n h v0 7 1).bind fun x3 =>
    (pI n h v0 7 3).bind fun x4 =>
    (gB n h x3 x4).bind fun x5 =>
    if x5 = (32 : Int32) then (
      fX7_advance_39 n r0 h v0)
    else (
      (pR n h v0 7 1).bind fun x6 =>
      (pI n h v0 7 3).bind fun x7 =>
      (gB n h x6 x7).bind fun x8 =>
      if ¬ x8 = (10 : Int32) then (
        fX7_advance_52 n h v0)
      else (
        fX7_advance_39 n r0 h v0)))
theorem sX7_advance_0b {n : Nat} {r0 : ai_H → Nat → Option (Unit × ai_H)} {q : Unit × ai_H} {h : ai_H} {v0 : Nat} {lv : ai_L} (R0 : ∀ (h : ai_H) (v0 : Nat) (lv : ai_L), ai_ld 0 lv = some (.ref v0) → r0 h v0 = some q → bi_go 1 tX7_advance n (fV n q) 0 lv [] h) (l0 : ai_ld 0 lv = some (.ref v0)) (hh : fX7_advance_0b n r0 h v0 = some q) : bi_go 1 tX7_advance n (fV n q) 0 lv [] h := by
  unfold fX7_advance_0b at hh
  refine go_al (pc := 0) rfl l0 ?_
  obtain ⟨x1, ex1, hh⟩ := bi_bd hh
  refine go_gfI (pc := 1) rfl ex1 ?_
  refine go_al (pc := 4) rfl l0 ?_
  obtain ⟨x2, ex2, hh⟩ := bi_bd hh
  refine go_gfI (pc := 5) rfl ex2 ?_
  refine bi_ite hh (fun hc hh => ?_) (fun hc hh => ?_)
  · refine go_cmpgeT (pc := 8) rfl hc ?_
    exact sX7_advance_52  l0 hh
  · refine go_cmpgeF (pc := 8) rfl hc ?_
    refine go_al (pc := 11) rfl l0 ?_
    obtain ⟨x3, ex3, hh⟩ := bi_bd hh
    refine go_gfR (pc := 12) rfl ex3 ?_
    refine go_al (pc := 15) rfl l0 ?_
    obtain ⟨x4, ex4, hh⟩ := bi_bd hh
    refine go_gfI (pc := 16) rfl ex4 ?_
    obtain ⟨x5, ex5, hh⟩ := bi_bd hh
    refine go_bald (pc := 19) rfl ex5 ?_
    refine go_pi (pc := 20) rfl ?_
    refine bi_ite hh (fun hc hh => ?_) (fun hc hh => ?_)
    · refine go_cmpeqT (pc := 22) rfl hc ?_
      exact sX7_advance_39 R0 l0 hh
    · refine go_cmpeqF (pc := 22) rfl hc ?_
      refine go_al (pc := 25) rfl l0 ?_
      obtain ⟨x6, ex6, hh⟩ := bi_bd hh
      refine go_gfR (pc := 26) rfl ex6 ?_
      refine go_al (pc := 29) rfl l0 ?_
      obtain ⟨x7, ex7, hh⟩ := bi_bd hh
      refine go_gfI (pc := 30) rfl ex7 ?_
      obtain ⟨x8, ex8, hh⟩ := bi_bd hh
      refine go_bald (pc := 33) rfl ex8 ?_
      refine go_pi (pc := 34) rfl ?_
      refine bi_ite hh (fun hc hh => ?_) (fun hc hh => ?_)
      · refine go_cmpneT (pc := 36) rfl hc ?_
        exact sX7_advance_52  l0 hh
      · refine go_cmpneF (pc := 36) rfl hc ?_
        exact sX7_advance_39 R0 l0 hh
def fX7_advance_0 (n : Nat) : Nat → ai_H → Nat → Option (Unit × ai_H)
  | 0 => fun _ _ => none
  | k + 1 => fun h v0 => fX7_advance_0b n (fX7_advance_0 n k) h v0
theorem sX7_advance_0 {n : Nat} {q : Unit × ai_H} : ∀ (k : Nat) (h : ai_H) (v0 : Nat) (lv : ai_L), ai_ld 0 lv = some (.ref v0) → fX7_advance_0 n k h v0 = some q → bi_go 1 tX7_advance n (fV n q) 0 lv [] h
  | 0 => fun _ _ _ _ hh => by cases hh
  | k + 1 => fun h v0 lv l0 hh => sX7_advance_0b  (sX7_advance_0  k) l0 hh
def fX7_advance (n : Nat) (h : ai_H) (a0 : Nat) : Option (Unit × ai_H) :=
  (kO n h a0 7).bind fun _ =>
  fX7_advance_0 n bi_K h a0
theorem gX7_advance {n : Nat} {h : ai_H} {a0 : Nat} {q : Unit × ai_H} (hh : fX7_advance n h a0 = some q) : kO n h a0 7 = some () := by
  obtain ⟨_, e, -⟩ := bi_bd hh
  exact e
theorem sX7_advance {n : Nat} {h : ai_H} {a0 : Nat} {q : Unit × ai_H} (hh : fX7_advance n h a0 = some q) : bi_sp 2 62 [.ref a0] h n (fV n q) := by
  refine bi_en (D := 1) (T := tX7_advance) (funext fun pc => rfl) rfl (Nat.le_of_ble_eq_true rfl) ?_
  unfold fX7_advance at hh
  obtain ⟨_, eO, hh⟩ := bi_bd hh
  exact sX7_advance_0  _ _ _ _ (rfl : ai_ld 0 (lv_args 0 [.ref a0]) = some (.ref a0)) hh
def fX7_begin (n : Nat) (h : ai_H) (a0 : Nat) (a1 : Nat) (a2 : Int32) : Option (Unit × ai_H) :=
  (kO n h a0 7).bind fun _ =>
  (sF n h a0 7 1 (.array .byte) (.ref a1)).bind fun h1 =>
  (lA n h1 a1).bind fun x2 =>
  (sF n h1 a0 7 2 (.int) (.int (if x2 < a2 then x2 else a2))).bind fun h3 =>
  (sF n h3 a0 7 3 (.int) (.int (0 : Int32))).bind fun h4 =>
  (fX7_advance n h4 a0).bind fun q5 =>
  some ((), q5.2)
theorem gX7_begin {n : Nat} {h : ai_H} {a0 : Nat} {a1 : Nat} {a2 : Int32} {q : Unit × ai_H} (hh : fX7_begin n h a0 a1 a2 = some q) : kO n h a0 7 = some () := by
  obtain ⟨_, e, -⟩ := bi_bd hh
  exact e
theorem sX7_begin {n : Nat} {h : ai_H} {a0 : Nat} {a1 : Nat} {a2 : Int32} {q : Unit × ai_H} (hh : fX7_begin n h a0 a1 a2 = some q) : bi_sp 3 61 [.ref a0, .ref a1, .int a2] h n (fV n q) := by
  refine bi_en (D := 2) (T := tX7_begin) (funext fun pc => rfl) rfl (Nat.le_of_ble_eq_true rfl) ?_
  unfold fX7_begin at hh
  obtain ⟨_, eO, hh⟩ := bi_bd hh
  refine go_al (pc := 0) rfl (rfl : ai_ld 0 (lv_args 0 [.ref a0, .ref a1, .int a2]) = some (.ref a0)) ?_
  refine go_al (pc := 1) rfl (rfl : ai_ld 1 (lv_args 0 [.ref a0, .ref a1, .int a2]) = some (.ref a1)) ?_
  obtain ⟨h1, eh1, hh⟩ := bi_bd hh
  refine go_pf (pc := 2) rfl eh1 ?_
  refine go_al (pc := 5) rfl (rfl : ai_ld 0 (lv_args 0 [.ref a0, .ref a1, .int a2]) = some (.ref a0)) ?_
  refine go_al (pc := 6) rfl (rfl : ai_ld 1 (lv_args 0 [.ref a0, .ref a1, .int a2]) = some (.ref a1)) ?_
  refine go_nn (pc := 7) rfl ?_
  refine go_il (pc := 14) rfl (rfl : ai_ld 2 (lv_args 0 [.ref a0, .ref a1, .int a2]) = some (.int a2)) ?_
  refine go_al (pc := 15) rfl (rfl : ai_ld 1 (lv_args 0 [.ref a0, .ref a1, .int a2]) = some (.ref a1)) ?_
  obtain ⟨x2, ex2, hh⟩ := bi_bd hh
  refine go_len (pc := 16) rfl ex2 ?_
  refine go_imin (pc := 17) rfl (Nat.le_of_ble_eq_true rfl) ?_
  obtain ⟨h3, eh3, hh⟩ := bi_bd hh
  refine go_pf (pc := 20) rfl eh3 ?_
  refine go_al (pc := 23) rfl (rfl : ai_ld 0 (lv_args 0 [.ref a0, .ref a1, .int a2]) = some (.ref a0)) ?_
  refine go_pi (pc := 24) rfl ?_
  obtain ⟨h4, eh4, hh⟩ := bi_bd hh
  refine go_pf (pc := 25) rfl eh4 ?_
  refine go_al (pc := 28) rfl (rfl : ai_ld 0 (lv_args 0 [.ref a0, .ref a1, .int a2]) = some (.ref a0)) ?_
  obtain ⟨q5, eq5, hh⟩ := bi_bd hh
  refine go_ivV (pc := 29) rfl rfl (gX7_advance eq5) (Nat.le_of_ble_eq_true rfl) (bi_up (sX7_advance eq5) (Nat.le_of_ble_eq_true rfl)) ?_
  exact go_rv (pc := 32) rfl hh
def fX6_isFull (n : Nat) (h : ai_H) (a0 : Nat) : Option (Int32 × ai_H) :=
  (kO n h a0 6).bind fun _ =>
  (pI n h a0 6 4).bind fun x1 =>
  (pI n h a0 6 0).bind fun x2 =>
  if x1 < x2 then (
    some ((0 : Int32), h))
  else (
    some ((1 : Int32), h))
theorem gX6_isFull {n : Nat} {h : ai_H} {a0 : Nat} {q : Int32 × ai_H} (hh : fX6_isFull n h a0 = some q) : kO n h a0 6 = some () := by
  obtain ⟨_, e, -⟩ := bi_bd hh
  exact e
theorem sX6_isFull {n : Nat} {h : ai_H} {a0 : Nat} {q : Int32 × ai_H} (hh : fX6_isFull n h a0 = some q) : bi_sp 1 53 [.ref a0] h n (fI n q) := by
  refine bi_en (D := 0) (T := tX6_isFull) (funext fun pc => rfl) rfl (Nat.le_of_ble_eq_true rfl) ?_
  unfold fX6_isFull at hh
  obtain ⟨_, eO, hh⟩ := bi_bd hh
  refine go_al (pc := 0) rfl (rfl : ai_ld 0 (lv_args 0 [.ref a0]) = some (.ref a0)) ?_
  obtain ⟨x1, ex1, hh⟩ := bi_bd hh
  refine go_gfI (pc := 1) rfl ex1 ?_
  refine go_al (pc := 4) rfl (rfl : ai_ld 0 (lv_args 0 [.ref a0]) = some (.ref a0)) ?_
  obtain ⟨x2, ex2, hh⟩ := bi_bd hh
  refine go_gfI (pc := 5) rfl ex2 ?_
  refine bi_ite hh (fun hc hh => ?_) (fun hc hh => ?_)
  · refine go_cmpltT (pc := 8) rfl hc ?_
    refine go_pi (pc := 15) rfl ?_
    exact go_rz (pc := 16) rfl bi_z0 hh
  · refine go_cmpltF (pc := 8) rfl hc ?_
    refine go_pi (pc := 11) rfl ?_
    refine go_goto (pc := 12) rfl ?_
    exact go_rz (pc := 16) rfl bi_z1 hh
def fX3_fail (n : Nat) (h : ai_H) (a0 : Nat) (a1 : Int32) : Option ((Unit ⊕ Nat) × ai_H) :=
  (kO n h a0 3).bind fun _ =>
  (sF n h a0 3 3 (.int) (.int a1)).bind fun h1 =>
  (pR n h1 a0 3 0).bind fun x2 =>
  (pI n h1 x2 7 5).bind fun x3 =>
  (sF n h1 a0 3 4 (.int) (.int x3)).bind fun h4 =>
  some (.inr 0, h4)
theorem gX3_fail {n : Nat} {h : ai_H} {a0 : Nat} {a1 : Int32} {q : (Unit ⊕ Nat) × ai_H} (hh : fX3_fail n h a0 a1 = some q) : kO n h a0 3 = some () := by
  obtain ⟨_, e, -⟩ := bi_bd hh
  exact e
theorem sX3_fail {n : Nat} {h : ai_H} {a0 : Nat} {a1 : Int32} {q : (Unit ⊕ Nat) × ai_H} (hh : fX3_fail n h a0 a1 = some q) : bi_sp 1 24 [.ref a0, .int a1] h n (tV n q) := by
  refine bi_en (D := 0) (T := tX3_fail) (funext fun pc => rfl) rfl (Nat.le_of_ble_eq_true rfl) ?_
  unfold fX3_fail at hh
  obtain ⟨_, eO, hh⟩ := bi_bd hh
  refine go_al (pc := 0) rfl (rfl : ai_ld 0 (lv_args 0 [.ref a0, .int a1]) = some (.ref a0)) ?_
  refine go_il (pc := 1) rfl (rfl : ai_ld 1 (lv_args 0 [.ref a0, .int a1]) = some (.int a1)) ?_
  obtain ⟨h1, eh1, hh⟩ := bi_bd hh
  refine go_pf (pc := 2) rfl eh1 ?_
  refine go_al (pc := 5) rfl (rfl : ai_ld 0 (lv_args 0 [.ref a0, .int a1]) = some (.ref a0)) ?_
  refine go_al (pc := 6) rfl (rfl : ai_ld 0 (lv_args 0 [.ref a0, .int a1]) = some (.ref a0)) ?_
  obtain ⟨x2, ex2, hh⟩ := bi_bd hh
  refine go_gfR (pc := 7) rfl ex2 ?_
  obtain ⟨x3, ex3, hh⟩ := bi_bd hh
  refine go_gfI (pc := 10) rfl ex3 ?_
  obtain ⟨h4, eh4, hh⟩ := bi_bd hh
  refine go_pf (pc := 13) rfl eh4 ?_
  exact go_th (pc := 16) rfl (Nat.le_of_ble_eq_true rfl) (bi_xV hh)
def fX3_beginRow_12 (n : Nat) (h : ai_H) (v0 : Nat) : Option ((Unit ⊕ Nat) × ai_H) :=
  (pR n h v0 3 0).bind fun x1 =>
  (fX7_advance n h x1).bind fun q2 =>
  some (.inl (), q2.2)
theorem sX3_beginRow_12 {n : Nat} {q : (Unit ⊕ Nat) × ai_H} {h : ai_H} {v0 : Nat} {lv : ai_L} (l0 : ai_ld 0 lv = some (.ref v0)) (hh : fX3_beginRow_12 n h v0 = some q) : bi_go 2 tX3_beginRow n (tV n q) 12 lv [] h := by
  unfold fX3_beginRow_12 at hh
  refine go_al (pc := 12) rfl l0 ?_
  obtain ⟨x1, ex1, hh⟩ := bi_bd hh
  refine go_gfR (pc := 13) rfl ex1 ?_
  obtain ⟨q2, eq2, hh⟩ := bi_bd hh
  refine go_ivV (pc := 16) rfl rfl (gX7_advance eq2) (Nat.le_of_ble_eq_true rfl) (bi_up (sX7_advance eq2) (Nat.le_of_ble_eq_true rfl)) ?_
  exact go_trv (pc := 19) rfl hh
def fX3_beginRow (n : Nat) (h : ai_H) (a0 : Nat) (a1 : Nat) : Option ((Unit ⊕ Nat) × ai_H) :=
  (kO n h a0 3).bind fun _ =>
  (fX6_isFull n h a1).bind fun q1 =>
  if q1.1 = 0 then (
    fX3_beginRow_12 n q1.2 a0)
  else (
    bt (fX3_fail n q1.2 a0 (2 : Int32)) fun x2 h3 =>
    fX3_beginRow_12 n h3 a0)
theorem gX3_beginRow {n : Nat} {h : ai_H} {a0 : Nat} {a1 : Nat} {q : (Unit ⊕ Nat) × ai_H} (hh : fX3_beginRow n h a0 a1 = some q) : kO n h a0 3 = some () := by
  obtain ⟨_, e, -⟩ := bi_bd hh
  exact e
theorem sX3_beginRow {n : Nat} {h : ai_H} {a0 : Nat} {a1 : Nat} {q : (Unit ⊕ Nat) × ai_H} (hh : fX3_beginRow n h a0 a1 = some q) : bi_sp 3 27 [.ref a0, .ref a1] h n (tV n q) := by
  refine bi_en (D := 2) (T := tX3_beginRow) (funext fun pc => rfl) rfl (Nat.le_of_ble_eq_true rfl) ?_
  unfold fX3_beginRow at hh
  obtain ⟨_, eO, hh⟩ := bi_bd hh
  refine go_al (pc := 0) rfl (rfl : ai_ld 1 (lv_args 0 [.ref a0, .ref a1]) = some (.ref a1)) ?_
  obtain ⟨q1, eq1, hh⟩ := bi_bd hh
  refine go_ivI (pc := 1) rfl rfl (gX6_isFull eq1) (Nat.le_of_ble_eq_true rfl) (bi_up (sX6_isFull eq1) (Nat.le_of_ble_eq_true rfl)) ?_
  refine bi_ite hh (fun hc hh => ?_) (fun hc hh => ?_)
  · refine go_ifeqT (pc := 4) rfl hc ?_
    exact sX3_beginRow_12  (rfl : ai_ld 0 (lv_args 0 [.ref a0, .ref a1]) = some (.ref a0)) hh
  · refine go_ifeqF (pc := 4) rfl hc ?_
    refine go_al (pc := 7) rfl (rfl : ai_ld 0 (lv_args 0 [.ref a0, .ref a1]) = some (.ref a0)) ?_
    refine go_pi (pc := 8) rfl ?_
    refine bt_c hh (fun E hE ee hh => go_ivX (pc := 9) rfl rfl (gX3_fail ee) (Nat.le_of_ble_eq_true rfl) (bi_up (sX3_fail ee) (Nat.le_of_ble_eq_true rfl)) (bi_xV hh)) ?_
    intro x2 h3 ex2 hh
    refine go_ivV (pc := 9) rfl rfl (gX3_fail ex2) (Nat.le_of_ble_eq_true rfl) (bi_up (sX3_fail ex2) (Nat.le_of_ble_eq_true rfl)) ?_
    exact sX3_beginRow_12  (rfl : ai_ld 0 (lv_args 0 [.ref a0, .ref a1]) = some (.ref a0)) hh
def fX6_find_2b (n : Nat) (r2 : ai_H → Nat → Int32 → Int32 → Option (Int32 × ai_H)) (h : ai_H) (v0 : Nat) (v1 : Int32) (v2 : Int32) : Option (Int32 × ai_H) :=
  (pI n h v0 6 4).bind fun x1 =>
  if x1 ≤ v2 then (
    some ((-1 : Int32), h))
  else (
    (pR n h v0 6 2).bind fun x2 =>
    (gX 1 n h x2 v2).bind fun x3 =>
    if ¬ x3 = v1 then (
      r2 h v0 v1 (v2 + 1))
    else (
      some (v2, h)))
theorem sX6_find_2b {n : Nat} {r2 : ai_H → Nat → Int32 → Int32 → Option (Int32 × ai_H)} {q : Int32 × ai_H} {h : ai_H} {v0 : Nat} {v1 : Int32} {v2 : Int32} {lv : ai_L} (R2 : ∀ (h : ai_H) (v0 : Nat) (v1 : Int32) (v2 : Int32) (lv : ai_L), ai_ld 0 lv = some (.ref v0) → ai_ld 1 lv = some (.int v1) → ai_ld 2 lv = some (.int v2) → r2 h v0 v1 v2 = some q → bi_go 0 tX6_find n (fI n q) 2 lv [] h) (l0 : ai_ld 0 lv = some (.ref v0)) (l1 : ai_ld 1 lv = some (.int v1)) (l2 : ai_ld 2 lv = some (.int v2)) (hh : fX6_find_2b n r2 h v0 v1 v2 = some q) : bi_go 0 tX6_find n (fI n q) 2 lv [] h := by
  unfold fX6_find_2b at hh
  refine go_il (pc := 2) rfl l2 ?_
  refine go_al (pc := 3) rfl l0 ?_
  obtain ⟨x1, ex1, hh⟩ := bi_bd hh
  refine go_gfI (pc := 4) rfl ex1 ?_
  refine bi_ite hh (fun hc hh => ?_) (fun hc hh => ?_)
  · refine go_cmpgeT (pc := 7) rfl hc ?_
    refine go_pi (pc := 28) rfl ?_
    exact go_ri (pc := 29) rfl hh
  · refine go_cmpgeF (pc := 7) rfl hc ?_
    refine go_al (pc := 10) rfl l0 ?_
    obtain ⟨x2, ex2, hh⟩ := bi_bd hh
    refine go_gfR (pc := 11) rfl ex2 ?_
    refine go_il (pc := 14) rfl l2 ?_
    obtain ⟨x3, ex3, hh⟩ := bi_bd hh
    refine go_iald (pc := 15) rfl ex3 ?_
    refine go_il (pc := 16) rfl l1 ?_
    refine bi_ite hh (fun hc hh => ?_) (fun hc hh => ?_)
    · refine go_cmpneT (pc := 17) rfl hc ?_
      refine go_inc (pc := 22) rfl l2 ?_
      refine go_goto (pc := 25) rfl ?_
      exact R2 _ _ _ _ _ (bi_k1 l0 rfl rfl) (bi_k1 l1 rfl rfl) bi_e1 hh
    · refine go_cmpneF (pc := 17) rfl hc ?_
      refine go_il (pc := 20) rfl l2 ?_
      exact go_ri (pc := 21) rfl hh
def fX6_find_2 (n : Nat) : Nat → ai_H → Nat → Int32 → Int32 → Option (Int32 × ai_H)
  | 0 => fun _ _ _ _ => none
  | k + 1 => fun h v0 v1 v2 => fX6_find_2b n (fX6_find_2 n k) h v0 v1 v2
theorem sX6_find_2 {n : Nat} {q : Int32 × ai_H} : ∀ (k : Nat) (h : ai_H) (v0 : Nat) (v1 : Int32) (v2 : Int32) (lv : ai_L), ai_ld 0 lv = some (.ref v0) → ai_ld 1 lv = some (.int v1) → ai_ld 2 lv = some (.int v2) → fX6_find_2 n k h v0 v1 v2 = some q → bi_go 0 tX6_find n (fI n q) 2 lv [] h
  | 0 => fun _ _ _ _ _ _ _ _ hh => by cases hh
  | k + 1 => fun h v0 v1 v2 lv l0 l1 l2 hh => sX6_find_2b  (sX6_find_2  k) l0 l1 l2 hh
def fX6_find (n : Nat) (h : ai_H) (a0 : Nat) (a1 : Int32) : Option (Int32 × ai_H) :=
  (kO n h a0 6).bind fun _ =>
  fX6_find_2 n bi_K h a0 a1 (0 : Int32)
theorem gX6_find {n : Nat} {h : ai_H} {a0 : Nat} {a1 : Int32} {q : Int32 × ai_H} (hh : fX6_find n h a0 a1 = some q) : kO n h a0 6 = some () := by
  obtain ⟨_, e, -⟩ := bi_bd hh
  exact e
theorem sX6_find {n : Nat} {h : ai_H} {a0 : Nat} {a1 : Int32} {q : Int32 × ai_H} (hh : fX6_find n h a0 a1 = some q) : bi_sp 1 54 [.ref a0, .int a1] h n (fI n q) := by
  refine bi_en (D := 0) (T := tX6_find) (funext fun pc => rfl) rfl (Nat.le_of_ble_eq_true rfl) ?_
  unfold fX6_find at hh
  obtain ⟨_, eO, hh⟩ := bi_bd hh
  refine go_pi (pc := 0) rfl ?_
  refine go_is (pc := 1) rfl ?_
  exact sX6_find_2  _ _ _ _ _ _ (bi_k1 (rfl : ai_ld 0 (lv_args 0 [.ref a0, .int a1]) = some (.ref a0)) rfl rfl) (bi_k1 (rfl : ai_ld 1 (lv_args 0 [.ref a0, .int a1]) = some (.int a1)) rfl rfl) bi_e1 hh
def fX6_putName (n : Nat) (h : ai_H) (a0 : Nat) (a1 : Int32) : Option (Unit × ai_H) :=
  (kO n h a0 6).bind fun _ =>
  (fX6_isFull n h a0).bind fun q1 =>
  if ¬ q1.1 = 0 then (
    some ((), q1.2))
  else (
    (pR n q1.2 a0 6 2).bind fun x2 =>
    (pI n q1.2 a0 6 4).bind fun x3 =>
    (wX 1 (fun x => x) n q1.2 x2 x3 a1).bind fun h4 =>
    some ((), h4))
theorem gX6_putName {n : Nat} {h : ai_H} {a0 : Nat} {a1 : Int32} {q : Unit × ai_H} (hh : fX6_putName n h a0 a1 = some q) : kO n h a0 6 = some () := by
  obtain ⟨_, e, -⟩ := bi_bd hh
  exact e
theorem sX6_putName {n : Nat} {h : ai_H} {a0 : Nat} {a1 : Int32} {q : Unit × ai_H} (hh : fX6_putName n h a0 a1 = some q) : bi_sp 2 57 [.ref a0, .int a1] h n (fV n q) := by
  refine bi_en (D := 1) (T := tX6_putName) (funext fun pc => rfl) rfl (Nat.le_of_ble_eq_true rfl) ?_
  unfold fX6_putName at hh
  obtain ⟨_, eO, hh⟩ := bi_bd hh
  refine go_al (pc := 0) rfl (rfl : ai_ld 0 (lv_args 0 [.ref a0, .int a1]) = some (.ref a0)) ?_
  obtain ⟨q1, eq1, hh⟩ := bi_bd hh
  refine go_ivI (pc := 1) rfl rfl (gX6_isFull eq1) (Nat.le_of_ble_eq_true rfl) (bi_up (sX6_isFull eq1) (Nat.le_of_ble_eq_true rfl)) ?_
  refine bi_ite hh (fun hc hh => ?_) (fun hc hh => ?_)
  · refine go_ifneT (pc := 4) rfl hc ?_
    exact go_rv (pc := 17) rfl hh
  · refine go_ifneF (pc := 4) rfl hc ?_
    refine go_al (pc := 7) rfl (rfl : ai_ld 0 (lv_args 0 [.ref a0, .int a1]) = some (.ref a0)) ?_
    obtain ⟨x2, ex2, hh⟩ := bi_bd hh
    refine go_gfR (pc := 8) rfl ex2 ?_
    refine go_al (pc := 11) rfl (rfl : ai_ld 0 (lv_args 0 [.ref a0, .int a1]) = some (.ref a0)) ?_
    obtain ⟨x3, ex3, hh⟩ := bi_bd hh
    refine go_gfI (pc := 12) rfl ex3 ?_
    refine go_il (pc := 15) rfl (rfl : ai_ld 1 (lv_args 0 [.ref a0, .int a1]) = some (.int a1)) ?_
    obtain ⟨h4, eh4, hh⟩ := bi_bd hh
    refine go_iast (pc := 16) rfl eh4 ?_
    exact go_rv (pc := 17) rfl hh
def fX3_readNewName_36 (n : Nat) (h : ai_H) (v0 : Nat) (v1 : Nat) : Option ((Unit ⊕ Nat) × ai_H) :=
  (pR n h v0 3 0).bind fun x1 =>
  (pI n h x1 7 6).bind fun x2 =>
  (fX6_putName n h v1 x2).bind fun q3 =>
  (pR n q3.2 v0 3 0).bind fun x4 =>
  (fX7_advance n q3.2 x4).bind fun q5 =>
  some (.inl (), q5.2)
theorem sX3_readNewName_36 {n : Nat} {q : (Unit ⊕ Nat) × ai_H} {h : ai_H} {v0 : Nat} {v1 : Nat} {lv : ai_L} (l0 : ai_ld 0 lv = some (.ref v0)) (l1 : ai_ld 1 lv = some (.ref v1)) (hh : fX3_readNewName_36 n h v0 v1 = some q) : bi_go 2 tX3_readNewName n (tV n q) 36 lv [] h := by
  unfold fX3_readNewName_36 at hh
  refine go_al (pc := 36) rfl l1 ?_
  refine go_al (pc := 37) rfl l0 ?_
  obtain ⟨x1, ex1, hh⟩ := bi_bd hh
  refine go_gfR (pc := 38) rfl ex1 ?_
  obtain ⟨x2, ex2, hh⟩ := bi_bd hh
  refine go_gfI (pc := 41) rfl ex2 ?_
  obtain ⟨q3, eq3, hh⟩ := bi_bd hh
  refine go_ivV (pc := 44) rfl rfl (gX6_putName eq3) (Nat.le_of_ble_eq_true rfl) (bi_up (sX6_putName eq3) (Nat.le_of_ble_eq_true rfl)) ?_
  refine go_al (pc := 47) rfl l0 ?_
  obtain ⟨x4, ex4, hh⟩ := bi_bd hh
  refine go_gfR (pc := 48) rfl ex4 ?_
  obtain ⟨q5, eq5, hh⟩ := bi_bd hh
  refine go_ivV (pc := 51) rfl rfl (gX7_advance eq5) (Nat.le_of_ble_eq_true rfl) (bi_up (sX7_advance eq5) (Nat.le_of_ble_eq_true rfl)) ?_
  exact go_trv (pc := 54) rfl hh
def fX3_readNewName_17 (n : Nat) (h : ai_H) (v0 : Nat) (v1 : Nat) : Option ((Unit ⊕ Nat) × ai_H) :=
  (pR n h v0 3 0).bind fun x1 =>
  (pI n h x1 7 6).bind fun x2 =>
  (fX6_find n h v1 x2).bind fun q3 =>
  if q3.1 < 0 then (
    fX3_readNewName_36 n q3.2 v0 v1)
  else (
    bt (fX3_fail n q3.2 v0 (3 : Int32)) fun x4 h5 =>
    fX3_readNewName_36 n h5 v0 v1)
theorem sX3_readNewName_17 {n : Nat} {q : (Unit ⊕ Nat) × ai_H} {h : ai_H} {v0 : Nat} {v1 : Nat} {lv : ai_L} (l0 : ai_ld 0 lv = some (.ref v0)) (l1 : ai_ld 1 lv = some (.ref v1)) (hh : fX3_readNewName_17 n h v0 v1 = some q) : bi_go 2 tX3_readNewName n (tV n q) 17 lv [] h := by
  unfold fX3_readNewName_17 at hh
  refine go_al (pc := 17) rfl l1 ?_
  refine go_al (pc := 18) rfl l0 ?_
  obtain ⟨x1, ex1, hh⟩ := bi_bd hh
  refine go_gfR (pc := 19) rfl ex1 ?_
  obtain ⟨x2, ex2, hh⟩ := bi_bd hh
  refine go_gfI (pc := 22) rfl ex2 ?_
  obtain ⟨q3, eq3, hh⟩ := bi_bd hh
  refine go_ivI (pc := 25) rfl rfl (gX6_find eq3) (Nat.le_of_ble_eq_true rfl) (bi_up (sX6_find eq3) (Nat.le_of_ble_eq_true rfl)) ?_
  refine bi_ite hh (fun hc hh => ?_) (fun hc hh => ?_)
  · refine go_ifltT (pc := 28) rfl hc ?_
    exact sX3_readNewName_36  l0 l1 hh
  · refine go_ifltF (pc := 28) rfl hc ?_
    refine go_al (pc := 31) rfl l0 ?_
    refine go_pi (pc := 32) rfl ?_
    refine bt_c hh (fun E hE ee hh => go_ivX (pc := 33) rfl rfl (gX3_fail ee) (Nat.le_of_ble_eq_true rfl) (bi_up (sX3_fail ee) (Nat.le_of_ble_eq_true rfl)) (bi_xV hh)) ?_
    intro x4 h5 ex4 hh
    refine go_ivV (pc := 33) rfl rfl (gX3_fail ex4) (Nat.le_of_ble_eq_true rfl) (bi_up (sX3_fail ex4) (Nat.le_of_ble_eq_true rfl)) ?_
    exact sX3_readNewName_36  l0 l1 hh
def fX3_readNewName (n : Nat) (h : ai_H) (a0 : Nat) (a1 : Nat) : Option ((Unit ⊕ Nat) × ai_H) :=
  (kO n h a0 3).bind fun _ =>
  (pR n h a0 3 0).bind fun x1 =>
  (pI n h x1 7 4).bind fun x2 =>
  if x2 = (22 : Int32) then (
    fX3_readNewName_17 n h a0 a1)
  else (
    bt (fX3_fail n h a0 (1 : Int32)) fun x3 h4 =>
    fX3_readNewName_17 n h4 a0 a1)
theorem gX3_readNewName {n : Nat} {h : ai_H} {a0 : Nat} {a1 : Nat} {q : (Unit ⊕ Nat) × ai_H} (hh : fX3_readNewName n h a0 a1 = some q) : kO n h a0 3 = some () := by
  obtain ⟨_, e, -⟩ := bi_bd hh
  exact e
theorem sX3_readNewName {n : Nat} {h : ai_H} {a0 : Nat} {a1 : Nat} {q : (Unit ⊕ Nat) × ai_H} (hh : fX3_readNewName n h a0 a1 = some q) : bi_sp 3 33 [.ref a0, .ref a1] h n (tV n q) := by
  refine bi_en (D := 2) (T := tX3_readNewName) (funext fun pc => rfl) rfl (Nat.le_of_ble_eq_true rfl) ?_
  unfold fX3_readNewName at hh
  obtain ⟨_, eO, hh⟩ := bi_bd hh
  refine go_al (pc := 0) rfl (rfl : ai_ld 0 (lv_args 0 [.ref a0, .ref a1]) = some (.ref a0)) ?_
  obtain ⟨x1, ex1, hh⟩ := bi_bd hh
  refine go_gfR (pc := 1) rfl ex1 ?_
  obtain ⟨x2, ex2, hh⟩ := bi_bd hh
  refine go_gfI (pc := 4) rfl ex2 ?_
  refine go_pi (pc := 7) rfl ?_
  refine bi_ite hh (fun hc hh => ?_) (fun hc hh => ?_)
  · refine go_cmpeqT (pc := 9) rfl hc ?_
    exact sX3_readNewName_17  (rfl : ai_ld 0 (lv_args 0 [.ref a0, .ref a1]) = some (.ref a0)) (rfl : ai_ld 1 (lv_args 0 [.ref a0, .ref a1]) = some (.ref a1)) hh
  · refine go_cmpeqF (pc := 9) rfl hc ?_
    refine go_al (pc := 12) rfl (rfl : ai_ld 0 (lv_args 0 [.ref a0, .ref a1]) = some (.ref a0)) ?_
    refine go_pi (pc := 13) rfl ?_
    refine bt_c hh (fun E hE ee hh => go_ivX (pc := 14) rfl rfl (gX3_fail ee) (Nat.le_of_ble_eq_true rfl) (bi_up (sX3_fail ee) (Nat.le_of_ble_eq_true rfl)) (bi_xV hh)) ?_
    intro x3 h4 ex3 hh
    refine go_ivV (pc := 14) rfl rfl (gX3_fail ex3) (Nat.le_of_ble_eq_true rfl) (bi_up (sX3_fail ex3) (Nat.le_of_ble_eq_true rfl)) ?_
    exact sX3_readNewName_17  (rfl : ai_ld 0 (lv_args 0 [.ref a0, .ref a1]) = some (.ref a0)) (rfl : ai_ld 1 (lv_args 0 [.ref a0, .ref a1]) = some (.ref a1)) hh
def fX6_endRow (n : Nat) (h : ai_H) (a0 : Nat) : Option (Unit × ai_H) :=
  (kO n h a0 6).bind fun _ =>
  (fX6_isFull n h a0).bind fun q1 =>
  if ¬ q1.1 = 0 then (
    some ((), q1.2))
  else (
    (pI n q1.2 a0 6 4).bind fun x2 =>
    (sF n q1.2 a0 6 4 (.int) (.int (x2 + (1 : Int32)))).bind fun h3 =>
    some ((), h3))
theorem gX6_endRow {n : Nat} {h : ai_H} {a0 : Nat} {q : Unit × ai_H} (hh : fX6_endRow n h a0 = some q) : kO n h a0 6 = some () := by
  obtain ⟨_, e, -⟩ := bi_bd hh
  exact e
theorem sX6_endRow {n : Nat} {h : ai_H} {a0 : Nat} {q : Unit × ai_H} (hh : fX6_endRow n h a0 = some q) : bi_sp 2 58 [.ref a0] h n (fV n q) := by
  refine bi_en (D := 1) (T := tX6_endRow) (funext fun pc => rfl) rfl (Nat.le_of_ble_eq_true rfl) ?_
  unfold fX6_endRow at hh
  obtain ⟨_, eO, hh⟩ := bi_bd hh
  refine go_al (pc := 0) rfl (rfl : ai_ld 0 (lv_args 0 [.ref a0]) = some (.ref a0)) ?_
  obtain ⟨q1, eq1, hh⟩ := bi_bd hh
  refine go_ivI (pc := 1) rfl rfl (gX6_isFull eq1) (Nat.le_of_ble_eq_true rfl) (bi_up (sX6_isFull eq1) (Nat.le_of_ble_eq_true rfl)) ?_
  refine bi_ite hh (fun hc hh => ?_) (fun hc hh => ?_)
  · refine go_ifneT (pc := 4) rfl hc ?_
    exact go_rv (pc := 17) rfl hh
  · refine go_ifneF (pc := 4) rfl hc ?_
    refine go_al (pc := 7) rfl (rfl : ai_ld 0 (lv_args 0 [.ref a0]) = some (.ref a0)) ?_
    refine go_dup (pc := 8) rfl rfl ?_
    obtain ⟨x2, ex2, hh⟩ := bi_bd hh
    refine go_gfI (pc := 9) rfl ex2 ?_
    refine go_pi (pc := 12) rfl ?_
    refine go_iadd (pc := 13) rfl ?_
    obtain ⟨h3, eh3, hh⟩ := bi_bd hh
    refine go_pf (pc := 14) rfl eh3 ?_
    exact go_rv (pc := 17) rfl hh
