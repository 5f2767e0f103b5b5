/-! ===== methods as functions, part 23 ===== -/
def fX11_layGame_51 (n : Nat) (r8 : ai_H → Nat → Int32 → Int32 → Int32 → Int32 → Option (Unit × ai_H)) (h : ai_H) (v0 : Nat) (v1 : Int32) (v2 : Int32) (v3 : Int32) (v4 : Int32) : Option (Unit × ai_H) :=
  r8 h v0 v1 v2 v3 (v4 + 1)
theorem sX11_layGame_51 {n : Nat} {r8 : ai_H → Nat → Int32 → Int32 → Int32 → Int32 → Option (Unit × ai_H)} {q : Unit × ai_H} {h : ai_H} {v0 : Nat} {v1 : Int32} {v2 : Int32} {v3 : Int32} {v4 : Int32} {lv : ai_L} (R8 : ∀ (h : ai_H) (v0 : Nat) (v1 : Int32) (v2 : Int32) (v3 : Int32) (v4 : Int32) (lv : ai_L), ai_ld 0 lv = some (.ref v0) → ai_ld 1 lv = some (.int v1) → ai_ld 2 lv = some (.int v2) → ai_ld 3 lv = some (.int v3) → ai_ld 4 lv = some (.int v4) → r8 h v0 v1 v2 v3 v4 = some q → bi_go 2 tX11_layGame n (fV n q) 8 lv [] h) (l0 : ai_ld 0 lv = some (.ref v0)) (l1 : ai_ld 1 lv = some (.int v1)) (l2 : ai_ld 2 lv = some (.int v2)) (l3 : ai_ld 3 lv = some (.int v3)) (l4 : ai_ld 4 lv = some (.int v4)) (hh : fX11_layGame_51 n r8 h v0 v1 v2 v3 v4 = some q) : bi_go 2 tX11_layGame n (fV n q) 51 lv [] h := by
  unfold fX11_layGame_51 at hh
  refine go_inc (pc := 51) rfl l4 ?_
  refine go_goto (pc := 54) rfl ?_
  exact R8 _ _ _ _ _ _ _ (bi_k1 l0 rfl rfl) (bi_k1 l1 rfl rfl) (bi_k1 l2 rfl rfl) (bi_k1 l3 rfl rfl) bi_e1 hh
def fX11_layGame_105 (n : Nat) (r68 : ai_H → Nat → Int32 → Int32 → Int32 → Int32 → Option (Unit × ai_H)) (r79 : ai_H → Nat → Int32 → Int32 → Int32 → Int32 → Int32 → Int32 → Option (Unit × ai_H)) (h : ai_H) (v0 : Nat) (v1 : Int32) (v2 : Int32) (v3 : Int32) (v4 : Int32) (v6 : Int32) (s0 : Int32) (s1 : Int32) : Option (Unit × ai_H) :=
  r79 h v0 v1 v2 v3 v4 (s1 + s0) (v6 + 1)
theorem sX11_layGame_105 {n : Nat} {r68 : ai_H → Nat → Int32 → Int32 → Int32 → Int32 → Option (Unit × ai_H)} {r79 : ai_H → Nat → Int32 → Int32 → Int32 → Int32 → Int32 → Int32 → Option (Unit × ai_H)} {q : Unit × ai_H} {h : ai_H} {v0 : Nat} {v1 : Int32} {v2 : Int32} {v3 : Int32} {v4 : Int32} {v6 : Int32} {s0 : Int32} {s1 : Int32} {lv : ai_L} (R68 : ∀ (h : ai_H) (v0 : Nat) (v1 : Int32) (v2 : Int32) (v3 : Int32) (v4 : Int32) (lv : ai_L), ai_ld 0 lv = some (.ref v0) → ai_ld 1 lv = some (.int v1) → ai_ld 2 lv = some (.int v2) → ai_ld 3 lv = some (.int v3) → ai_ld 4 lv = some (.int v4) → r68 h v0 v1 v2 v3 v4 = some q → bi_go 2 tX11_layGame n (fV n q) 68 lv [] h) (R79 : ∀ (h : ai_H) (v0 : Nat) (v1 : Int32) (v2 : Int32) (v3 : Int32) (v4 : Int32) (v5 : Int32) (v6 : Int32) (lv : ai_L), ai_ld 0 lv = some (.ref v0) → ai_ld 1 lv = some (.int v1) → ai_ld 2 lv = some (.int v2) → ai_ld 3 lv = some (.int v3) → ai_ld 4 lv = some (.int v4) → ai_ld 5 lv = some (.int v5) → ai_ld 6 lv = some (.int v6) → r79 h v0 v1 v2 v3 v4 v5 v6 = some q → bi_go 2 tX11_layGame n (fV n q) 79 lv [] h) (l0 : ai_ld 0 lv = some (.ref v0)) (l1 : ai_ld 1 lv = some (.int v1)) (l2 : ai_ld 2 lv = some (.int v2)) (l3 : ai_ld 3 lv = some (.int v3)) (l4 : ai_ld 4 lv = some (.int v4)) (l6 : ai_ld 6 lv = some (.int v6)) (hh : fX11_layGame_105 n r68 r79 h v0 v1 v2 v3 v4 v6 s0 s1 = some q) : bi_go 2 tX11_layGame n (fV n q) 105 lv [.int s0, .int s1] h := by
  unfold fX11_layGame_105 at hh
  refine go_iadd (pc := 105) rfl ?_
  refine go_is (pc := 106) rfl ?_
  refine go_inc (pc := 108) rfl (bi_k1 l6 rfl rfl) ?_
  refine go_goto (pc := 111) rfl ?_
  exact R79 _ _ _ _ _ _ _ _ _ (bi_k1 (bi_k1 l0 rfl rfl) rfl rfl) (bi_k1 (bi_k1 l1 rfl rfl) rfl rfl) (bi_k1 (bi_k1 l2 rfl rfl) rfl rfl) (bi_k1 (bi_k1 l3 rfl rfl) rfl rfl) (bi_k1 (bi_k1 l4 rfl rfl) rfl rfl) (bi_k1 bi_e1 rfl rfl) bi_e1 hh
def fX11_layGame_191 (n : Nat) (r68 : ai_H → Nat → Int32 → Int32 → Int32 → Int32 → Option (Unit × ai_H)) (h : ai_H) (v0 : Nat) (v1 : Int32) (v2 : Int32) (v3 : Int32) (v4 : Int32) : Option (Unit × ai_H) :=
  r68 h v0 v1 v2 v3 (v4 + (-1))
theorem sX11_layGame_191 {n : Nat} {r68 : ai_H → Nat → Int32 → Int32 → Int32 → Int32 → Option (Unit × ai_H)} {q : Unit × ai_H} {h : ai_H} {v0 : Nat} {v1 : Int32} {v2 : Int32} {v3 : Int32} {v4 : Int32} {lv : ai_L} (R68 : ∀ (h : ai_H) (v0 : Nat) (v1 : Int32) (v2 : Int32) (v3 : Int32) (v4 : Int32) (lv : ai_L), ai_ld 0 lv = some (.ref v0) → ai_ld 1 lv = some (.int v1) → ai_ld 2 lv = some (.int v2) → ai_ld 3 lv = some (.int v3) → ai_ld 4 lv = some (.int v4) → r68 h v0 v1 v2 v3 v4 = some q → bi_go 2 tX11_layGame n (fV n q) 68 lv [] h) (l0 : ai_ld 0 lv = some (.ref v0)) (l1 : ai_ld 1 lv = some (.int v1)) (l2 : ai_ld 2 lv = some (.int v2)) (l3 : ai_ld 3 lv = some (.int v3)) (l4 : ai_ld 4 lv = some (.int v4)) (hh : fX11_layGame_191 n r68 h v0 v1 v2 v3 v4 = some q) : bi_go 2 tX11_layGame n (fV n q) 191 lv [] h := by
  unfold fX11_layGame_191 at hh
  refine go_inc (pc := 191) rfl l4 ?_
  refine go_goto (pc := 194) rfl ?_
  exact R68 _ _ _ _ _ _ _ (bi_k1 l0 rfl rfl) (bi_k1 l1 rfl rfl) (bi_k1 l2 rfl rfl) (bi_k1 l3 rfl rfl) bi_e1 hh
def fX11_layGame_190 (n : Nat) (r68 : ai_H → Nat → Int32 → Int32 → Int32 → Int32 → Option (Unit × ai_H)) (h : ai_H) (v0 : Nat) (v1 : Int32) (v2 : Int32) (v3 : Int32) (v4 : Int32) (s0 : Int32) (s1 : Int32) (s2 : Nat) : Option (Unit × ai_H) :=
  (wB n h s2 s1 s0).bind fun h1 =>
  fX11_layGame_191 n r68 h1 v0 v1 v2 v3 v4
theorem sX11_layGame_190 {n : Nat} {r68 : ai_H → Nat → Int32 → Int32 → Int32 → Int32 → Option (Unit × ai_H)} {q : Unit × ai_H} {h : ai_H} {v0 : Nat} {v1 : Int32} {v2 : Int32} {v3 : Int32} {v4 : Int32} {s0 : Int32} {s1 : Int32} {s2 : Nat} {lv : ai_L} (R68 : ∀ (h : ai_H) (v0 : Nat) (v1 : Int32) (v2 : Int32) (v3 : Int32) (v4 : Int32) (lv : ai_L), ai_ld 0 lv = some (.ref v0) → ai_ld 1 lv = some (.int v1) → ai_ld 2 lv = some (.int v2) → ai_ld 3 lv = some (.int v3) → ai_ld 4 lv = some (.int v4) → r68 h v0 v1 v2 v3 v4 = some q → bi_go 2 tX11_layGame n (fV n q) 68 lv [] h) (l0 : ai_ld 0 lv = some (.ref v0)) (l1 : ai_ld 1 lv = some (.int v1)) (l2 : ai_ld 2 lv = some (.int v2)) (l3 : ai_ld 3 lv = some (.int v3)) (l4 : ai_ld 4 lv = some (.int v4)) (hh : fX11_layGame_190 n r68 h v0 v1 v2 v3 v4 s0 s1 s2 = some q) : bi_go 2 tX11_layGame n (fV n q) 190 lv [.int s0, .int s1, .ref s2] h := by
  unfold fX11_layGame_190 at hh
  obtain ⟨h1, eh1, hh⟩ := bi_bd hh
  refine go_bast (pc := 190) rfl eh1 ?_
  exact sX11_layGame_191 R68 l0 l1 l2 l3 l4 hh
def fX11_layGame_182 (n : Nat) (r68 : ai_H → Nat → Int32 → Int32 → Int32 → Int32 → Option (Unit × ai_H)) (h : ai_H) (v0 : Nat) (v1 : Int32) (v2 : Int32) (v3 : Int32) (v4 : Int32) (s0 : Int32) (s1 : Int32) (s2 : Int32) (s3 : Nat) : Option (Unit × ai_H) :=
  if ¬ s1 = s0 then (
    fX11_layGame_190 n r68 h v0 v1 v2 v3 v4 (0 : Int32) s2 s3)
  else (
    fX11_layGame_190 n r68 h v0 v1 v2 v3 v4 (1 : Int32) s2 s3)
theorem sX11_layGame_182 {n : Nat} {r68 : ai_H → Nat → Int32 → Int32 → Int32 → Int32 → Option (Unit × ai_H)} {q : Unit × ai_H} {h : ai_H} {v0 : Nat} {v1 : Int32} {v2 : Int32} {v3 : Int32} {v4 : Int32} {s0 : Int32} {s1 : Int32} {s2 : Int32} {s3 : Nat} {lv : ai_L} (R68 : ∀ (h : ai_H) (v0 : Nat) (v1 : Int32) (v2 : Int32) (v3 : Int32) (v4 : Int32) (lv : ai_L), ai_ld 0 lv = some (.ref v0) → ai_ld 1 lv = some (.int v1) → ai_ld 2 lv = some (.int v2) → ai_ld 3 lv = some (.int v3) → ai_ld 4 lv = some (.int v4) → r68 h v0 v1 v2 v3 v4 = some q → bi_go 2 tX11_layGame n (fV n q) 68 lv [] h) (l0 : ai_ld 0 lv = some (.ref v0)) (l1 : ai_ld 1 lv = some (.int v1)) (l2 : ai_ld 2 lv = some (.int v2)) (l3 : ai_ld 3 lv = some (.int v3)) (l4 : ai_ld 4 lv = some (.int v4)) (hh : fX11_layGame_182 n r68 h v0 v1 v2 v3 v4 s0 s1 s2 s3 = some q) : bi_go 2 tX11_layGame n (fV n q) 182 lv [.int s0, .int s1, .int s2, .ref s3] h := by
  unfold fX11_layGame_182 at hh
  refine bi_ite hh (fun hc hh => ?_) (fun hc hh => ?_)
  · refine go_cmpneT (pc := 182) rfl hc ?_
    refine go_pi (pc := 189) rfl ?_
    exact sX11_layGame_190 R68 l0 l1 l2 l3 l4 hh
  · refine go_cmpneF (pc := 182) rfl hc ?_
    refine go_pi (pc := 185) rfl ?_
    refine go_goto (pc := 186) rfl ?_
    exact sX11_layGame_190 R68 l0 l1 l2 l3 l4 hh
def fX11_layGame_171 (n : Nat) (r68 : ai_H → Nat → Int32 → Int32 → Int32 → Int32 → Option (Unit × ai_H)) (h : ai_H) (v0 : Nat) (v1 : Int32) (v2 : Int32) (v3 : Int32) (v4 : Int32) (v6 : Int32) (s0 : Int32) (s1 : Int32) (s2 : Nat) : Option (Unit × ai_H) :=
  if ¬ v6 = (1 : Int32) then (
    fX11_layGame_182 n r68 h v0 v1 v2 v3 v4 (0 : Int32) s0 s1 s2)
  else (
    fX11_layGame_182 n r68 h v0 v1 v2 v3 v4 (1 : Int32) s0 s1 s2)
theorem sX11_layGame_171 {n : Nat} {r68 : ai_H → Nat → Int32 → Int32 → Int32 → Int32 → Option (Unit × ai_H)} {q : Unit × ai_H} {h : ai_H} {v0 : Nat} {v1 : Int32} {v2 : Int32} {v3 : Int32} {v4 : Int32} {v6 : Int32} {s0 : Int32} {s1 : Int32} {s2 : Nat} {lv : ai_L} (R68 : ∀ (h : ai_H) (v0 : Nat) (v1 : Int32) (v2 : Int32) (v3 : Int32) (v4 : Int32) (lv : ai_L), ai_ld 0 lv = some (.ref v0) → ai_ld 1 lv = some (.int v1) → ai_ld 2 lv = some (.int v2) → ai_ld 3 lv = some (.int v3) → ai_ld 4 lv = some (.int v4) → r68 h v0 v1 v2 v3 v4 = some q → bi_go 2 tX11_layGame n (fV n q) 68 lv [] h) (l0 : ai_ld 0 lv = some (.ref v0)) (l1 : ai_ld 1 lv = some (.int v1)) (l2 : ai_ld 2 lv = some (.int v2)) (l3 : ai_ld 3 lv = some (.int v3)) (l4 : ai_ld 4 lv = some (.int v4)) (l6 : ai_ld 6 lv = some (.int v6)) (hh : fX11_layGame_171 n r68 h v0 v1 v2 v3 v4 v6 s0 s1 s2 = some q) : bi_go 2 tX11_layGame n (fV n q) 171 lv [.int s0, .int s1, .ref s2] h := by
  unfold fX11_layGame_171 at hh
  refine go_il (pc := 171) rfl l6 ?_
  refine go_pi (pc := 173) rfl ?_
  refine bi_ite hh (fun hc hh => ?_) (fun hc hh => ?_)
  · refine go_cmpneT (pc := 174) rfl hc ?_
    refine go_pi (pc := 181) rfl ?_
    exact sX11_layGame_182 R68 l0 l1 l2 l3 l4 hh
  · refine go_cmpneF (pc := 174) rfl hc ?_
    refine go_pi (pc := 177) rfl ?_
    refine go_goto (pc := 178) rfl ?_
    exact sX11_layGame_182 R68 l0 l1 l2 l3 l4 hh
def fX11_layGame_79b (n : Nat) (r68 : ai_H → Nat → Int32 → Int32 → Int32 → Int32 → Option (Unit × ai_H)) (r79 : ai_H → Nat → Int32 → Int32 → Int32 → Int32 → Int32 → Int32 → Option (Unit × ai_H)) (h : ai_H) (v0 : Nat) (v1 : Int32) (v2 : Int32) (v3 : Int32) (v4 : Int32) (v5 : Int32) (v6 : Int32) : Option (Unit × ai_H) :=
  (pI n h v0 11 82).bind fun x1 =>
  if x1 ≤ v6 then (
    (rI (v5 + v3) (2 : Int32)).bind fun x2 =>
    (pI n h v0 11 82).bind fun x3 =>
    if ¬ v5 = x3 then (
      (pR n h v0 11 83).bind fun x4 =>
      (fX11_winsBy n h v0 v4 x2).bind fun q5 =>
      if q5.1 < 0 then (
        fX11_layGame_171 n r68 q5.2 v0 v1 v2 v3 v4 x2 (0 : Int32) v4 x4)
      else (
        fX11_layGame_171 n r68 q5.2 v0 v1 v2 v3 v4 x2 (1 : Int32) v4 x4))
    else (
      (pR n h v0 11 83).bind fun x6 =>
      (fX11_isLed n h v0 v4 v1 v2).bind fun q7 =>
      (wB n q7.2 x6 v4 q7.1).bind fun h8 =>
      fX11_layGame_191 n r68 h8 v0 v1 v2 v3 v4))
  else (
    (fX11_digit n h v4 v6).bind fun q9 =>
    if q9.1 ≤ 0 then (
      fX11_layGame_105 n r68 r79 q9.2 v0 v1 v2 v3 v4 v6 (0 : Int32) v5)
    else (
      fX11_layGame_105 n r68 r79 q9.2 v0 v1 v2 v3 v4 v6 (1 : Int32) v5))
theorem sX11_layGame_79b {n : Nat} {r68 : ai_H → Nat → Int32 → Int32 → Int32 → Int32 → Option (Unit × ai_H)} {r79 : ai_H → Nat → Int32 → Int32 → Int32 → Int32 → Int32 → Int32 → Option (Unit × ai_H)} {q : Unit × ai_H} {h : ai_H} {v0 : Nat} {v1 : Int32} {v2 : Int32} {v3 : Int32} {v4 : Int32} {v5 : Int32} {v6 : Int32} {lv : ai_L} (R68 : ∀ (h : ai_H) (v0 : Nat) (v1 : Int32) (v2 : Int32) (v3 : Int32) (v4 : Int32) (lv : ai_L), ai_ld 0 lv = some (.ref v0) → ai_ld 1 lv = some (.int v1) → ai_ld 2 lv = some (.int v2) → ai_ld 3 lv = some (.int v3) → ai_ld 4 lv = some (.int v4) → r68 h v0 v1 v2 v3 v4 = some q → bi_go 2 tX11_layGame n (fV n q) 68 lv [] h) (R79 : ∀ (h : ai_H) (v0 : Nat) (v1 : Int32) (v2 : Int32) (v3 : Int32) (v4 : Int32) (v5 : Int32) (v6 : Int32) (lv : ai_L), ai_ld 0 lv = some (.ref v0) → ai_ld 1 lv = some (.int v1) → ai_ld 2 lv = some (.int v2) → ai_ld 3 lv = some (.int v3) → ai_ld 4 lv = some (.int v4) → ai_ld 5 lv = some (.int v5) → ai_ld 6 lv = some (.int v6) → r79 h v0 v1 v2 v3 v4 v5 v6 = some q → bi_go 2 tX11_layGame n (fV n q) 79 lv [] h) (l0 : ai_ld 0 lv = some (.ref v0)) (l1 : ai_ld 1 lv = some (.int v1)) (l2 : ai_ld 2 lv = some (.int v2)) (l3 : ai_ld 3 lv = some (.int v3)) (l4 : ai_ld 4 lv = some (.int v4)) (l5 : ai_ld 5 lv = some (.int v5)) (l6 : ai_ld 6 lv = some (.int v6)) (hh : fX11_layGame_79b n r68 r79 h v0 v1 v2 v3 v4 v5 v6 = some q) : bi_go 2 tX11_layGame n (fV n q) 79 lv [] h := by
  unfold fX11_layGame_79b at hh
  refine go_il (pc := 79) rfl l6 ?_
  refine go_al (pc := 81) rfl l0 ?_
  obtain ⟨x1, ex1, hh⟩ := bi_bd hh
  refine go_gfI (pc := 82) rfl ex1 ?_
  refine bi_ite hh (fun hc hh => ?_) (fun hc hh => ?_)
  · refine go_cmpgeT (pc := 85) rfl hc ?_
    refine go_il (pc := 114) rfl l5 ?_
    refine go_il (pc := 116) rfl l3 ?_
    refine go_iadd (pc := 117) rfl ?_
    refine go_pi (pc := 118) rfl ?_
    obtain ⟨x2, ex2, hh⟩ := bi_bd hh
    refine go_irem (pc := 119) rfl ex2 ?_
    refine go_is (pc := 120) rfl ?_
    refine go_il (pc := 122) rfl (bi_k1 l5 rfl rfl) ?_
    refine go_al (pc := 124) rfl (bi_k1 l0 rfl rfl) ?_
    obtain ⟨x3, ex3, hh⟩ := bi_bd hh
    refine go_gfI (pc := 125) rfl ex3 ?_
    refine bi_ite hh (fun hc hh => ?_) (fun hc hh => ?_)
    · refine go_cmpneT (pc := 128) rfl hc ?_
      refine go_al (pc := 149) rfl (bi_k1 l0 rfl rfl) ?_
      obtain ⟨x4, ex4, hh⟩ := bi_bd hh
      refine go_gfR (pc := 150) rfl ex4 ?_
      refine go_il (pc := 153) rfl (bi_k1 l4 rfl rfl) ?_
      refine go_al (pc := 155) rfl (bi_k1 l0 rfl rfl) ?_
      refine go_il (pc := 156) rfl (bi_k1 l4 rfl rfl) ?_
      refine go_il (pc := 158) rfl bi_e1 ?_
      obtain ⟨q5, eq5, hh⟩ := bi_bd hh
      refine go_ivI (pc := 160) rfl rfl (gX11_winsBy eq5) (Nat.le_of_ble_eq_true rfl) (bi_up (sX11_winsBy eq5) (Nat.le_of_ble_eq_true rfl)) ?_
      refine bi_ite hh (fun hc hh => ?_) (fun hc hh => ?_)
      · refine go_ifltT (pc := 163) rfl hc ?_
        refine go_pi (pc := 170) rfl ?_
        exact sX11_layGame_171 R68 (bi_k1 l0 rfl rfl) (bi_k1 l1 rfl rfl) (bi_k1 l2 rfl rfl) (bi_k1 l3 rfl rfl) (bi_k1 l4 rfl rfl) bi_e1 hh
      · refine go_ifltF (pc := 163) rfl hc ?_
        refine go_pi (pc := 166) rfl ?_
        refine go_goto (pc := 167) rfl ?_
        exact sX11_layGame_171 R68 (bi_k1 l0 rfl rfl) (bi_k1 l1 rfl rfl) (bi_k1 l2 rfl rfl) (bi_k1 l3 rfl rfl) (bi_k1 l4 rfl rfl) bi_e1 hh
    · refine go_cmpneF (pc := 128) rfl hc ?_
      refine go_al (pc := 131) rfl (bi_k1 l0 rfl rfl) ?_
      obtain ⟨x6, ex6, hh⟩ := bi_bd hh
      refine go_gfR (pc := 132) rfl ex6 ?_
      refine go_il (pc := 135) rfl (bi_k1 l4 rfl rfl) ?_
      refine go_al (pc := 137) rfl (bi_k1 l0 rfl rfl) ?_
      refine go_il (pc := 138) rfl (bi_k1 l4 rfl rfl) ?_
      refine go_il (pc := 140) rfl (bi_k1 l1 rfl rfl) ?_
      refine go_il (pc := 141) rfl (bi_k1 l2 rfl rfl) ?_
      obtain ⟨q7, eq7, hh⟩ := bi_bd hh
      refine go_ivI (pc := 142) rfl rfl (gX11_isLed eq7) (Nat.le_of_ble_eq_true rfl) (bi_up (sX11_isLed eq7) (Nat.le_of_ble_eq_true rfl)) ?_
      obtain ⟨h8, eh8, hh⟩ := bi_bd hh
      refine go_bast (pc := 145) rfl eh8 ?_
      refine go_goto (pc := 146) rfl ?_
      exact sX11_layGame_191 R68 (bi_k1 l0 rfl rfl) (bi_k1 l1 rfl rfl) (bi_k1 l2 rfl rfl) (bi_k1 l3 rfl rfl) (bi_k1 l4 rfl rfl) hh
  · refine go_cmpgeF (pc := 85) rfl hc ?_
    refine go_il (pc := 88) rfl l5 ?_
    refine go_il (pc := 90) rfl l4 ?_
    refine go_il (pc := 92) rfl l6 ?_
    obtain ⟨q9, eq9, hh⟩ := bi_bd hh
    refine go_iSI (pc := 94) rfl (Nat.le_of_ble_eq_true rfl) rfl (Nat.le_of_ble_eq_true rfl) (bi_up (sX11_digit eq9) (Nat.le_of_ble_eq_true rfl)) ?_
    refine bi_ite hh (fun hc hh => ?_) (fun hc hh => ?_)
    · refine go_ifleT (pc := 97) rfl hc ?_
      refine go_pi (pc := 104) rfl ?_
      exact sX11_layGame_105 R68 R79 l0 l1 l2 l3 l4 l6 hh
    · refine go_ifleF (pc := 97) rfl hc ?_
      refine go_pi (pc := 100) rfl ?_
      refine go_goto (pc := 101) rfl ?_
      exact sX11_layGame_105 R68 R79 l0 l1 l2 l3 l4 l6 hh
def fX11_layGame_79 (n : Nat) (r68 : ai_H → Nat → Int32 → Int32 → Int32 → Int32 → Option (Unit × ai_H)) : Nat → ai_H → Nat → Int32 → Int32 → Int32 → Int32 → Int32 → Int32 → Option (Unit × ai_H)
  | 0 => fun _ _ _ _ _ _ _ _ => none
  | k + 1 => fun h v0 v1 v2 v3 v4 v5 v6 => fX11_layGame_79b n r68 (fX11_layGame_79 n r68 k) h v0 v1 v2 v3 v4 v5 v6
theorem sX11_layGame_79 {n : Nat} {r68 : ai_H → Nat → Int32 → Int32 → Int32 → Int32 → Option (Unit × ai_H)} {q : Unit × ai_H} (R68 : ∀ (h : ai_H) (v0 : Nat) (v1 : Int32) (v2 : Int32) (v3 : Int32) (v4 : Int32) (lv : ai_L), ai_ld 0 lv = some (.ref v0) → ai_ld 1 lv = some (.int v1) → ai_ld 2 lv = some (.int v2) → ai_ld 3 lv = some (.int v3) → ai_ld 4 lv = some (.int v4) → r68 h v0 v1 v2 v3 v4 = some q → bi_go 2 tX11_layGame n (fV n q) 68 lv [] h) : ∀ (k : Nat) (h : ai_H) (v0 : Nat) (v1 : Int32) (v2 : Int32) (v3 : Int32) (v4 : Int32) (v5 : Int32) (v6 : Int32) (lv : ai_L), ai_ld 0 lv = some (.ref v0) → ai_ld 1 lv = some (.int v1) → ai_ld 2 lv = some (.int v2) → ai_ld 3 lv = some (.int v3) → ai_ld 4 lv = some (.int v4) → ai_ld 5 lv = some (.int v5) → ai_ld 6 lv = some (.int v6) → fX11_layGame_79 n r68 k h v0 v1 v2 v3 v4 v5 v6 = some q → bi_go 2 tX11_layGame n (fV n q) 79 lv [] h
  | 0 => fun _ _ _ _ _ _ _ _ _ _ _ _ _ _ _ _ hh => by cases hh
  | k + 1 => fun h v0 v1 v2 v3 v4 v5 v6 lv l0 l1 l2 l3 l4 l5 l6 hh => sX11_layGame_79b R68 (sX11_layGame_79 R68 k) l0 l1 l2 l3 l4 l5 l6 hh
def fX11_layGame_68b (n : Nat) (r68 : ai_H → Nat → Int32 → Int32 → Int32 → Int32 → Option (Unit × ai_H)) (h : ai_H) (v0 : Nat) (v1 : Int32) (v2 : Int32) (v3 : Int32) (v4 : Int32) : Option (Unit × ai_H) :=
  if v4 < 0 then (
    some ((), h))
  else (
    fX11_layGame_79 n r68 bi_K h v0 v1 v2 v3 v4 (0 : Int32) (0 : Int32))
theorem sX11_layGame_68b {n : Nat} {r68 : ai_H → Nat → Int32 → Int32 → Int32 → Int32 → Option (Unit × ai_H)} {q : Unit × ai_H} {h : ai_H} {v0 : Nat} {v1 : Int32} {v2 : Int32} {v3 : Int32} {v4 : Int32} {lv : ai_L} (R68 : ∀ (h : ai_H) (v0 : Nat) (v1 : Int32) (v2 : Int32) (v3 : Int32) (v4 : Int32) (lv : ai_L), ai_ld 0 lv = some (.ref v0) → ai_ld 1 lv = some (.int v1) → ai_ld 2 lv = some (.int v2) → ai_ld 3 lv = some (.int v3) → ai_ld 4 lv = some (.int v4) → r68 h v0 v1 v2 v3 v4 = some q → bi_go 2 tX11_layGame n (fV n q) 68 lv [] h) (l0 : ai_ld 0 lv = some (.ref v0)) (l1 : ai_ld 1 lv = some (.int v1)) (l2 : ai_ld 2 lv = some (.int v2)) (l3 : ai_ld 3 lv = some (.int v3)) (l4 : ai_ld 4 lv = some (.int v4)) (hh : fX11_layGame_68b n r68 h v0 v1 v2 v3 v4 = some q) : bi_go 2 tX11_layGame n (fV n q) 68 lv [] h := by
  unfold fX11_layGame_68b at hh
  refine go_il (pc := 68) rfl l4 ?_
  refine bi_ite hh (fun hc hh => ?_) (fun hc hh => ?_)
  · refine go_ifltT (pc := 70) rfl hc ?_
    exact go_rv (pc := 197) rfl hh
  · refine go_ifltF (pc := 70) rfl hc ?_
    refine go_pi (pc := 73) rfl ?_
    refine go_is (pc := 74) rfl ?_
    refine go_pi (pc := 76) rfl ?_
    refine go_is (pc := 77) rfl ?_
    exact sX11_layGame_79 R68 _ _ _ _ _ _ _ _ _ _ (bi_k1 (bi_k1 l0 rfl rfl) rfl rfl) (bi_k1 (bi_k1 l1 rfl rfl) rfl rfl) (bi_k1 (bi_k1 l2 rfl rfl) rfl rfl) (bi_k1 (bi_k1 l3 rfl rfl) rfl rfl) (bi_k1 (bi_k1 l4 rfl rfl) rfl rfl) (bi_k1 bi_e1 rfl rfl) bi_e1 hh
def fX11_layGame_68 (n : Nat) : Nat → ai_H → Nat → Int32 → Int32 → Int32 → Int32 → Option (Unit × ai_H)
  | 0 => fun _ _ _ _ _ _ => none
  | k + 1 => fun h v0 v1 v2 v3 v4 => fX11_layGame_68b n (fX11_layGame_68 n k) h v0 v1 v2 v3 v4
theorem sX11_layGame_68 {n : Nat} {q : Unit × ai_H} : ∀ (k : Nat) (h : ai_H) (v0 : Nat) (v1 : Int32) (v2 : Int32) (v3 : Int32) (v4 : Int32) (lv : ai_L), ai_ld 0 lv = some (.ref v0) → ai_ld 1 lv = some (.int v1) → ai_ld 2 lv = some (.int v2) → ai_ld 3 lv = some (.int v3) → ai_ld 4 lv = some (.int v4) → fX11_layGame_68 n k h v0 v1 v2 v3 v4 = some q → bi_go 2 tX11_layGame n (fV n q) 68 lv [] h
  | 0 => fun _ _ _ _ _ _ _ _ _ _ _ _ hh => by cases hh
  | k + 1 => fun h v0 v1 v2 v3 v4 lv l0 l1 l2 l3 l4 hh => sX11_layGame_68b  (sX11_layGame_68  k) l0 l1 l2 l3 l4 hh
def fX11_layGame_8b (n : Nat) (r8 : ai_H → Nat → Int32 → Int32 → Int32 → Int32 → Option (Unit × ai_H)) (h : ai_H) (v0 : Nat) (v1 : Int32) (v2 : Int32) (v3 : Int32) (v4 : Int32) : Option (Unit × ai_H) :=
  (pI n h v0 11 13).bind fun x1 =>
  if x1 ≤ v4 then (
    (pI n h v0 11 82).bind fun x2 =>
    (fX11_power n h x2).bind fun q3 =>
    fX11_layGame_68 n bi_K q3.2 v0 v1 v2 v3 (q3.1 - (1 : Int32)))
  else (
    (pR n h v0 11 63).bind fun x4 =>
    (gB n h x4 v4).bind fun x5 =>
    if ¬ x5 = 0 then (
      (pR n h v0 11 81).bind fun x6 =>
      (pI n h v0 11 82).bind fun x7 =>
      (wX 1 (fun x => x) n h x6 x7 v4).bind fun h8 =>
      (pI n h8 v0 11 82).bind fun x9 =>
      (sF n h8 v0 11 82 (.int) (.int (x9 + (1 : Int32)))).bind fun h10 =>
      fX11_layGame_51 n r8 h10 v0 v1 v2 v3 v4)
    else (
      fX11_layGame_51 n r8 h v0 v1 v2 v3 v4))
theorem sX11_layGame_8b {n : Nat} {r8 : ai_H → Nat → Int32 → Int32 → Int32 → Int32 → Option (Unit × ai_H)} {q : Unit × ai_H} {h : ai_H} {v0 : Nat} {v1 : Int32} {v2 : Int32} {v3 : Int32} {v4 : Int32} {lv : ai_L} (R8 : ∀ (h : ai_H) (v0 : Nat) (v1 : Int32) (v2 : Int32) (v3 : Int32) (v4 : Int32) (lv : ai_L), ai_ld 0 lv = some (.ref v0) → ai_ld 1 lv = some (.int v1) → ai_ld 2 lv = some (.int v2) → ai_ld 3 lv = some (.int v3) → ai_ld 4 lv = some (.int v4) → r8 h v0 v1 v2 v3 v4 = some q → bi_go 2 tX11_layGame n (fV n q) 8 lv [] h) (l0 : ai_ld 0 lv = some (.ref v0)) (l1 : ai_ld 1 lv = some (.int v1)) (l2 : ai_ld 2 lv = some (.int v2)) (l3 : ai_ld 3 lv = some (.int v3)) (l4 : ai_ld 4 lv = some (.int v4)) (hh : fX11_layGame_8b n r8 h v0 v1 v2 v3 v4 = some q) : bi_go 2 tX11_layGame n (fV n q) 8 lv [] h := by
  unfold fX11_layGame_8b at hh
  refine go_il (pc := 8) rfl l4 ?_
  refine go_al (pc := 10) rfl l0 ?_
  obtain ⟨x1, ex1, hh⟩ := bi_bd hh
  refine go_gfI (pc := 11) rfl ex1 ?_
  refine bi_ite hh (fun hc hh => ?_) (fun hc hh => ?_)
  · refine go_cmpgeT (pc := 14) rfl hc ?_
    refine go_al (pc := 57) rfl l0 ?_
    obtain ⟨x2, ex2, hh⟩ := bi_bd hh
    refine go_gfI (pc := 58) rfl ex2 ?_
    obtain ⟨q3, eq3, hh⟩ := bi_bd hh
    refine go_iSI (pc := 61) rfl (Nat.le_of_ble_eq_true rfl) rfl (Nat.le_of_ble_eq_true rfl) (bi_up (sX11_power eq3) (Nat.le_of_ble_eq_true rfl)) ?_
    refine go_pi (pc := 64) rfl ?_
    refine go_isub (pc := 65) rfl ?_
    refine go_is (pc := 66) rfl ?_
    exact sX11_layGame_68  _ _ _ _ _ _ _ _ (bi_k1 l0 rfl rfl) (bi_k1 l1 rfl rfl) (bi_k1 l2 rfl rfl) (bi_k1 l3 rfl rfl) bi_e1 hh
  · refine go_cmpgeF (pc := 14) rfl hc ?_
    refine go_al (pc := 17) rfl l0 ?_
    obtain ⟨x4, ex4, hh⟩ := bi_bd hh
    refine go_gfR (pc := 18) rfl ex4 ?_
    refine go_il (pc := 21) rfl l4 ?_
    obtain ⟨x5, ex5, hh⟩ := bi_bd hh
    refine go_bald (pc := 23) rfl ex5 ?_
    refine bi_ite hh (fun hc hh => ?_) (fun hc hh => ?_)
    · refine go_ifneT (pc := 24) rfl hc ?_
      refine go_al (pc := 30) rfl l0 ?_
      obtain ⟨x6, ex6, hh⟩ := bi_bd hh
      refine go_gfR (pc := 31) rfl ex6 ?_
      refine go_al (pc := 34) rfl l0 ?_
      obtain ⟨x7, ex7, hh⟩ := bi_bd hh
      refine go_gfI (pc := 35) rfl ex7 ?_
      refine go_il (pc := 38) rfl l4 ?_
      obtain ⟨h8, eh8, hh⟩ := bi_bd hh
      refine go_iast (pc := 40) rfl eh8 ?_
      refine go_al (pc := 41) rfl l0 ?_
      refine go_dup (pc := 42) rfl rfl ?_
      obtain ⟨x9, ex9, hh⟩ := bi_bd hh
      refine go_gfI (pc := 43) rfl ex9 ?_
      refine go_pi (pc := 46) rfl ?_
      refine go_iadd (pc := 47) rfl ?_
      obtain ⟨h10, eh10, hh⟩ := bi_bd hh
      refine go_pf (pc := 48) rfl eh10 ?_
      exact sX11_layGame_51 R8 l0 l1 l2 l3 l4 hh
    · refine go_ifneF (pc := 24) rfl hc ?_
      refine go_goto (pc := 27) rfl ?_
      exact sX11_layGame_51 R8 l0 l1 l2 l3 l4 hh
def fX11_layGame_8 (n : Nat) : Nat → ai_H → Nat → Int32 → Int32 → Int32 → Int32 → Option (Unit × ai_H)
  | 0 => fun _ _ _ _ _ _ => none
  | k + 1 => fun h v0 v1 v2 v3 v4 => fX11_layGame_8b n (fX11_layGame_8 n k) h v0 v1 v2 v3 v4
theorem sX11_layGame_8 {n : Nat} {q : Unit × ai_H} : ∀ (k : Nat) (h : ai_H) (v0 : Nat) (v1 : Int32) (v2 : Int32) (v3 : Int32) (v4 : Int32) (lv : ai_L), ai_ld 0 lv = some (.ref v0) → ai_ld 1 lv = some (.int v1) → ai_ld 2 lv = some (.int v2) → ai_ld 3 lv = some (.int v3) → ai_ld 4 lv = some (.int v4) → fX11_layGame_8 n k h v0 v1 v2 v3 v4 = some q → bi_go 2 tX11_layGame n (fV n q) 8 lv [] h
  | 0 => fun _ _ _ _ _ _ _ _ _ _ _ _ hh => by cases hh
  | k + 1 => fun h v0 v1 v2 v3 v4 lv l0 l1 l2 l3 l4 hh => sX11_layGame_8b  (sX11_layGame_8  k) l0 l1 l2 l3 l4 hh
def fX11_layGame (n : Nat) (h : ai_H) (a0 : Nat) (a1 : Int32) (a2 : Int32) (a3 : Int32) : Option (Unit × ai_H) :=
  (kO n h a0 11).bind fun _ =>
  (sF n h a0 11 82 (.int) (.int (0 : Int32))).bind fun h1 =>
  fX11_layGame_8 n bi_K h1 a0 a1 a2 a3 (0 : Int32)
theorem gX11_layGame {n : Nat} {h : ai_H} {a0 : Nat} {a1 : Int32} {a2 : Int32} {a3 : Int32} {q : Unit × ai_H} (hh : fX11_layGame n h a0 a1 a2 a3 = some q) : kO n h a0 11 = some () := by
  obtain ⟨_, e, -⟩ := bi_bd hh
  exact e
theorem sX11_layGame {n : Nat} {h : ai_H} {a0 : Nat} {a1 : Int32} {a2 : Int32} {a3 : Int32} {q : Unit × ai_H} (hh : fX11_layGame n h a0 a1 a2 a3 = some q) : bi_sp 3 237 [.ref a0, .int a1, .int a2, .int a3] h n (fV n q) := by
  refine bi_en (D := 2) (T := tX11_layGame) (funext fun pc => rfl) rfl (Nat.le_of_ble_eq_true rfl) ?_
  unfold fX11_layGame at hh
  obtain ⟨_, eO, hh⟩ := bi_bd hh
  refine go_al (pc := 0) rfl (rfl : ai_ld 0 (lv_args 0 [.ref a0, .int a1, .int a2, .int a3]) = some (.ref a0)) ?_
  refine go_pi (pc := 1) rfl ?_
  obtain ⟨h1, eh1, hh⟩ := bi_bd hh
  refine go_pf (pc := 2) rfl eh1 ?_
  refine go_pi (pc := 5) rfl ?_
  refine go_is (pc := 6) rfl ?_
  exact sX11_layGame_8  _ _ _ _ _ _ _ _ (bi_k1 (rfl : ai_ld 0 (lv_args 0 [.ref a0, .int a1, .int a2, .int a3]) = some (.ref a0)) rfl rfl) (bi_k1 (rfl : ai_ld 1 (lv_args 0 [.ref a0, .int a1, .int a2, .int a3]) = some (.int a1)) rfl rfl) (bi_k1 (rfl : ai_ld 2 (lv_args 0 [.ref a0, .int a1, .int a2, .int a3]) = some (.int a2)) rfl rfl) (bi_k1 (rfl : ai_ld 3 (lv_args 0 [.ref a0, .int a1, .int a2, .int a3]) = some (.int a3)) rfl rfl) bi_e1 hh
def fX11_game (n : Nat) (h : ai_H) (a0 : Nat) (a1 : Int32) (a2 : Int32) (a3 : Int32) (a4 : Int32) : Option (Int32 × ai_H) :=
  (kO n h a0 11).bind fun _ =>
  (sF n h a0 11 2 (.int) (.int (0 : Int32))).bind fun h1 =>
  (fX11_isPlace n h1 a0 a1).bind fun q2 =>
  if q2.1 = 0 then (
    some ((-1 : Int32), q2.2))
  else (
    (fX11_isPlace n q2.2 a0 a2).bind fun q3 =>
    if q3.1 = 0 then (
      some ((-1 : Int32), q3.2))
    else (
      if a1 = a2 then (
        some ((-1 : Int32), q3.2))
      else (
        (fX11_isIn n q3.2 a3 (0 : Int32) (1 : Int32)).bind fun q4 =>
        if q4.1 = 0 then (
          some ((-1 : Int32), q4.2))
        else (
          (fX11_isIn n q4.2 a4 (0 : Int32) (1 : Int32)).bind fun q5 =>
          if ¬ q5.1 = 0 then (
            (fX11_layGame n q5.2 a0 a1 a2 a3).bind fun q6 =>
            if ¬ a4 = 0 then (
              (fX11_winsBy n q6.2 a0 (0 : Int32) a3).bind fun q7 =>
              if 0 ≤ q7.1 then (
                (pR n q7.2 a0 11 81).bind fun x8 =>
                (gX 1 n q7.2 x8 q7.1).bind fun x9 =>
                some (x9, q7.2))
              else (
                some ((-2 : Int32), q7.2)))
            else (
              (pR n q6.2 a0 11 83).bind fun x10 =>
              (gB n q6.2 x10 (0 : Int32)).bind fun x11 =>
              if x11 = 0 then (
                some ((0 : Int32), q6.2))
              else (
                some ((1 : Int32), q6.2))))
          else (
            some ((-1 : Int32), q5.2))))))
theorem gX11_game {n : Nat} {h : ai_H} {a0 : Nat} {a1 : Int32} {a2 : Int32} {a3 : Int32} {a4 : Int32} {q : Int32 × ai_H} (hh : fX11_game n h a0 a1 a2 a3 a4 = some q) : kO n h a0 11 = some () := by
  obtain ⟨_, e, -⟩ := bi_bd hh
  exact e
theorem sX11_game {n : Nat} {h : ai_H} {a0 : Nat} {a1 : Int32} {a2 : Int32} {a3 : Int32} {a4 : Int32} {q : Int32 × ai_H} (hh : fX11_game n h a0 a1 a2 a3 a4 = some q) : bi_sp 4 238 [.ref a0, .int a1, .int a2, .int a3, .int a4] h n (fI n q) := by
  refine bi_en (D := 3) (T := tX11_game) (funext fun pc => rfl) rfl (Nat.le_of_ble_eq_true rfl) ?_
  unfold fX11_game at hh
  obtain ⟨_, eO, hh⟩ := bi_bd hh
  refine go_al (pc := 0) rfl (rfl : ai_ld 0 (lv_args 0 [.ref a0, .int a1, .int a2, .int a3, .int a4]) = some (.ref a0)) ?_
  refine go_pi (pc := 1) rfl ?_
  obtain ⟨h1, eh1, hh⟩ := bi_bd hh
  refine go_pf (pc := 2) rfl eh1 ?_
  refine go_al (pc := 5) rfl (rfl : ai_ld 0 (lv_args 0 [.ref a0, .int a1, .int a2, .int a3, .int a4]) = some (.ref a0)) ?_
  refine go_il (pc := 6) rfl (rfl : ai_ld 1 (lv_args 0 [.ref a0, .int a1, .int a2, .int a3, .int a4]) = some (.int a1)) ?_
  obtain ⟨q2, eq2, hh⟩ := bi_bd hh
  refine go_ivI (pc := 7) rfl rfl (gX11_isPlace eq2) (Nat.le_of_ble_eq_true rfl) (bi_up (sX11_isPlace eq2) (Nat.le_of_ble_eq_true rfl)) ?_
  refine bi_ite hh (fun hc hh => ?_) (fun hc hh => ?_)
  · refine go_ifeqT (pc := 10) rfl hc ?_
    refine go_pi (pc := 45) rfl ?_
    exact go_ri (pc := 46) rfl hh
  · refine go_ifeqF (pc := 10) rfl hc ?_
    refine go_al (pc := 13) rfl (rfl : ai_ld 0 (lv_args 0 [.ref a0, .int a1, .int a2, .int a3, .int a4]) = some (.ref a0)) ?_
    refine go_il (pc := 14) rfl (rfl : ai_ld 2 (lv_args 0 [.ref a0, .int a1, .int a2, .int a3, .int a4]) = some (.int a2)) ?_
    obtain ⟨q3, eq3, hh⟩ := bi_bd hh
    refine go_ivI (pc := 15) rfl rfl (gX11_isPlace eq3) (Nat.le_of_ble_eq_true rfl) (bi_up (sX11_isPlace eq3) (Nat.le_of_ble_eq_true rfl)) ?_
    refine bi_ite hh (fun hc hh => ?_) (fun hc hh => ?_)
    · refine go_ifeqT (pc := 18) rfl hc ?_
      refine go_pi (pc := 45) rfl ?_
      exact go_ri (pc := 46) rfl hh
    · refine go_ifeqF (pc := 18) rfl hc ?_
      refine go_il (pc := 21) rfl (rfl : ai_ld 1 (lv_args 0 [.ref a0, .int a1, .int a2, .int a3, .int a4]) = some (.int a1)) ?_
      refine go_il (pc := 22) rfl (rfl : ai_ld 2 (lv_args 0 [.ref a0, .int a1, .int a2, .int a3, .int a4]) = some (.int a2)) ?_
      refine bi_ite hh (fun hc hh => ?_) (fun hc hh => ?_)
      · refine go_cmpeqT (pc := 23) rfl hc ?_
        refine go_pi (pc := 45) rfl ?_
        exact go_ri (pc := 46) rfl hh
      · refine go_cmpeqF (pc := 23) rfl hc ?_
        refine go_il (pc := 26) rfl (rfl : ai_ld 3 (lv_args 0 [.ref a0, .int a1, .int a2, .int a3, .int a4]) = some (.int a3)) ?_
        refine go_pi (pc := 27) rfl ?_
        refine go_pi (pc := 28) rfl ?_
        obtain ⟨q4, eq4, hh⟩ := bi_bd hh
        refine go_iSI (pc := 29) rfl (Nat.le_of_ble_eq_true rfl) rfl (Nat.le_of_ble_eq_true rfl) (bi_up (sX11_isIn eq4) (Nat.le_of_ble_eq_true rfl)) ?_
        refine bi_ite hh (fun hc hh => ?_) (fun hc hh => ?_)
        · refine go_ifeqT (pc := 32) rfl hc ?_
          refine go_pi (pc := 45) rfl ?_
          exact go_ri (pc := 46) rfl hh
        · refine go_ifeqF (pc := 32) rfl hc ?_
          refine go_il (pc := 35) rfl (rfl : ai_ld 4 (lv_args 0 [.ref a0, .int a1, .int a2, .int a3, .int a4]) = some (.int a4)) ?_
          refine go_pi (pc := 37) rfl ?_
          refine go_pi (pc := 38) rfl ?_
          obtain ⟨q5, eq5, hh⟩ := bi_bd hh
          refine go_iSI (pc := 39) rfl (Nat.le_of_ble_eq_true rfl) rfl (Nat.le_of_ble_eq_true rfl) (bi_up (sX11_isIn eq5) (Nat.le_of_ble_eq_true rfl)) ?_
          refine bi_ite hh (fun hc hh => ?_) (fun hc hh => ?_)
          · refine go_ifneT (pc := 42) rfl hc ?_
            refine go_al (pc := 47) rfl (rfl : ai_ld 0 (lv_args 0 [.ref a0, .int a1, .int a2, .int a3, .int a4]) = some (.ref a0)) ?_
            refine go_il (pc := 48) rfl (rfl : ai_ld 1 (lv_args 0 [.ref a0, .int a1, .int a2, .int a3, .int a4]) = some (.int a1)) ?_
            refine go_il (pc := 49) rfl (rfl : ai_ld 2 (lv_args 0 [.ref a0, .int a1, .int a2, .int a3, .int a4]) = some (.int a2)) ?_
            refine go_il (pc := 50) rfl (rfl : ai_ld 3 (lv_args 0 [.ref a0, .int a1, .int a2, .int a3, .int a4]) = some (.int a3)) ?_
            obtain ⟨q6, eq6, hh⟩ := bi_bd hh
            refine go_ivV (pc := 51) rfl rfl (gX11_layGame eq6) (Nat.le_of_ble_eq_true rfl) (bi_up (sX11_layGame eq6) (Nat.le_of_ble_eq_true rfl)) ?_
            refine go_il (pc := 54) rfl (rfl : ai_ld 4 (lv_args 0 [.ref a0, .int a1, .int a2, .int a3, .int a4]) = some (.int a4)) ?_
            refine bi_ite hh (fun hc hh => ?_) (fun hc hh => ?_)
            · refine go_ifneT (pc := 56) rfl hc ?_
              refine go_al (pc := 74) rfl (rfl : ai_ld 0 (lv_args 0 [.ref a0, .int a1, .int a2, .int a3, .int a4]) = some (.ref a0)) ?_
              refine go_pi (pc := 75) rfl ?_
              refine go_il (pc := 76) rfl (rfl : ai_ld 3 (lv_args 0 [.ref a0, .int a1, .int a2, .int a3, .int a4]) = some (.int a3)) ?_
              obtain ⟨q7, eq7, hh⟩ := bi_bd hh
              refine go_ivI (pc := 77) rfl rfl (gX11_winsBy eq7) (Nat.le_of_ble_eq_true rfl) (bi_up (sX11_winsBy eq7) (Nat.le_of_ble_eq_true rfl)) ?_
              refine go_is (pc := 80) rfl ?_
              refine go_il (pc := 82) rfl bi_e1 ?_
              refine bi_ite hh (fun hc hh => ?_) (fun hc hh => ?_)
              · refine go_ifgeT (pc := 84) rfl hc ?_
                refine go_al (pc := 92) rfl (bi_k1 (rfl : ai_ld 0 (lv_args 0 [.ref a0, .int a1, .int a2, .int a3, .int a4]) = some (.ref a0)) rfl rfl) ?_
                obtain ⟨x8, ex8, hh⟩ := bi_bd hh
                refine go_gfR (pc := 93) rfl ex8 ?_
                refine go_il (pc := 96) rfl bi_e1 ?_
                obtain ⟨x9, ex9, hh⟩ := bi_bd hh
                refine go_iald (pc := 98) rfl ex9 ?_
                exact go_ri (pc := 99) rfl hh
              · refine go_ifgeF (pc := 84) rfl hc ?_
                refine go_pi (pc := 87) rfl ?_
                refine go_goto (pc := 89) rfl ?_
                exact go_ri (pc := 99) rfl hh
            · refine go_ifneF (pc := 56) rfl hc ?_
              refine go_al (pc := 59) rfl (rfl : ai_ld 0 (lv_args 0 [.ref a0, .int a1, .int a2, .int a3, .int a4]) = some (.ref a0)) ?_
              obtain ⟨x10, ex10, hh⟩ := bi_bd hh
              refine go_gfR (pc := 60) rfl ex10 ?_
              refine go_pi (pc := 63) rfl ?_
              obtain ⟨x11, ex11, hh⟩ := bi_bd hh
              refine go_bald (pc := 64) rfl ex11 ?_
              refine bi_ite hh (fun hc hh => ?_) (fun hc hh => ?_)
              · refine go_ifeqT (pc := 65) rfl hc ?_
                refine go_pi (pc := 72) rfl ?_
                exact go_ri (pc := 73) rfl hh
              · refine go_ifeqF (pc := 65) rfl hc ?_
                refine go_pi (pc := 68) rfl ?_
                refine go_goto (pc := 69) rfl ?_
                exact go_ri (pc := 73) rfl hh
          · refine go_ifneF (pc := 42) rfl hc ?_
            refine go_pi (pc := 45) rfl ?_
            exact go_ri (pc := 46) rfl hh
def fX11_hasBy (n : Nat) (h : ai_H) (a0 : Nat) (a1 : Int32) (a2 : Int32) (a3 : Int32) : Option (Int32 × ai_H) :=
  (kO n h a0 11).bind fun _ =>
  if ¬ a2 = 0 then (
    if ¬ a3 = 0 then (
      some ((0 : Int32), h))
    else (
      (pR n h a0 11 35).bind fun x1 =>
      (gX 1 n h x1 a1).bind fun x2 =>
      some (x2 + (3 : Int32), h)))
  else (
    if ¬ a3 = 0 then (
      (pR n h a0 11 35).bind fun x3 =>
      (gX 1 n h x3 a1).bind fun x4 =>
      some (x4 - (2 : Int32), h))
    else (
      (pR n h a0 11 35).bind fun x5 =>
      (gX 1 n h x5 a1).bind fun x6 =>
      some (x6, h)))
theorem gX11_hasBy {n : Nat} {h : ai_H} {a0 : Nat} {a1 : Int32} {a2 : Int32} {a3 : Int32} {q : Int32 × ai_H} (hh : fX11_hasBy n h a0 a1 a2 a3 = some q) : kO n h a0 11 = some () := by
  obtain ⟨_, e, -⟩ := bi_bd hh
  exact e
theorem sX11_hasBy {n : Nat} {h : ai_H} {a0 : Nat} {a1 : Int32} {a2 : Int32} {a3 : Int32} {q : Int32 × ai_H} (hh : fX11_hasBy n h a0 a1 a2 a3 = some q) : bi_sp 1 239 [.ref a0, .int a1, .int a2, .int a3] h n (fI n q) := by
  refine bi_en (D := 0) (T := tX11_hasBy) (funext fun pc => rfl) rfl (Nat.le_of_ble_eq_true rfl) ?_
  unfold fX11_hasBy at hh
  obtain ⟨_, eO, hh⟩ := bi_bd hh
  refine go_il (pc := 0) rfl (rfl : ai_ld 2 (lv_args 0 [.ref a0, .int a1, .int a2, .int a3]) = some (.int a2)) ?_
  refine bi_ite hh (fun hc hh => ?_) (fun hc hh => ?_)
  · refine go_ifneT (pc := 1) rfl hc ?_
    refine go_il (pc := 26) rfl (rfl : ai_ld 3 (lv_args 0 [.ref a0, .int a1, .int a2, .int a3]) = some (.int a3)) ?_
    refine bi_ite hh (fun hc hh => ?_) (fun hc hh => ?_)
    · refine go_ifneT (pc := 27) rfl hc ?_
      refine go_pi (pc := 41) rfl ?_
      exact go_ri (pc := 42) rfl hh
    · refine go_ifneF (pc := 27) rfl hc ?_
      refine go_al (pc := 30) rfl (rfl : ai_ld 0 (lv_args 0 [.ref a0, .int a1, .int a2, .int a3]) = some (.ref a0)) ?_
      obtain ⟨x1, ex1, hh⟩ := bi_bd hh
      refine go_gfR (pc := 31) rfl ex1 ?_
      refine go_il (pc := 34) rfl (rfl : ai_ld 1 (lv_args 0 [.ref a0, .int a1, .int a2, .int a3]) = some (.int a1)) ?_
      obtain ⟨x2, ex2, hh⟩ := bi_bd hh
      refine go_iald (pc := 35) rfl ex2 ?_
      refine go_pi (pc := 36) rfl ?_
      refine go_iadd (pc := 37) rfl ?_
      refine go_goto (pc := 38) rfl ?_
      exact go_ri (pc := 42) rfl hh
  · refine go_ifneF (pc := 1) rfl hc ?_
    refine go_il (pc := 4) rfl (rfl : ai_ld 3 (lv_args 0 [.ref a0, .int a1, .int a2, .int a3]) = some (.int a3)) ?_
    refine bi_ite hh (fun hc hh => ?_) (fun hc hh => ?_)
    · refine go_ifneT (pc := 5) rfl hc ?_
      refine go_al (pc := 17) rfl (rfl : ai_ld 0 (lv_args 0 [.ref a0, .int a1, .int a2, .int a3]) = some (.ref a0)) ?_
      obtain ⟨x3, ex3, hh⟩ := bi_bd hh
      refine go_gfR (pc := 18) rfl ex3 ?_
      refine go_il (pc := 21) rfl (rfl : ai_ld 1 (lv_args 0 [.ref a0, .int a1, .int a2, .int a3]) = some (.int a1)) ?_
      obtain ⟨x4, ex4, hh⟩ := bi_bd hh
      refine go_iald (pc := 22) rfl ex4 ?_
      refine go_pi (pc := 23) rfl ?_
      refine go_isub (pc := 24) rfl ?_
      exact go_ri (pc := 25) rfl hh
    · refine go_ifneF (pc := 5) rfl hc ?_
      refine go_al (pc := 8) rfl (rfl : ai_ld 0 (lv_args 0 [.ref a0, .int a1, .int a2, .int a3]) = some (.ref a0)) ?_
      obtain ⟨x5, ex5, hh⟩ := bi_bd hh
      refine go_gfR (pc := 9) rfl ex5 ?_
      refine go_il (pc := 12) rfl (rfl : ai_ld 1 (lv_args 0 [.ref a0, .int a1, .int a2, .int a3]) = some (.int a1)) ?_
      obtain ⟨x6, ex6, hh⟩ := bi_bd hh
      refine go_iald (pc := 13) rfl ex6 ?_
      refine go_goto (pc := 14) rfl ?_
      exact go_ri (pc := 25) rfl hh
def fX11_restAt_91 (n : Nat) (r6 : ai_H → Nat → Int32 → Int32 → Int32 → Int32 → Int32 → Option (Int32 × ai_H)) (h : ai_H) (v0 : Nat) (v1 : Int32) (v2 : Int32) (v3 : Int32) (v4 : Int32) (v5 : Int32) : Option (Int32 × ai_H) :=
  r6 h v0 v1 v2 v3 v4 (v5 + 1)
theorem sX11_restAt_91 {n : Nat} {r6 : ai_H → Nat → Int32 → Int32 → Int32 → Int32 → Int32 → Option (Int32 × ai_H)} {q : Int32 × ai_H} {h : ai_H} {v0 : Nat} {v1 : Int32} {v2 : Int32} {v3 : Int32} {v4 : Int32} {v5 : Int32} {lv : ai_L} (R6 : ∀ (h : ai_H) (v0 : Nat) (v1 : Int32) (v2 : Int32) (v3 : Int32) (v4 : Int32) (v5 : Int32) (lv : ai_L), ai_ld 0 lv = some (.ref v0) → ai_ld 1 lv = some (.int v1) → ai_ld 2 lv = some (.int v2) → ai_ld 3 lv = some (.int v3) → ai_ld 4 lv = some (.int v4) → ai_ld 5 lv = some (.int v5) → r6 h v0 v1 v2 v3 v4 v5 = some q → bi_go 1 tX11_restAt n (fI n q) 6 lv [] h) (l0 : ai_ld 0 lv = some (.ref v0)) (l1 : ai_ld 1 lv = some (.int v1)) (l2 : ai_ld 2 lv = some (.int v2)) (l3 : ai_ld 3 lv = some (.int v3)) (l4 : ai_ld 4 lv = some (.int v4)) (l5 : ai_ld 5 lv = some (.int v5)) (hh : fX11_restAt_91 n r6 h v0 v1 v2 v3 v4 v5 = some q) : bi_go 1 tX11_restAt n (fI n q) 91 lv [] h := by
  unfold fX11_restAt_91 at hh
  refine go_inc (pc := 91) rfl l5 ?_
  refine go_goto (pc := 94) rfl ?_
  exact R6 _ _ _ _ _ _ _ _ (bi_k1 l0 rfl rfl) (bi_k1 l1 rfl rfl) (bi_k1 l2 rfl rfl) (bi_k1 l3 rfl rfl) (bi_k1 l4 rfl rfl) bi_e1 hh
def fX11_restAt_6b (n : Nat) (r6 : ai_H → Nat → Int32 → Int32 → Int32 → Int32 → Int32 → Option (Int32 × ai_H)) (h : ai_H) (v0 : Nat) (v1 : Int32) (v2 : Int32) (v3 : Int32) (v4 : Int32) (v5 : Int32) : Option (Int32 × ai_H) :=
  if (4 : Int32) ≤ v5 then (
    if 0 ≤ v3 then (
      some ((-2 : Int32), h))
    else (
      some (v4, h)))
  else (
    (dI v5 (2 : Int32)).bind fun x1 =>
    (rI v5 (2 : Int32)).bind fun x2 =>
    (fX11_hasBy n h v0 v1 ((1 : Int32) - x1) x2).bind fun q3 =>
    (fX11_hasBy n q3.2 v0 v1 x1 x2).bind fun q4 =>
    if q4.1 < q3.1 then (
      fX11_restAt_91 n r6 q4.2 v0 v1 v2 v3 v4 v5)
    else (
      (fX11_hasBy n q4.2 v0 v2 ((1 : Int32) - x2) x1).bind fun q5 =>
      (fX11_hasBy n q5.2 v0 v2 x2 x1).bind fun q6 =>
      if q5.1 ≤ q6.1 then (
        if ¬ v4 = v3 then (
          fX11_restAt_91 n r6 q6.2 v0 v1 v2 v3 (v4 + 1) v5)
        else (
          some (((10 : Int32) * x1) + x2, q6.2)))
      else (
        fX11_restAt_91 n r6 q6.2 v0 v1 v2 v3 v4 v5)))
theorem sX11_restAt_6b {n : Nat} {r6 : ai_H → Nat → Int32 → Int32 → Int32 → Int32 → Int32 → Option (Int32 × ai_H)} {q : Int32 × ai_H} {h : ai_H} {v0 : Nat} {v1 : Int32} {v2 : Int32} {v3 : Int32} {v4 : Int32} {v5 : Int32} {lv : ai_L} (R6 : ∀ (h : ai_H) (v0 : Nat) (v1 : Int32) (v2 : Int32) (v3 : Int32) (v4 : Int32) (v5 : Int32) (lv : ai_L), ai_ld 0 lv = some (.ref v0) → ai_ld 1 lv = some (.int v1) → ai_ld 2 lv = some (.int v2) → ai_ld 3 lv = some (.int v3) → ai_ld 4 lv = some (.int v4) → ai_ld 5 lv = some (.int v5) → r6 h v0 v1 v2 v3 v4 v5 = some q → bi_go 1 tX11_restAt n (fI n q) 6 lv [] h) (l0 : ai_ld 0 lv = some (.ref v0)) (l1 : ai_ld 1 lv = some (.int v1)) (l2 : ai_ld 2 lv = some (.int v2)) (l3 : ai_ld 3 lv = some (.int v3)) (l4 : ai_ld 4 lv = some (.int v4)) (l5 : ai_ld 5 lv = some (.int v5)) (hh : fX11_restAt_6b n r6 h v0 v1 v2 v3 v4 v5 = some q) : bi_go 1 tX11_restAt n (fI n q) 6 lv [] h := by
  unfold fX11_restAt_6b at hh
  refine go_il (pc := 6) rfl l5 ?_
  refine go_pi (pc := 8) rfl ?_
  refine bi_ite hh (fun hc hh => ?_) (fun hc hh => ?_)
  · refine go_cmpgeT (pc := 9) rfl hc ?_
    refine go_il (pc := 97) rfl l3 ?_
    refine bi_ite hh (fun hc hh => ?_) (fun hc hh => ?_)
    · refine go_ifgeT (pc := 98) rfl hc ?_
      refine go_pi (pc := 106) rfl ?_
      exact go_ri (pc := 108) rfl hh
    · refine go_ifgeF (pc := 98) rfl hc ?_
      refine go_il (pc := 101) rfl l4 ?_
      refine go_goto (pc := 103) rfl ?_
      exact go_ri (pc := 108) rfl hh
  · refine go_cmpgeF (pc := 9) rfl hc ?_
    refine go_il (pc := 12) rfl l5 ?_
    refine go_pi (pc := 14) rfl ?_
    obtain ⟨x1, ex1, hh⟩ := bi_bd hh
    refine go_idiv (pc := 15) rfl ex1 ?_
    refine go_is (pc := 16) rfl ?_
    refine go_il (pc := 18) rfl (bi_k1 l5 rfl rfl) ?_
    refine go_pi (pc := 20) rfl ?_
    obtain ⟨x2, ex2, hh⟩ := bi_bd hh
    refine go_irem (pc := 21) rfl ex2 ?_
    refine go_is (pc := 22) rfl ?_
    refine go_al (pc := 24) rfl (bi_k1 (bi_k1 l0 rfl rfl) rfl rfl) ?_
    refine go_il (pc := 25) rfl (bi_k1 (bi_k1 l1 rfl rfl) rfl rfl) ?_
    refine go_pi (pc := 26) rfl ?_
    refine go_il (pc := 27) rfl (bi_k1 bi_e1 rfl rfl) ?_
    refine go_isub (pc := 29) rfl ?_
    refine go_il (pc := 30) rfl bi_e1 ?_
    obtain ⟨q3, eq3, hh⟩ := bi_bd hh
    refine go_ivI (pc := 32) rfl rfl (gX11_hasBy eq3) (Nat.le_of_ble_eq_true rfl) (bi_up (sX11_hasBy eq3) (Nat.le_of_ble_eq_true rfl)) ?_
    refine go_al (pc := 35) rfl (bi_k1 (bi_k1 l0 rfl rfl) rfl rfl) ?_
    refine go_il (pc := 36) rfl (bi_k1 (bi_k1 l1 rfl rfl) rfl rfl) ?_
    refine go_il (pc := 37) rfl (bi_k1 bi_e1 rfl rfl) ?_
    refine go_il (pc := 39) rfl bi_e1 ?_
    obtain ⟨q4, eq4, hh⟩ := bi_bd hh
    refine go_ivI (pc := 41) rfl rfl (gX11_hasBy eq4) (Nat.le_of_ble_eq_true rfl) (bi_up (sX11_hasBy eq4) (Nat.le_of_ble_eq_true rfl)) ?_
    refine bi_ite hh (fun hc hh => ?_) (fun hc hh => ?_)
    · refine go_cmpgtT (pc := 44) rfl hc ?_
      exact sX11_restAt_91 R6 (bi_k1 (bi_k1 l0 rfl rfl) rfl rfl) (bi_k1 (bi_k1 l1 rfl rfl) rfl rfl) (bi_k1 (bi_k1 l2 rfl rfl) rfl rfl) (bi_k1 (bi_k1 l3 rfl rfl) rfl rfl) (bi_k1 (bi_k1 l4 rfl rfl) rfl rfl) (bi_k1 (bi_k1 l5 rfl rfl) rfl rfl) hh
    · refine go_cmpgtF (pc := 44) rfl hc ?_
      refine go_al (pc := 47) rfl (bi_k1 (bi_k1 l0 rfl rfl) rfl rfl) ?_
      refine go_il (pc := 48) rfl (bi_k1 (bi_k1 l2 rfl rfl) rfl rfl) ?_
      refine go_pi (pc := 49) rfl ?_
      refine go_il (pc := 50) rfl bi_e1 ?_
      refine go_isub (pc := 52) rfl ?_
      refine go_il (pc := 53) rfl (bi_k1 bi_e1 rfl rfl) ?_
      obtain ⟨q5, eq5, hh⟩ := bi_bd hh
      refine go_ivI (pc := 55) rfl rfl (gX11_hasBy eq5) (Nat.le_of_ble_eq_true rfl) (bi_up (sX11_hasBy eq5) (Nat.le_of_ble_eq_true rfl)) ?_
      refine go_al (pc := 58) rfl (bi_k1 (bi_k1 l0 rfl rfl) rfl rfl) ?_
      refine go_il (pc := 59) rfl (bi_k1 (bi_k1 l2 rfl rfl) rfl rfl) ?_
      refine go_il (pc := 60) rfl bi_e1 ?_
      refine go_il (pc := 62) rfl (bi_k1 bi_e1 rfl rfl) ?_
      obtain ⟨q6, eq6, hh⟩ := bi_bd hh
      refine go_ivI (pc := 64) rfl rfl (gX11_hasBy eq6) (Nat.le_of_ble_eq_true rfl) (bi_up (sX11_hasBy eq6) (Nat.le_of_ble_eq_true rfl)) ?_
      refine bi_ite hh (fun hc hh => ?_) (fun hc hh => ?_)
      · refine go_cmpleT (pc := 67) rfl hc ?_
        refine go_il (pc := 73) rfl (bi_k1 (bi_k1 l4 rfl rfl) rfl rfl) ?_
        refine go_il (pc := 75) rfl (bi_k1 (bi_k1 l3 rfl rfl) rfl rfl) ?_
        refine bi_ite hh (fun hc hh => ?_) (fun hc hh => ?_)
        · refine go_cmpneT (pc := 76) rfl hc ?_
          refine go_inc (pc := 88) rfl (bi_k1 (bi_k1 l4 rfl rfl) rfl rfl) ?_
          exact sX11_restAt_91 R6 (bi_k1 (bi_k1 (bi_k1 l0 rfl rfl) rfl rfl) rfl rfl) (bi_k1 (bi_k1 (bi_k1 l1 rfl rfl) rfl rfl) rfl rfl) (bi_k1 (bi_k1 (bi_k1 l2 rfl rfl) rfl rfl) rfl rfl) (bi_k1 (bi_k1 (bi_k1 l3 rfl rfl) rfl rfl) rfl rfl) bi_e1 (bi_k1 (bi_k1 (bi_k1 l5 rfl rfl) rfl rfl) rfl rfl) hh
        · refine go_cmpneF (pc := 76) rfl hc ?_
          refine go_pi (pc := 79) rfl ?_
          refine go_il (pc := 81) rfl (bi_k1 bi_e1 rfl rfl) ?_
          refine go_imul (pc := 83) rfl ?_
          refine go_il (pc := 84) rfl bi_e1 ?_
          refine go_iadd (pc := 86) rfl ?_
          exact go_ri (pc := 87) rfl hh
      · refine go_cmpleF (pc := 67) rfl hc ?_
        refine go_goto (pc := 70) rfl ?_
        exact sX11_restAt_91 R6 (bi_k1 (bi_k1 l0 rfl rfl) rfl rfl) (bi_k1 (bi_k1 l1 rfl rfl) rfl rfl) (bi_k1 (bi_k1 l2 rfl rfl) rfl rfl) (bi_k1 (bi_k1 l3 rfl rfl) rfl rfl) (bi_k1 (bi_k1 l4 rfl rfl) rfl rfl) (bi_k1 (bi_k1 l5 rfl rfl) rfl rfl) hh
def fX11_restAt_6 (n : Nat) : Nat → ai_H → Nat → Int32 → Int32 → Int32 → Int32 → Int32 → Option (Int32 × ai_H)
  | 0 => fun _ _ _ _ _ _ _ => none
  | k + 1 => fun h v0 v1 v2 v3 v4 v5 => fX11_restAt_6b n (fX11_restAt_6 n k) h v0 v1 v2 v3 v4 v5
theorem sX11_restAt_6 {n : Nat} {q : Int32 × ai_H} : ∀ (k : Nat) (h : ai_H) (v0 : Nat) (v1 : Int32) (v2 : Int32) (v3 : Int32) (v4 : Int32) (v5 : Int32) (lv : ai_L), ai_ld 0 lv = some (.ref v0) → ai_ld 1 lv = some (.int v1) → ai_ld 2 lv = some (.int v2) → ai_ld 3 lv = some (.int v3) → ai_ld 4 lv = some (.int v4) → ai_ld 5 lv = some (.int v5) → fX11_restAt_6 n k h v0 v1 v2 v3 v4 v5 = some q → bi_go 1 tX11_restAt n (fI n q) 6 lv [] h
  | 0 => fun _ _ _ _ _ _ _ _ _ _ _ _ _ _ hh => by cases hh
  | k + 1 => fun h v0 v1 v2 v3 v4 v5 lv l0 l1 l2 l3 l4 l5 hh => sX11_restAt_6b  (sX11_restAt_6  k) l0 l1 l2 l3 l4 l5 hh
def fX11_restAt (n : Nat) (h : ai_H) (a0 : Nat) (a1 : Int32) (a2 : Int32) (a3 : Int32) : Option (Int32 × ai_H) :=
  (kO n h a0 11).bind fun _ =>
  fX11_restAt_6 n bi_K h a0 a1 a2 a3 (0 : Int32) (0 : Int32)
theorem gX11_restAt {n : Nat} {h : ai_H} {a0 : Nat} {a1 : Int32} {a2 : Int32} {a3 : Int32} {q : Int32 × ai_H} (hh : fX11_restAt n h a0 a1 a2 a3 = some q) : kO n h a0 11 = some () := by
  obtain ⟨_, e, -⟩ := bi_bd hh
  exact e
theorem sX11_restAt {n : Nat} {h : ai_H} {a0 : Nat} {a1 : Int32} {a2 : Int32} {a3 : Int32} {q : Int32 × ai_H} (hh : fX11_restAt n h a0 a1 a2 a3 = some q) : bi_sp 2 240 [.ref a0, .int a1, .int a2, .int a3] h n (fI n q) := by
  refine bi_en (D := 1) (T := tX11_restAt) (funext fun pc => rfl) rfl (Nat.le_of_ble_eq_true rfl) ?_
  unfold fX11_restAt at hh
  obtain ⟨_, eO, hh⟩ := bi_bd hh
  refine go_pi (pc := 0) rfl ?_
  refine go_is (pc := 1) rfl ?_
  refine go_pi (pc := 3) rfl ?_
  refine go_is (pc := 4) rfl ?_
  exact sX11_restAt_6  _ _ _ _ _ _ _ _ _ (bi_k1 (bi_k1 (rfl : ai_ld 0 (lv_args 0 [.ref a0, .int a1, .int a2, .int a3]) = some (.ref a0)) rfl rfl) rfl rfl) (bi_k1 (bi_k1 (rfl : ai_ld 1 (lv_args 0 [.ref a0, .int a1, .int a2, .int a3]) = some (.int a1)) rfl rfl) rfl rfl) (bi_k1 (bi_k1 (rfl : ai_ld 2 (lv_args 0 [.ref a0, .int a1, .int a2, .int a3]) = some (.int a2)) rfl rfl) rfl rfl) (bi_k1 (bi_k1 (rfl : ai_ld 3 (lv_args 0 [.ref a0, .int a1, .int a2, .int a3]) = some (.int a3)) rfl rfl) rfl rfl) (bi_k1 bi_e1 rfl rfl) bi_e1 hh
def fX11_areTwo (n : Nat) (h : ai_H) (a0 : Nat) (a1 : Int32) (a2 : Int32) : Option (Int32 × ai_H) :=
  (kO n h a0 11).bind fun _ =>
  (fX11_isWalker n h a0 a1).bind fun q1 =>
  if q1.1 = 0 then (
    some ((0 : Int32), q1.2))
  else (
    (fX11_isWalker n q1.2 a0 a2).bind fun q2 =>
    if q2.1 = 0 then (
      some ((0 : Int32), q2.2))
    else (
      if a1 = a2 then (
        some ((0 : Int32), q2.2))
      else (
        some ((1 : Int32), q2.2))))
theorem gX11_areTwo {n : Nat} {h : ai_H} {a0 : Nat} {a1 : Int32} {a2 : Int32} {q : Int32 × ai_H} (hh : fX11_areTwo n h a0 a1 a2 = some q) : kO n h a0 11 = some () := by
  obtain ⟨_, e, -⟩ := bi_bd hh
  exact e
theorem sX11_areTwo {n : Nat} {h : ai_H} {a0 : Nat} {a1 : Int32} {a2 : Int32} {q : Int32 × ai_H} (hh : fX11_areTwo n h a0 a1 a2 = some q) : bi_sp 2 241 [.ref a0, .int a1, .int a2] h n (fI n q) := by
  refine bi_en (D := 1) (T := tX11_areTwo) (funext fun pc => rfl) rfl (Nat.le_of_ble_eq_true rfl) ?_
  unfold fX11_areTwo at hh
  obtain ⟨_, eO, hh⟩ := bi_bd hh
  refine go_al (pc := 0) rfl (rfl : ai_ld 0 (lv_args 0 [.ref a0, .int a1, .int a2]) = some (.ref a0)) ?_
  refine go_il (pc := 1) rfl (rfl : ai_ld 1 (lv_args 0 [.ref a0, .int a1, .int a2]) = some (.int a1)) ?_
  obtain ⟨q1, eq1, hh⟩ := bi_bd hh
  refine go_ivI (pc := 2) rfl rfl (gX11_isWalker eq1) (Nat.le_of_ble_eq_true rfl) (bi_up (sX11_isWalker eq1) (Nat.le_of_ble_eq_true rfl)) ?_
  refine bi_ite hh (fun hc hh => ?_) (fun hc hh => ?_)
  · refine go_ifeqT (pc := 5) rfl hc ?_
    refine go_pi (pc := 25) rfl ?_
    exact go_rz (pc := 26) rfl bi_z0 hh
  · refine go_ifeqF (pc := 5) rfl hc ?_
    refine go_al (pc := 8) rfl (rfl : ai_ld 0 (lv_args 0 [.ref a0, .int a1, .int a2]) = some (.ref a0)) ?_
    refine go_il (pc := 9) rfl (rfl : ai_ld 2 (lv_args 0 [.ref a0, .int a1, .int a2]) = some (.int a2)) ?_
    obtain ⟨q2, eq2, hh⟩ := bi_bd hh
    refine go_ivI (pc := 10) rfl rfl (gX11_isWalker eq2) (Nat.le_of_ble_eq_true rfl) (bi_up (sX11_isWalker eq2) (Nat.le_of_ble_eq_true rfl)) ?_
    refine bi_ite hh (fun hc hh => ?_) (fun hc hh => ?_)
    · refine go_ifeqT (pc := 13) rfl hc ?_
      refine go_pi (pc := 25) rfl ?_
      exact go_rz (pc := 26) rfl bi_z0 hh
    · refine go_ifeqF (pc := 13) rfl hc ?_
      refine go_il (pc := 16) rfl (rfl : ai_ld 1 (lv_args 0 [.ref a0, .int a1, .int a2]) = some (.int a1)) ?_
      refine go_il (pc := 17) rfl (rfl : ai_ld 2 (lv_args 0 [.ref a0, .int a1, .int a2]) = some (.int a2)) ?_
      refine bi_ite hh (fun hc hh => ?_) (fun hc hh => ?_)
      · refine go_cmpeqT (pc := 18) rfl hc ?_
        refine go_pi (pc := 25) rfl ?_
        exact go_rz (pc := 26) rfl bi_z0 hh
      · refine go_cmpeqF (pc := 18) rfl hc ?_
        refine go_pi (pc := 21) rfl ?_
        refine go_goto (pc := 22) rfl ?_
        exact go_rz (pc := 26) rfl bi_z1 hh
def fX11_rests (n : Nat) (h : ai_H) (a0 : Nat) (a1 : Int32) (a2 : Int32) : Option (Int32 × ai_H) :=
  (kO n h a0 11).bind fun _ =>
  (sF n h a0 11 2 (.int) (.int (0 : Int32))).bind fun h1 =>
  (fX11_areTwo n h1 a0 a1 a2).bind fun q2 =>
  if q2.1 = 0 then (
    some ((-1 : Int32), q2.2))
  else (
    (fX11_restAt n q2.2 a0 a1 a2 (-1 : Int32)).bind fun q3 =>
    some (q3.1, q3.2))
theorem gX11_rests {n : Nat} {h : ai_H} {a0 : Nat} {a1 : Int32} {a2 : Int32} {q : Int32 × ai_H} (hh : fX11_rests n h a0 a1 a2 = some q) : kO n h a0 11 = some () := by
  obtain ⟨_, e, -⟩ := bi_bd hh
  exact e
theorem sX11_rests {n : Nat} {h : ai_H} {a0 : Nat} {a1 : Int32} {a2 : Int32} {q : Int32 × ai_H} (hh : fX11_rests n h a0 a1 a2 = some q) : bi_sp 3 242 [.ref a0, .int a1, .int a2] h n (fI n q) := by
  refine bi_en (D := 2) (T := tX11_rests) (funext fun pc => rfl) rfl (Nat.le_of_ble_eq_true rfl) ?_
  unfold fX11_rests at hh
  obtain ⟨_, eO, hh⟩ := bi_bd hh
  refine go_al (pc := 0) rfl (rfl : ai_ld 0 (lv_args 0 [.ref a0, .int a1, .int a2]) = some (.ref a0)) ?_
  refine go_pi (pc := 1) rfl ?_
  obtain ⟨h1, eh1, hh⟩ := bi_bd hh
  refine go_pf (pc := 2) rfl eh1 ?_
  refine go_al (pc := 5) rfl (rfl : ai_ld 0 (lv_args 0 [.ref a0, .int a1, .int a2]) = some (.ref a0)) ?_
  refine go_il (pc := 6) rfl (rfl : ai_ld 1 (lv_args 0 [.ref a0, .int a1, .int a2]) = some (.int a1)) ?_
  refine go_il (pc := 7) rfl (rfl : ai_ld 2 (lv_args 0 [.ref a0, .int a1, .int a2]) = some (.int a2)) ?_
  obtain ⟨q2, eq2, hh⟩ := bi_bd hh
  refine go_ivI (pc := 8) rfl rfl (gX11_areTwo eq2) (Nat.le_of_ble_eq_true rfl) (bi_up (sX11_areTwo eq2) (Nat.le_of_ble_eq_true rfl)) ?_
  refine bi_ite hh (fun hc hh => ?_) (fun hc hh => ?_)
  · refine go_ifeqT (pc := 11) rfl hc ?_
    refine go_pi (pc := 24) rfl ?_
    exact go_ri (pc := 25) rfl hh
  · refine go_ifeqF (pc := 11) rfl hc ?_
    refine go_al (pc := 14) rfl (rfl : ai_ld 0 (lv_args 0 [.ref a0, .int a1, .int a2]) = some (.ref a0)) ?_
    refine go_il (pc := 15) rfl (rfl : ai_ld 1 (lv_args 0 [.ref a0, .int a1, .int a2]) = some (.int a1)) ?_
    refine go_il (pc := 16) rfl (rfl : ai_ld 2 (lv_args 0 [.ref a0, .int a1, .int a2]) = some (.int a2)) ?_
    refine go_pi (pc := 17) rfl ?_
    obtain ⟨q3, eq3, hh⟩ := bi_bd hh
    refine go_ivI (pc := 18) rfl rfl (gX11_restAt eq3) (Nat.le_of_ble_eq_true rfl) (bi_up (sX11_restAt eq3) (Nat.le_of_ble_eq_true rfl)) ?_
    refine go_goto (pc := 21) rfl ?_
    exact go_ri (pc := 25) rfl hh
def fX11_rest (n : Nat) (h : ai_H) (a0 : Nat) (a1 : Int32) (a2 : Int32) (a3 : Int32) : Option (Int32 × ai_H) :=
  (kO n h a0 11).bind fun _ =>
  (sF n h a0 11 2 (.int) (.int (0 : Int32))).bind fun h1 =>
  (fX11_areTwo n h1 a0 a1 a2).bind fun q2 =>
  if q2.1 = 0 then (
    some ((-1 : Int32), q2.2))
  else (
    if a3 < 0 then (
      some ((-1 : Int32), q2.2))
    else (
      (fX11_restAt n q2.2 a0 a1 a2 a3).bind fun q3 =>
      some (q3.1, q3.2)))
theorem gX11_rest {n : Nat} {h : ai_H} {a0 : Nat} {a1 : Int32} {a2 : Int32} {a3 : Int32} {q : Int32 × ai_H} (hh : fX11_rest n h a0 a1 a2 a3 = some q) : kO n h a0 11 = some () := by
  obtain ⟨_, e, -⟩ := bi_bd hh
  exact e
theorem sX11_rest {n : Nat} {h : ai_H} {a0 : Nat} {a1 : Int32} {a2 : Int32} {a3 : Int32} {q : Int32 × ai_H} (hh : fX11_rest n h a0 a1 a2 a3 = some q) : bi_sp 3 243 [.ref a0, .int a1, .int a2, .int a3] h n (fI n q) := by
  refine bi_en (D := 2) (T := tX11_rest) (funext fun pc => rfl) rfl (Nat.le_of_ble_eq_true rfl) ?_
  unfold fX11_rest at hh
  obtain ⟨_, eO, hh⟩ := bi_bd hh
  refine go_al (pc := 0) rfl (rfl : ai_ld 0 (lv_args 0 [.ref a0, .int a1, .int a2, .int a3]) = some (.ref a0)) ?_
  refine go_pi (pc := 1) rfl ?_
  obtain ⟨h1, eh1, hh⟩ := bi_bd hh
  refine go_pf (pc := 2) rfl eh1 ?_
  refine go_al (pc := 5) rfl (rfl : ai_ld 0 (lv_args 0 [.ref a0, .int a1, .int a2, .int a3]) = some (.ref a0)) ?_
  refine go_il (pc := 6) rfl (rfl : ai_ld 1 (lv_args 0 [.ref a0, .int a1, .int a2, .int a3]) = some (.int a1)) ?_
  refine go_il (pc := 7) rfl (rfl : ai_ld 2 (lv_args 0 [.ref a0, .int a1, .int a2, .int a3]) = some (.int a2)) ?_
  obtain ⟨q2, eq2, hh⟩ := bi_bd hh
  refine go_ivI (pc := 8) rfl rfl (gX11_areTwo eq2) (Nat.le_of_ble_eq_true rfl) (bi_up (sX11_areTwo eq2) (Nat.le_of_ble_eq_true rfl)) ?_
  refine bi_ite hh (fun hc hh => ?_) (fun hc hh => ?_)
  · refine go_ifeqT (pc := 11) rfl hc ?_
    refine go_pi (pc := 28) rfl ?_
    exact go_ri (pc := 29) rfl hh
  · refine go_ifeqF (pc := 11) rfl hc ?_
    refine go_il (pc := 14) rfl (rfl : ai_ld 3 (lv_args 0 [.ref a0, .int a1, .int a2, .int a3]) = some (.int a3)) ?_
    refine bi_ite hh (fun hc hh => ?_) (fun hc hh => ?_)
    · refine go_ifltT (pc := 15) rfl hc ?_
      refine go_pi (pc := 28) rfl ?_
      exact go_ri (pc := 29) rfl hh
    · refine go_ifltF (pc := 15) rfl hc ?_
      refine go_al (pc := 18) rfl (rfl : ai_ld 0 (lv_args 0 [.ref a0, .int a1, .int a2, .int a3]) = some (.ref a0)) ?_
      refine go_il (pc := 19) rfl (rfl : ai_ld 1 (lv_args 0 [.ref a0, .int a1, .int a2, .int a3]) = some (.int a1)) ?_
      refine go_il (pc := 20) rfl (rfl : ai_ld 2 (lv_args 0 [.ref a0, .int a1, .int a2, .int a3]) = some (.int a2)) ?_
      refine go_il (pc := 21) rfl (rfl : ai_ld 3 (lv_args 0 [.ref a0, .int a1, .int a2, .int a3]) = some (.int a3)) ?_
      obtain ⟨q3, eq3, hh⟩ := bi_bd hh
      refine go_ivI (pc := 22) rfl rfl (gX11_restAt eq3) (Nat.le_of_ble_eq_true rfl) (bi_up (sX11_restAt eq3) (Nat.le_of_ble_eq_true rfl)) ?_
      refine go_goto (pc := 25) rfl ?_
      exact go_ri (pc := 29) rfl hh
def fX11_tries_25b (n : Nat) (r25 : ai_H → Nat → Int32 → Int64 → Int64 → Int32 → Option (Int32 × ai_H)) (h : ai_H) (v0 : Nat) (v1 : Int32) (v2 : Int64) (v4 : Int64) (v6 : Int32) : Option (Int32 × ai_H) :=
  if (8 : Int32) < v6 then (
    some ((-2 : Int32), h))
  else (
    (pR n h v0 11 25).bind fun x1 =>
    (gX 1 n h x1 (1 : Int32)).bind fun x2 =>
    if (lg_cmp (((v2 * (100 : Int64)) - (v4 * x2.toInt64)) * (100 : Int64)) (v1.toInt64 * (v2 * (100 : Int64)))) < 0 then (
      r25 h v0 v1 (v2 * (100 : Int64)) (v4 * x2.toInt64) (v6 + 1))
    else (
      some (v6, h)))
theorem sX11_tries_25b {n : Nat} {r25 : ai_H → Nat → Int32 → Int64 → Int64 → Int32 → Option (Int32 × ai_H)} {q : Int32 × ai_H} {h : ai_H} {v0 : Nat} {v1 : Int32} {v2 : Int64} {v4 : Int64} {v6 : Int32} {lv : ai_L} (R25 : ∀ (h : ai_H) (v0 : Nat) (v1 : Int32) (v2 : Int64) (v4 : Int64) (v6 : Int32) (lv : ai_L), ai_ld 0 lv = some (.ref v0) → ai_ld 1 lv = some (.int v1) → ai_ld 2 lv = some (.long v2) → ai_ld 4 lv = some (.long v4) → ai_ld 6 lv = some (.int v6) → r25 h v0 v1 v2 v4 v6 = some q → bi_go 1 tX11_tries n (fI n q) 25 lv [] h) (l0 : ai_ld 0 lv = some (.ref v0)) (l1 : ai_ld 1 lv = some (.int v1)) (l2 : ai_ld 2 lv = some (.long v2)) (l4 : ai_ld 4 lv = some (.long v4)) (l6 : ai_ld 6 lv = some (.int v6)) (hh : fX11_tries_25b n r25 h v0 v1 v2 v4 v6 = some q) : bi_go 1 tX11_tries n (fI n q) 25 lv [] h := by
  unfold fX11_tries_25b at hh
  refine go_il (pc := 25) rfl l6 ?_
  refine go_pi (pc := 27) rfl ?_
  refine bi_ite hh (fun hc hh => ?_) (fun hc hh => ?_)
  · refine go_cmpgtT (pc := 29) rfl hc ?_
    refine go_pi (pc := 75) rfl ?_
    exact go_ri (pc := 77) rfl hh
  · refine go_cmpgtF (pc := 29) rfl hc ?_
    refine go_ll (pc := 32) rfl l2 ?_
    refine go_pl (pc := 33) rfl ?_
    refine go_lmul (pc := 36) rfl ?_
    refine go_lst (pc := 37) rfl ?_
    refine go_ll (pc := 38) rfl (bi_k2L l4 rfl rfl rfl) ?_
    refine go_al (pc := 40) rfl (bi_k2 l0 rfl rfl rfl) ?_
    obtain ⟨x1, ex1, hh⟩ := bi_bd hh
    refine go_gfR (pc := 41) rfl ex1 ?_
    refine go_pi (pc := 44) rfl ?_
    obtain ⟨x2, ex2, hh⟩ := bi_bd hh
    refine go_iald (pc := 45) rfl ex2 ?_
    refine go_i2l (pc := 46) rfl ?_
    refine go_lmul (pc := 47) rfl ?_
    refine go_lst (pc := 48) rfl ?_
    refine go_ll (pc := 50) rfl (bi_k2L bi_e2 rfl rfl rfl) ?_
    refine go_ll (pc := 51) rfl bi_e2 ?_
    refine go_lsub (pc := 53) rfl ?_
    refine go_pl (pc := 54) rfl ?_
    refine go_lmul (pc := 57) rfl ?_
    refine go_il (pc := 58) rfl (bi_k2 (bi_k2 l1 rfl rfl rfl) rfl rfl rfl) ?_
    refine go_i2l (pc := 59) rfl ?_
    refine go_ll (pc := 60) rfl (bi_k2L bi_e2 rfl rfl rfl) ?_
    refine go_lmul (pc := 61) rfl ?_
    refine go_lcmp (pc := 62) rfl ?_
    refine bi_ite hh (fun hc hh => ?_) (fun hc hh => ?_)
    · refine go_ifltT (pc := 63) rfl hc ?_
      refine go_inc (pc := 69) rfl (bi_k2 (bi_k2 l6 rfl rfl rfl) rfl rfl rfl) ?_
      refine go_goto (pc := 72) rfl ?_
      exact R25 _ _ _ _ _ _ _ (bi_k1 (bi_k2 (bi_k2 l0 rfl rfl rfl) rfl rfl rfl) rfl rfl) (bi_k1 (bi_k2 (bi_k2 l1 rfl rfl rfl) rfl rfl rfl) rfl rfl) (bi_k1L (bi_k2L bi_e2 rfl rfl rfl) rfl rfl) (bi_k1L bi_e2 rfl rfl) bi_e1 hh
    · refine go_ifltF (pc := 63) rfl hc ?_
      refine go_il (pc := 66) rfl (bi_k2 (bi_k2 l6 rfl rfl rfl) rfl rfl rfl) ?_
      exact go_ri (pc := 68) rfl hh
def fX11_tries_25 (n : Nat) : Nat → ai_H → Nat → Int32 → Int64 → Int64 → Int32 → Option (Int32 × ai_H)
  | 0 => fun _ _ _ _ _ _ => none
  | k + 1 => fun h v0 v1 v2 v4 v6 => fX11_tries_25b n (fX11_tries_25 n k) h v0 v1 v2 v4 v6
theorem sX11_tries_25 {n : Nat} {q : Int32 × ai_H} : ∀ (k : Nat) (h : ai_H) (v0 : Nat) (v1 : Int32) (v2 : Int64) (v4 : Int64) (v6 : Int32) (lv : ai_L), ai_ld 0 lv = some (.ref v0) → ai_ld 1 lv = some (.int v1) → ai_ld 2 lv = some (.long v2) → ai_ld 4 lv = some (.long v4) → ai_ld 6 lv = some (.int v6) → fX11_tries_25 n k h v0 v1 v2 v4 v6 = some q → bi_go 1 tX11_tries n (fI n q) 25 lv [] h
  | 0 => fun _ _ _ _ _ _ _ _ _ _ _ _ hh => by cases hh
  | k + 1 => fun h v0 v1 v2 v4 v6 lv l0 l1 l2 l4 l6 hh => sX11_tries_25b  (sX11_tries_25  k) l0 l1 l2 l4 l6 hh
def fX11_tries (n : Nat) (h : ai_H) (a0 : Nat) (a1 : Int32) : Option (Int32 × ai_H) :=
  (kO n h a0 11).bind fun _ =>
  (sF n h a0 11 2 (.int) (.int (0 : Int32))).bind fun h1 =>
  (fX11_isIn n h1 a1 (0 : Int32) (100 : Int32)).bind fun q2 =>
  if ¬ q2.1 = 0 then (
    fX11_tries_25 n bi_K q2.2 a0 a1 (1 : Int64) (1 : Int64) (1 : Int32))
  else (
    some ((-1 : Int32), q2.2))
theorem gX11_tries {n : Nat} {h : ai_H} {a0 : Nat} {a1 : Int32} {q : Int32 × ai_H} (hh : fX11_tries n h a0 a1 = some q) : kO n h a0 11 = some () := by
  obtain ⟨_, e, -⟩ := bi_bd hh
  exact e
theorem sX11_tries {n : Nat} {h : ai_H} {a0 : Nat} {a1 : Int32} {q : Int32 × ai_H} (hh : fX11_tries n h a0 a1 = some q) : bi_sp 2 244 [.ref a0, .int a1] h n (fI n q) := by
  refine bi_en (D := 1) (T := tX11_tries) (funext fun pc => rfl) rfl (Nat.le_of_ble_eq_true rfl) ?_
  unfold fX11_tries at hh
  obtain ⟨_, eO, hh⟩ := bi_bd hh
  refine go_al (pc := 0) rfl (rfl : ai_ld 0 (lv_args 0 [.ref a0, .int a1]) = some (.ref a0)) ?_
  refine go_pi (pc := 1) rfl ?_
  obtain ⟨h1, eh1, hh⟩ := bi_bd hh
  refine go_pf (pc := 2) rfl eh1 ?_
  refine go_il (pc := 5) rfl (rfl : ai_ld 1 (lv_args 0 [.ref a0, .int a1]) = some (.int a1)) ?_
  refine go_pi (pc := 6) rfl ?_
  refine go_pi (pc := 7) rfl ?_
  obtain ⟨q2, eq2, hh⟩ := bi_bd hh
  refine go_iSI (pc := 9) rfl (Nat.le_of_ble_eq_true rfl) rfl (Nat.le_of_ble_eq_true rfl) (bi_up (sX11_isIn eq2) (Nat.le_of_ble_eq_true rfl)) ?_
  refine bi_ite hh (fun hc hh => ?_) (fun hc hh => ?_)
  · refine go_ifneT (pc := 12) rfl hc ?_
    refine go_pl (pc := 17) rfl ?_
    refine go_lst (pc := 18) rfl ?_
    refine go_pl (pc := 19) rfl ?_
    refine go_lst (pc := 20) rfl ?_
    refine go_pi (pc := 22) rfl ?_
    refine go_is (pc := 23) rfl ?_
    exact sX11_tries_25  _ _ _ _ _ _ _ _ (bi_k1 (bi_k2 (bi_k2 (rfl : ai_ld 0 (lv_args 0 [.ref a0, .int a1]) = some (.ref a0)) rfl rfl rfl) rfl rfl rfl) rfl rfl) (bi_k1 (bi_k2 (bi_k2 (rfl : ai_ld 1 (lv_args 0 [.ref a0, .int a1]) = some (.int a1)) rfl rfl rfl) rfl rfl rfl) rfl rfl) (bi_k1L (bi_k2L bi_e2 rfl rfl rfl) rfl rfl) (bi_k1L bi_e2 rfl rfl) bi_e1 hh
  · refine go_ifneF (pc := 12) rfl hc ?_
    refine go_pi (pc := 15) rfl ?_
    exact go_ri (pc := 16) rfl hh
def fX11_clear_76b (n : Nat) (r76 : ai_H → Int32 → Int64 → Int64 → Int64 → Int64 → Option (Int64 × ai_H)) (h : ai_H) (v2 : Int32) (v3 : Int64) (v5 : Int64) (v7 : Int64) (v9 : Int64) : Option (Int64 × ai_H) :=
  if (lg_cmp v9 (0 : Int64)) = 0 then (
    if ¬ v2 = 0 then (
      (dJ v5 v7).bind fun x1 =>
      some (x1, h))
    else (
      (dJ v3 v7).bind fun x2 =>
      some (x2, h)))
  else (
    (rJ v7 v9).bind fun x3 =>
    r76 h v2 v3 v5 v9 x3)
theorem sX11_clear_76b {n : Nat} {r76 : ai_H → Int32 → Int64 → Int64 → Int64 → Int64 → Option (Int64 × ai_H)} {q : Int64 × ai_H} {h : ai_H} {v2 : Int32} {v3 : Int64} {v5 : Int64} {v7 : Int64} {v9 : Int64} {lv : ai_L} (R76 : ∀ (h : ai_H) (v2 : Int32) (v3 : Int64) (v5 : Int64) (v7 : Int64) (v9 : Int64) (lv : ai_L), ai_ld 2 lv = some (.int v2) → ai_ld 3 lv = some (.long v3) → ai_ld 5 lv = some (.long v5) → ai_ld 7 lv = some (.long v7) → ai_ld 9 lv = some (.long v9) → r76 h v2 v3 v5 v7 v9 = some q → bi_go 1 tX11_clear n (fJ n q) 76 lv [] h) (l2 : ai_ld 2 lv = some (.int v2)) (l3 : ai_ld 3 lv = some (.long v3)) (l5 : ai_ld 5 lv = some (.long v5)) (l7 : ai_ld 7 lv = some (.long v7)) (l9 : ai_ld 9 lv = some (.long v9)) (hh : fX11_clear_76b n r76 h v2 v3 v5 v7 v9 = some q) : bi_go 1 tX11_clear n (fJ n q) 76 lv [] h := by
  unfold fX11_clear_76b at hh
  refine go_ll (pc := 76) rfl l9 ?_
  refine go_pl (pc := 78) rfl ?_
  refine go_lcmp (pc := 79) rfl ?_
  refine bi_ite hh (fun hc hh => ?_) (fun hc hh => ?_)
  · refine go_ifeqT (pc := 80) rfl hc ?_
    refine go_il (pc := 101) rfl l2 ?_
    refine bi_ite hh (fun hc hh => ?_) (fun hc hh => ?_)
    · refine go_ifneT (pc := 102) rfl hc ?_
      refine go_ll (pc := 112) rfl l5 ?_
      refine go_ll (pc := 114) rfl l7 ?_
      obtain ⟨x1, ex1, hh⟩ := bi_bd hh
      refine go_ldiv (pc := 116) rfl ex1 ?_
      exact go_rl (pc := 117) rfl hh
    · refine go_ifneF (pc := 102) rfl hc ?_
      refine go_ll (pc := 105) rfl l3 ?_
      refine go_ll (pc := 106) rfl l7 ?_
      obtain ⟨x2, ex2, hh⟩ := bi_bd hh
      refine go_ldiv (pc := 108) rfl ex2 ?_
      refine go_goto (pc := 109) rfl ?_
      exact go_rl (pc := 117) rfl hh
  · refine go_ifeqF (pc := 80) rfl hc ?_
    refine go_ll (pc := 83) rfl l7 ?_
    refine go_ll (pc := 85) rfl l9 ?_
    obtain ⟨x3, ex3, hh⟩ := bi_bd hh
    refine go_lrem (pc := 87) rfl ex3 ?_
    refine go_lst (pc := 88) rfl ?_
    refine go_ll (pc := 90) rfl (bi_k2L l9 rfl rfl rfl) ?_
    refine go_lst (pc := 92) rfl ?_
    refine go_ll (pc := 94) rfl (bi_k2L bi_e2 rfl rfl rfl) ?_
    refine go_lst (pc := 96) rfl ?_
    refine go_goto (pc := 98) rfl ?_
    exact R76 _ _ _ _ _ _ _ (bi_k2 (bi_k2 (bi_k2 l2 rfl rfl rfl) rfl rfl rfl) rfl rfl rfl) (bi_k2L (bi_k2L (bi_k2L l3 rfl rfl rfl) rfl rfl rfl) rfl rfl rfl) (bi_k2L (bi_k2L (bi_k2L l5 rfl rfl rfl) rfl rfl rfl) rfl rfl rfl) (bi_k2L bi_e2 rfl rfl rfl) bi_e2 hh
def fX11_clear_76 (n : Nat) : Nat → ai_H → Int32 → Int64 → Int64 → Int64 → Int64 → Option (Int64 × ai_H)
  | 0 => fun _ _ _ _ _ _ => none
  | k + 1 => fun h v2 v3 v5 v7 v9 => fX11_clear_76b n (fX11_clear_76 n k) h v2 v3 v5 v7 v9
theorem sX11_clear_76 {n : Nat} {q : Int64 × ai_H} : ∀ (k : Nat) (h : ai_H) (v2 : Int32) (v3 : Int64) (v5 : Int64) (v7 : Int64) (v9 : Int64) (lv : ai_L), ai_ld 2 lv = some (.int v2) → ai_ld 3 lv = some (.long v3) → ai_ld 5 lv = some (.long v5) → ai_ld 7 lv = some (.long v7) → ai_ld 9 lv = some (.long v9) → fX11_clear_76 n k h v2 v3 v5 v7 v9 = some q → bi_go 1 tX11_clear n (fJ n q) 76 lv [] h
  | 0 => fun _ _ _ _ _ _ _ _ _ _ _ _ hh => by cases hh
  | k + 1 => fun h v2 v3 v5 v7 v9 lv l2 l3 l5 l7 l9 hh => sX11_clear_76b  (sX11_clear_76  k) l2 l3 l5 l7 l9 hh
def fX11_clear_36b (n : Nat) (r36 : ai_H → Nat → Int32 → Int32 → Int64 → Int64 → Int32 → Option (Int64 × ai_H)) (h : ai_H) (v0 : Nat) (v1 : Int32) (v2 : Int32) (v3 : Int64) (v5 : Int64) (v7 : Int32) : Option (Int64 × ai_H) :=
  if v1 ≤ v7 then (
    fX11_clear_76 n bi_K h v2 v3 v5 v5 v3)
  else (
    (pR n h v0 11 25).bind fun x1 =>
    (gX 1 n h x1 (1 : Int32)).bind fun x2 =>
    r36 h v0 v1 v2 (v3 * (((100 : Int32) - x2).toInt64)) (v5 * (100 : Int64)) (v7 + 1))
theorem sX11_clear_36b {n : Nat} {r36 : ai_H → Nat → Int32 → Int32 → Int64 → Int64 → Int32 → Option (Int64 × ai_H)} {q : Int64 × ai_H} {h : ai_H} {v0 : Nat} {v1 : Int32} {v2 : Int32} {v3 : Int64} {v5 : Int64} {v7 : Int32} {lv : ai_L} (R36 : ∀ (h : ai_H) (v0 : Nat) (v1 : Int32) (v2 : Int32) (v3 : Int64) (v5 : Int64) (v7 : Int32) (lv : ai_L), ai_ld 0 lv = some (.ref v0) → ai_ld 1 lv = some (.int v1) → ai_ld 2 lv = some (.int v2) → ai_ld 3 lv = some (.long v3) → ai_ld 5 lv = some (.long v5) → ai_ld 7 lv = some (.int v7) → r36 h v0 v1 v2 v3 v5 v7 = some q → bi_go 1 tX11_clear n (fJ n q) 36 lv [] h) (l0 : ai_ld 0 lv = some (.ref v0)) (l1 : ai_ld 1 lv = some (.int v1)) (l2 : ai_ld 2 lv = some (.int v2)) (l3 : ai_ld 3 lv = some (.long v3)) (l5 : ai_ld 5 lv = some (.long v5)) (l7 : ai_ld 7 lv = some (.int v7)) (hh : fX11_clear_36b n r36 h v0 v1 v2 v3 v5 v7 = some q) : bi_go 1 tX11_clear n (fJ n q) 36 lv [] h := by
  unfold fX11_clear_36b at hh
  refine go_il (pc := 36) rfl l7 ?_
  refine go_il (pc := 38) rfl l1 ?_
  refine bi_ite hh (fun hc hh => ?_) (fun hc hh => ?_)
  · refine go_cmpgeT (pc := 39) rfl hc ?_
    refine go_ll (pc := 69) rfl l5 ?_
    refine go_lst (pc := 71) rfl ?_
    refine go_ll (pc := 73) rfl (bi_k2L l3 rfl rfl rfl) ?_
    refine go_lst (pc := 74) rfl ?_
    exact sX11_clear_76  _ _ _ _ _ _ _ _ (bi_k2 (bi_k2 l2 rfl rfl rfl) rfl rfl rfl) (bi_k2L (bi_k2L l3 rfl rfl rfl) rfl rfl rfl) (bi_k2L (bi_k2L l5 rfl rfl rfl) rfl rfl rfl) (bi_k2L bi_e2 rfl rfl rfl) bi_e2 hh
  · refine go_cmpgeF (pc := 39) rfl hc ?_
    refine go_ll (pc := 42) rfl l3 ?_
    refine go_pi (pc := 43) rfl ?_
    refine go_al (pc := 45) rfl l0 ?_
    obtain ⟨x1, ex1, hh⟩ := bi_bd hh
    refine go_gfR (pc := 46) rfl ex1 ?_
    refine go_pi (pc := 49) rfl ?_
    obtain ⟨x2, ex2, hh⟩ := bi_bd hh
    refine go_iald (pc := 50) rfl ex2 ?_
    refine go_isub (pc := 51) rfl ?_
    refine go_i2l (pc := 52) rfl ?_
    refine go_lmul (pc := 53) rfl ?_
    refine go_lst (pc := 54) rfl ?_
    refine go_ll (pc := 55) rfl (bi_k2L l5 rfl rfl rfl) ?_
    refine go_pl (pc := 57) rfl ?_
    refine go_lmul (pc := 60) rfl ?_
    refine go_lst (pc := 61) rfl ?_
    refine go_inc (pc := 63) rfl (bi_k2 (bi_k2 l7 rfl rfl rfl) rfl rfl rfl) ?_
    refine go_goto (pc := 66) rfl ?_
    exact R36 _ _ _ _ _ _ _ _ (bi_k1 (bi_k2 (bi_k2 l0 rfl rfl rfl) rfl rfl rfl) rfl rfl) (bi_k1 (bi_k2 (bi_k2 l1 rfl rfl rfl) rfl rfl rfl) rfl rfl) (bi_k1 (bi_k2 (bi_k2 l2 rfl rfl rfl) rfl rfl rfl) rfl rfl) (bi_k1L (bi_k2L bi_e2 rfl rfl rfl) rfl rfl) (bi_k1L bi_e2 rfl rfl) bi_e1 hh
def fX11_clear_36 (n : Nat) : Nat → ai_H → Nat → Int32 → Int32 → Int64 → Int64 → Int32 → Option (Int64 × ai_H)
  | 0 => fun _ _ _ _ _ _ _ => none
  | k + 1 => fun h v0 v1 v2 v3 v5 v7 => fX11_clear_36b n (fX11_clear_36 n k) h v0 v1 v2 v3 v5 v7
theorem sX11_clear_36 {n : Nat} {q : Int64 × ai_H} : ∀ (k : Nat) (h : ai_H) (v0 : Nat) (v1 : Int32) (v2 : Int32) (v3 : Int64) (v5 : Int64) (v7 : Int32) (lv : ai_L), ai_ld 0 lv = some (.ref v0) → ai_ld 1 lv = some (.int v1) → ai_ld 2 lv = some (.int v2) → ai_ld 3 lv = some (.long v3) → ai_ld 5 lv = some (.long v5) → ai_ld 7 lv = some (.int v7) → fX11_clear_36 n k h v0 v1 v2 v3 v5 v7 = some q → bi_go 1 tX11_clear n (fJ n q) 36 lv [] h
  | 0 => fun _ _ _ _ _ _ _ _ _ _ _ _ _ _ hh => by cases hh
  | k + 1 => fun h v0 v1 v2 v3 v5 v7 lv l0 l1 l2 l3 l5 l7 hh => sX11_clear_36b  (sX11_clear_36  k) l0 l1 l2 l3 l5 l7 hh
def fX11_clear (n : Nat) (h : ai_H) (a0 : Nat) (a1 : Int32) (a2 : Int32) : Option (Int64 × ai_H) :=
  (kO n h a0 11).bind fun _ =>
  (sF n h a0 11 2 (.int) (.int (0 : Int32))).bind fun h1 =>
  (fX11_isIn n h1 a1 (0 : Int32) (6 : Int32)).bind fun q2 =>
  if q2.1 = 0 then (
    some ((-1 : Int64), q2.2))
  else (
    (fX11_isIn n q2.2 a2 (0 : Int32) (1 : Int32)).bind fun q3 =>
    if ¬ q3.1 = 0 then (
      fX11_clear_36 n bi_K q3.2 a0 a1 a2 (1 : Int64) (1 : Int64) (0 : Int32))
    else (
      some ((-1 : Int64), q3.2)))
theorem gX11_clear {n : Nat} {h : ai_H} {a0 : Nat} {a1 : Int32} {a2 : Int32} {q : Int64 × ai_H} (hh : fX11_clear n h a0 a1 a2 = some q) : kO n h a0 11 = some () := by
  obtain ⟨_, e, -⟩ := bi_bd hh
  exact e
theorem sX11_clear {n : Nat} {h : ai_H} {a0 : Nat} {a1 : Int32} {a2 : Int32} {q : Int64 × ai_H} (hh : fX11_clear n h a0 a1 a2 = some q) : bi_sp 2 245 [.ref a0, .int a1, .int a2] h n (fJ n q) := by
  refine bi_en (D := 1) (T := tX11_clear) (funext fun pc => rfl) rfl (Nat.le_of_ble_eq_true rfl) ?_
  unfold fX11_clear at hh
  obtain ⟨_, eO, hh⟩ := bi_bd hh
  refine go_al (pc := 0) rfl (rfl : ai_ld 0 (lv_args 0 [.ref a0, .int a1, .int a2]) = some (.ref a0)) ?_
  refine go_pi (pc := 1) rfl ?_
  obtain ⟨h1, eh1, hh⟩ := bi_bd hh
  refine go_pf (pc := 2) rfl eh1 ?_
  refine go_il (pc := 5) rfl (rfl : ai_ld 1 (lv_args 0 [.ref a0, .int a1, .int a2]) = some (.int a1)) ?_
  refine go_pi (pc := 6) rfl ?_
  refine go_pi (pc := 7) rfl ?_
  obtain ⟨q2, eq2, hh⟩ := bi_bd hh
  refine go_iSI (pc := 9) rfl (Nat.le_of_ble_eq_true rfl) rfl (Nat.le_of_ble_eq_true rfl) (bi_up (sX11_isIn eq2) (Nat.le_of_ble_eq_true rfl)) ?_
  refine bi_ite hh (fun hc hh => ?_) (fun hc hh => ?_)
  · refine go_ifeqT (pc := 12) rfl hc ?_
    refine go_pl (pc := 24) rfl ?_
    exact go_rl (pc := 27) rfl hh
  · refine go_ifeqF (pc := 12) rfl hc ?_
    refine go_il (pc := 15) rfl (rfl : ai_ld 2 (lv_args 0 [.ref a0, .int a1, .int a2]) = some (.int a2)) ?_
    refine go_pi (pc := 16) rfl ?_
    refine go_pi (pc := 17) rfl ?_
    obtain ⟨q3, eq3, hh⟩ := bi_bd hh
    refine go_iSI (pc := 18) rfl (Nat.le_of_ble_eq_true rfl) rfl (Nat.le_of_ble_eq_true rfl) (bi_up (sX11_isIn eq3) (Nat.le_of_ble_eq_true rfl)) ?_
    refine bi_ite hh (fun hc hh => ?_) (fun hc hh => ?_)
    · refine go_ifneT (pc := 21) rfl hc ?_
      refine go_pl (pc := 28) rfl ?_
      refine go_lst (pc := 29) rfl ?_
      refine go_pl (pc := 30) rfl ?_
      refine go_lst (pc := 31) rfl ?_
      refine go_pi (pc := 33) rfl ?_
      refine go_is (pc := 34) rfl ?_
      exact sX11_clear_36  _ _ _ _ _ _ _ _ _ (bi_k1 (bi_k2 (bi_k2 (rfl : ai_ld 0 (lv_args 0 [.ref a0, .int a1, .int a2]) = some (.ref a0)) rfl rfl rfl) rfl rfl rfl) rfl rfl) (bi_k1 (bi_k2 (bi_k2 (rfl : ai_ld 1 (lv_args 0 [.ref a0, .int a1, .int a2]) = some (.int a1)) rfl rfl rfl) rfl rfl rfl) rfl rfl) (bi_k1 (bi_k2 (bi_k2 (rfl : ai_ld 2 (lv_args 0 [.ref a0, .int a1, .int a2]) = some (.int a2)) rfl rfl rfl) rfl rfl rfl) rfl rfl) (bi_k1L (bi_k2L bi_e2 rfl rfl rfl) rfl rfl) (bi_k1L bi_e2 rfl rfl) bi_e1 hh
    · refine go_ifneF (pc := 21) rfl hc ?_
      refine go_pl (pc := 24) rfl ?_
      exact go_rl (pc := 27) rfl hh
