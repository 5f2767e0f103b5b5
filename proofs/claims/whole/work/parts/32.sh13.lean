/-! ===== methods as functions, part 13 ===== -/
def fX11_wordAt_96 (n : Nat) (r5 : ai_H → Nat → Int32 → Int32 → Int32 → Int32 → Option (Int32 × ai_H)) (r57 : ai_H → Nat → Int32 → Int32 → Int32 → Int32 → Int32 → Int32 → Int32 → Option (Int32 × ai_H)) (h : ai_H) (v0 : Nat) (v1 : Int32) (v2 : Int32) (v3 : Int32) (v4 : Int32) (v5 : Int32) (v7 : Int32) (s0 : Int32) : Option (Int32 × ai_H) :=
  r57 h v0 v1 v2 v3 v4 v5 s0 (v7 + 1)
theorem sX11_wordAt_96 {n : Nat} {r5 : ai_H → Nat → Int32 → Int32 → Int32 → Int32 → Option (Int32 × ai_H)} {r57 : ai_H → Nat → Int32 → Int32 → Int32 → Int32 → Int32 → Int32 → Int32 → Option (Int32 × ai_H)} {q : Int32 × ai_H} {h : ai_H} {v0 : Nat} {v1 : Int32} {v2 : Int32} {v3 : Int32} {v4 : Int32} {v5 : Int32} {v7 : Int32} {s0 : Int32} {lv : ai_L} (R5 : ∀ (h : ai_H) (v0 : Nat) (v1 : Int32) (v2 : Int32) (v3 : Int32) (v4 : Int32) (lv : ai_L), ai_ld 0 lv = some (.ref v0) → ai_ld 1 lv = some (.int v1) → ai_ld 2 lv = some (.int v2) → ai_ld 3 lv = some (.int v3) → ai_ld 4 lv = some (.int v4) → r5 h v0 v1 v2 v3 v4 = some q → bi_go 0 tX11_wordAt n (fI n q) 5 lv [] h) (R57 : ∀ (h : ai_H) (v0 : Nat) (v1 : Int32) (v2 : Int32) (v3 : Int32) (v4 : Int32) (v5 : Int32) (v6 : Int32) (v7 : Int32) (lv : ai_L), ai_ld 0 lv = some (.ref v0) → ai_ld 1 lv = some (.int v1) → ai_ld 2 lv = some (.int v2) → ai_ld 3 lv = some (.int v3) → ai_ld 4 lv = some (.int v4) → ai_ld 5 lv = some (.int v5) → ai_ld 6 lv = some (.int v6) → ai_ld 7 lv = some (.int v7) → r57 h v0 v1 v2 v3 v4 v5 v6 v7 = some q → bi_go 0 tX11_wordAt n (fI n q) 57 lv [] h) (l0 : ai_ld 0 lv = some (.ref v0)) (l1 : ai_ld 1 lv = some (.int v1)) (l2 : ai_ld 2 lv = some (.int v2)) (l3 : ai_ld 3 lv = some (.int v3)) (l4 : ai_ld 4 lv = some (.int v4)) (l5 : ai_ld 5 lv = some (.int v5)) (l7 : ai_ld 7 lv = some (.int v7)) (hh : fX11_wordAt_96 n r5 r57 h v0 v1 v2 v3 v4 v5 v7 s0 = some q) : bi_go 0 tX11_wordAt n (fI n q) 96 lv [.int s0] h := by
  unfold fX11_wordAt_96 at hh
  refine go_is (pc := 96) rfl ?_
  refine go_inc (pc := 98) rfl (bi_k1 l7 rfl rfl) ?_
  refine go_goto (pc := 101) rfl ?_
  exact R57 _ _ _ _ _ _ _ _ _ _ (bi_k1 (bi_k1 l0 rfl rfl) rfl rfl) (bi_k1 (bi_k1 l1 rfl rfl) rfl rfl) (bi_k1 (bi_k1 l2 rfl rfl) rfl rfl) (bi_k1 (bi_k1 l3 rfl rfl) rfl rfl) (bi_k1 (bi_k1 l4 rfl rfl) rfl rfl) (bi_k1 (bi_k1 l5 rfl rfl) rfl rfl) (bi_k1 bi_e1 rfl rfl) bi_e1 hh
def fX11_wordAt_104 (n : Nat) (r5 : ai_H → Nat → Int32 → Int32 → Int32 → Int32 → Option (Int32 × ai_H)) (h : ai_H) (v0 : Nat) (v1 : Int32) (v2 : Int32) (v3 : Int32) (v4 : Int32) (v5 : Int32) (v6 : Int32) : Option (Int32 × ai_H) :=
  if v6 = 0 then (
    r5 h v0 v1 v2 (v3 + 1) (v4 + (v5 + (1 : Int32))))
  else (
    some (v3, h))
theorem sX11_wordAt_104 {n : Nat} {r5 : ai_H → Nat → Int32 → Int32 → Int32 → Int32 → Option (Int32 × ai_H)} {q : Int32 × ai_H} {h : ai_H} {v0 : Nat} {v1 : Int32} {v2 : Int32} {v3 : Int32} {v4 : Int32} {v5 : Int32} {v6 : Int32} {lv : ai_L} (R5 : ∀ (h : ai_H) (v0 : Nat) (v1 : Int32) (v2 : Int32) (v3 : Int32) (v4 : Int32) (lv : ai_L), ai_ld 0 lv = some (.ref v0) → ai_ld 1 lv = some (.int v1) → ai_ld 2 lv = some (.int v2) → ai_ld 3 lv = some (.int v3) → ai_ld 4 lv = some (.int v4) → r5 h v0 v1 v2 v3 v4 = some q → bi_go 0 tX11_wordAt n (fI n q) 5 lv [] h) (l0 : ai_ld 0 lv = some (.ref v0)) (l1 : ai_ld 1 lv = some (.int v1)) (l2 : ai_ld 2 lv = some (.int v2)) (l3 : ai_ld 3 lv = some (.int v3)) (l4 : ai_ld 4 lv = some (.int v4)) (l5 : ai_ld 5 lv = some (.int v5)) (l6 : ai_ld 6 lv = some (.int v6)) (hh : fX11_wordAt_104 n r5 h v0 v1 v2 v3 v4 v5 v6 = some q) : bi_go 0 tX11_wordAt n (fI n q) 104 lv [] h := by
  unfold fX11_wordAt_104 at hh
  refine go_il (pc := 104) rfl l6 ?_
  refine bi_ite hh (fun hc hh => ?_) (fun hc hh => ?_)
  · refine go_ifeqT (pc := 106) rfl hc ?_
    refine go_il (pc := 111) rfl l4 ?_
    refine go_il (pc := 113) rfl l5 ?_
    refine go_pi (pc := 115) rfl ?_
    refine go_iadd (pc := 116) rfl ?_
    refine go_iadd (pc := 117) rfl ?_
    refine go_is (pc := 118) rfl ?_
    refine go_inc (pc := 120) rfl (bi_k1 l3 rfl rfl) ?_
    refine go_goto (pc := 123) rfl ?_
    exact R5 _ _ _ _ _ _ _ (bi_k1 (bi_k1 l0 rfl rfl) rfl rfl) (bi_k1 (bi_k1 l1 rfl rfl) rfl rfl) (bi_k1 (bi_k1 l2 rfl rfl) rfl rfl) bi_e1 (bi_k1 bi_e1 rfl rfl) hh
  · refine go_ifeqF (pc := 106) rfl hc ?_
    refine go_il (pc := 109) rfl l3 ?_
    exact go_ri (pc := 110) rfl hh
def fX11_wordAt_57b (n : Nat) (r5 : ai_H → Nat → Int32 → Int32 → Int32 → Int32 → Option (Int32 × ai_H)) (r57 : ai_H → Nat → Int32 → Int32 → Int32 → Int32 → Int32 → Int32 → Int32 → Option (Int32 × ai_H)) (h : ai_H) (v0 : Nat) (v1 : Int32) (v2 : Int32) (v3 : Int32) (v4 : Int32) (v5 : Int32) (v6 : Int32) (v7 : Int32) : Option (Int32 × ai_H) :=
  if v5 ≤ v7 then (
    fX11_wordAt_104 n r5 h v0 v1 v2 v3 v4 v5 v6)
  else (
    if v6 = 0 then (
      fX11_wordAt_104 n r5 h v0 v1 v2 v3 v4 v5 v6)
    else (
      (pR n h v0 11 3).bind fun x1 =>
      (gX 1 n h x1 (v4 + v7)).bind fun x2 =>
      (pR n h v0 11 0).bind fun x3 =>
      (gX 1 n h x3 (v1 + v7)).bind fun x4 =>
      if ¬ x2 = x4 then (
        fX11_wordAt_96 n r5 r57 h v0 v1 v2 v3 v4 v5 v7 (0 : Int32))
      else (
        fX11_wordAt_96 n r5 r57 h v0 v1 v2 v3 v4 v5 v7 (1 : Int32))))
theorem sX11_wordAt_57b {n : Nat} {r5 : ai_H → Nat → Int32 → Int32 → Int32 → Int32 → Option (Int32 × ai_H)} {r57 : ai_H → Nat → Int32 → Int32 → Int32 → Int32 → Int32 → Int32 → Int32 → Option (Int32 × ai_H)} {q : Int32 × ai_H} {h : ai_H} {v0 : Nat} {v1 : Int32} {v2 : Int32} {v3 : Int32} {v4 : Int32} {v5 : Int32} {v6 : Int32} {v7 : Int32} {lv : ai_L} (R5 : ∀ (h : ai_H) (v0 : Nat) (v1 : Int32) (v2 : Int32) (v3 : Int32) (v4 : Int32) (lv : ai_L), ai_ld 0 lv = some (.ref v0) → ai_ld 1 lv = some (.int v1) → ai_ld 2 lv = some (.int v2) → ai_ld 3 lv = some (.int v3) → ai_ld 4 lv = some (.int v4) → r5 h v0 v1 v2 v3 v4 = some q → bi_go 0 tX11_wordAt n (fI n q) 5 lv [] h) (R57 : ∀ (h : ai_H) (v0 : Nat) (v1 : Int32) (v2 : Int32) (v3 : Int32) (v4 : Int32) (v5 : Int32) (v6 : Int32) (v7 : Int32) (lv : ai_L), ai_ld 0 lv = some (.ref v0) → ai_ld 1 lv = some (.int v1) → ai_ld 2 lv = some (.int v2) → ai_ld 3 lv = some (.int v3) → ai_ld 4 lv = some (.int v4) → ai_ld 5 lv = some (.int v5) → ai_ld 6 lv = some (.int v6) → ai_ld 7 lv = some (.int v7) → r57 h v0 v1 v2 v3 v4 v5 v6 v7 = some q → bi_go 0 tX11_wordAt n (fI n q) 57 lv [] h) (l0 : ai_ld 0 lv = some (.ref v0)) (l1 : ai_ld 1 lv = some (.int v1)) (l2 : ai_ld 2 lv = some (.int v2)) (l3 : ai_ld 3 lv = some (.int v3)) (l4 : ai_ld 4 lv = some (.int v4)) (l5 : ai_ld 5 lv = some (.int v5)) (l6 : ai_ld 6 lv = some (.int v6)) (l7 : ai_ld 7 lv = some (.int v7)) (hh : fX11_wordAt_57b n r5 r57 h v0 v1 v2 v3 v4 v5 v6 v7 = some q) : bi_go 0 tX11_wordAt n (fI n q) 57 lv [] h := by
  unfold fX11_wordAt_57b at hh
  refine go_il (pc := 57) rfl l7 ?_
  refine go_il (pc := 59) rfl l5 ?_
  refine bi_ite hh (fun hc hh => ?_) (fun hc hh => ?_)
  · refine go_cmpgeT (pc := 61) rfl hc ?_
    exact sX11_wordAt_104 R5 l0 l1 l2 l3 l4 l5 l6 hh
  · refine go_cmpgeF (pc := 61) rfl hc ?_
    refine go_il (pc := 64) rfl l6 ?_
    refine bi_ite hh (fun hc hh => ?_) (fun hc hh => ?_)
    · refine go_ifeqT (pc := 66) rfl hc ?_
      exact sX11_wordAt_104 R5 l0 l1 l2 l3 l4 l5 l6 hh
    · refine go_ifeqF (pc := 66) rfl hc ?_
      refine go_al (pc := 69) rfl l0 ?_
      obtain ⟨x1, ex1, hh⟩ := bi_bd hh
      refine go_gfR (pc := 70) rfl ex1 ?_
      refine go_il (pc := 73) rfl l4 ?_
      refine go_il (pc := 75) rfl l7 ?_
      refine go_iadd (pc := 77) rfl ?_
      obtain ⟨x2, ex2, hh⟩ := bi_bd hh
      refine go_iald (pc := 78) rfl ex2 ?_
      refine go_al (pc := 79) rfl l0 ?_
      obtain ⟨x3, ex3, hh⟩ := bi_bd hh
      refine go_gfR (pc := 80) rfl ex3 ?_
      refine go_il (pc := 83) rfl l1 ?_
      refine go_il (pc := 84) rfl l7 ?_
      refine go_iadd (pc := 86) rfl ?_
      obtain ⟨x4, ex4, hh⟩ := bi_bd hh
      refine go_iald (pc := 87) rfl ex4 ?_
      refine bi_ite hh (fun hc hh => ?_) (fun hc hh => ?_)
      · refine go_cmpneT (pc := 88) rfl hc ?_
        refine go_pi (pc := 95) rfl ?_
        exact sX11_wordAt_96 R5 R57 l0 l1 l2 l3 l4 l5 l7 hh
      · refine go_cmpneF (pc := 88) rfl hc ?_
        refine go_pi (pc := 91) rfl ?_
        refine go_goto (pc := 92) rfl ?_
        exact sX11_wordAt_96 R5 R57 l0 l1 l2 l3 l4 l5 l7 hh
def fX11_wordAt_57 (n : Nat) (r5 : ai_H → Nat → Int32 → Int32 → Int32 → Int32 → Option (Int32 × ai_H)) : Nat → ai_H → Nat → Int32 → Int32 → Int32 → Int32 → Int32 → Int32 → Int32 → Option (Int32 × ai_H)
  | 0 => fun _ _ _ _ _ _ _ _ _ => none
  | k + 1 => fun h v0 v1 v2 v3 v4 v5 v6 v7 => fX11_wordAt_57b n r5 (fX11_wordAt_57 n r5 k) h v0 v1 v2 v3 v4 v5 v6 v7
theorem sX11_wordAt_57 {n : Nat} {r5 : ai_H → Nat → Int32 → Int32 → Int32 → Int32 → Option (Int32 × ai_H)} {q : Int32 × ai_H} (R5 : ∀ (h : ai_H) (v0 : Nat) (v1 : Int32) (v2 : Int32) (v3 : Int32) (v4 : Int32) (lv : ai_L), ai_ld 0 lv = some (.ref v0) → ai_ld 1 lv = some (.int v1) → ai_ld 2 lv = some (.int v2) → ai_ld 3 lv = some (.int v3) → ai_ld 4 lv = some (.int v4) → r5 h v0 v1 v2 v3 v4 = some q → bi_go 0 tX11_wordAt n (fI n q) 5 lv [] h) : ∀ (k : Nat) (h : ai_H) (v0 : Nat) (v1 : Int32) (v2 : Int32) (v3 : Int32) (v4 : Int32) (v5 : Int32) (v6 : Int32) (v7 : Int32) (lv : ai_L), ai_ld 0 lv = some (.ref v0) → ai_ld 1 lv = some (.int v1) → ai_ld 2 lv = some (.int v2) → ai_ld 3 lv = some (.int v3) → ai_ld 4 lv = some (.int v4) → ai_ld 5 lv = some (.int v5) → ai_ld 6 lv = some (.int v6) → ai_ld 7 lv = some (.int v7) → fX11_wordAt_57 n r5 k h v0 v1 v2 v3 v4 v5 v6 v7 = some q → bi_go 0 tX11_wordAt n (fI n q) 57 lv [] h
  | 0 => fun _ _ _ _ _ _ _ _ _ _ _ _ _ _ _ _ _ _ hh => by cases hh
  | k + 1 => fun h v0 v1 v2 v3 v4 v5 v6 v7 lv l0 l1 l2 l3 l4 l5 l6 l7 hh => sX11_wordAt_57b R5 (sX11_wordAt_57 R5 k) l0 l1 l2 l3 l4 l5 l6 l7 hh
def fX11_wordAt_52 (n : Nat) (r5 : ai_H → Nat → Int32 → Int32 → Int32 → Int32 → Option (Int32 × ai_H)) (h : ai_H) (v0 : Nat) (v1 : Int32) (v2 : Int32) (v3 : Int32) (v4 : Int32) (v5 : Int32) (s0 : Int32) : Option (Int32 × ai_H) :=
  fX11_wordAt_57 n r5 bi_K h v0 v1 v2 v3 v4 v5 s0 (0 : Int32)
theorem sX11_wordAt_52 {n : Nat} {r5 : ai_H → Nat → Int32 → Int32 → Int32 → Int32 → Option (Int32 × ai_H)} {q : Int32 × ai_H} {h : ai_H} {v0 : Nat} {v1 : Int32} {v2 : Int32} {v3 : Int32} {v4 : Int32} {v5 : Int32} {s0 : Int32} {lv : ai_L} (R5 : ∀ (h : ai_H) (v0 : Nat) (v1 : Int32) (v2 : Int32) (v3 : Int32) (v4 : Int32) (lv : ai_L), ai_ld 0 lv = some (.ref v0) → ai_ld 1 lv = some (.int v1) → ai_ld 2 lv = some (.int v2) → ai_ld 3 lv = some (.int v3) → ai_ld 4 lv = some (.int v4) → r5 h v0 v1 v2 v3 v4 = some q → bi_go 0 tX11_wordAt n (fI n q) 5 lv [] h) (l0 : ai_ld 0 lv = some (.ref v0)) (l1 : ai_ld 1 lv = some (.int v1)) (l2 : ai_ld 2 lv = some (.int v2)) (l3 : ai_ld 3 lv = some (.int v3)) (l4 : ai_ld 4 lv = some (.int v4)) (l5 : ai_ld 5 lv = some (.int v5)) (hh : fX11_wordAt_52 n r5 h v0 v1 v2 v3 v4 v5 s0 = some q) : bi_go 0 tX11_wordAt n (fI n q) 52 lv [.int s0] h := by
  unfold fX11_wordAt_52 at hh
  refine go_is (pc := 52) rfl ?_
  refine go_pi (pc := 54) rfl ?_
  refine go_is (pc := 55) rfl ?_
  exact sX11_wordAt_57 R5 _ _ _ _ _ _ _ _ _ _ _ (bi_k1 (bi_k1 l0 rfl rfl) rfl rfl) (bi_k1 (bi_k1 l1 rfl rfl) rfl rfl) (bi_k1 (bi_k1 l2 rfl rfl) rfl rfl) (bi_k1 (bi_k1 l3 rfl rfl) rfl rfl) (bi_k1 (bi_k1 l4 rfl rfl) rfl rfl) (bi_k1 (bi_k1 l5 rfl rfl) rfl rfl) (bi_k1 bi_e1 rfl rfl) bi_e1 hh
def fX11_wordAt_18b (n : Nat) (r5 : ai_H → Nat → Int32 → Int32 → Int32 → Int32 → Option (Int32 × ai_H)) (r18 : ai_H → Nat → Int32 → Int32 → Int32 → Int32 → Int32 → Option (Int32 × ai_H)) (h : ai_H) (v0 : Nat) (v1 : Int32) (v2 : Int32) (v3 : Int32) (v4 : Int32) (v5 : Int32) : Option (Int32 × ai_H) :=
  (pR n h v0 11 3).bind fun x1 =>
  (gX 1 n h x1 (v4 + v5)).bind fun x2 =>
  if x2 = (32 : Int32) then (
    if ¬ v5 = (v2 - v1) then (
      fX11_wordAt_52 n r5 h v0 v1 v2 v3 v4 v5 (0 : Int32))
    else (
      fX11_wordAt_52 n r5 h v0 v1 v2 v3 v4 v5 (1 : Int32)))
  else (
    r18 h v0 v1 v2 v3 v4 (v5 + 1))
theorem sX11_wordAt_18b {n : Nat} {r5 : ai_H → Nat → Int32 → Int32 → Int32 → Int32 → Option (Int32 × ai_H)} {r18 : ai_H → Nat → Int32 → Int32 → Int32 → Int32 → Int32 → Option (Int32 × ai_H)} {q : Int32 × ai_H} {h : ai_H} {v0 : Nat} {v1 : Int32} {v2 : Int32} {v3 : Int32} {v4 : Int32} {v5 : Int32} {lv : ai_L} (R5 : ∀ (h : ai_H) (v0 : Nat) (v1 : Int32) (v2 : Int32) (v3 : Int32) (v4 : Int32) (lv : ai_L), ai_ld 0 lv = some (.ref v0) → ai_ld 1 lv = some (.int v1) → ai_ld 2 lv = some (.int v2) → ai_ld 3 lv = some (.int v3) → ai_ld 4 lv = some (.int v4) → r5 h v0 v1 v2 v3 v4 = some q → bi_go 0 tX11_wordAt n (fI n q) 5 lv [] h) (R18 : ∀ (h : ai_H) (v0 : Nat) (v1 : Int32) (v2 : Int32) (v3 : Int32) (v4 : Int32) (v5 : Int32) (lv : ai_L), ai_ld 0 lv = some (.ref v0) → ai_ld 1 lv = some (.int v1) → ai_ld 2 lv = some (.int v2) → ai_ld 3 lv = some (.int v3) → ai_ld 4 lv = some (.int v4) → ai_ld 5 lv = some (.int v5) → r18 h v0 v1 v2 v3 v4 v5 = some q → bi_go 0 tX11_wordAt n (fI n q) 18 lv [] h) (l0 : ai_ld 0 lv = some (.ref v0)) (l1 : ai_ld 1 lv = some (.int v1)) (l2 : ai_ld 2 lv = some (.int v2)) (l3 : ai_ld 3 lv = some (.int v3)) (l4 : ai_ld 4 lv = some (.int v4)) (l5 : ai_ld 5 lv = some (.int v5)) (hh : fX11_wordAt_18b n r5 r18 h v0 v1 v2 v3 v4 v5 = some q) : bi_go 0 tX11_wordAt n (fI n q) 18 lv [] h := by
  unfold fX11_wordAt_18b at hh
  refine go_al (pc := 18) rfl l0 ?_
  obtain ⟨x1, ex1, hh⟩ := bi_bd hh
  refine go_gfR (pc := 19) rfl ex1 ?_
  refine go_il (pc := 22) rfl l4 ?_
  refine go_il (pc := 24) rfl l5 ?_
  refine go_iadd (pc := 26) rfl ?_
  obtain ⟨x2, ex2, hh⟩ := bi_bd hh
  refine go_iald (pc := 27) rfl ex2 ?_
  refine go_pi (pc := 28) rfl ?_
  refine bi_ite hh (fun hc hh => ?_) (fun hc hh => ?_)
  · refine go_cmpeqT (pc := 30) rfl hc ?_
    refine go_il (pc := 39) rfl l5 ?_
    refine go_il (pc := 41) rfl l2 ?_
    refine go_il (pc := 42) rfl l1 ?_
    refine go_isub (pc := 43) rfl ?_
    refine bi_ite hh (fun hc hh => ?_) (fun hc hh => ?_)
    · refine go_cmpneT (pc := 44) rfl hc ?_
      refine go_pi (pc := 51) rfl ?_
      exact sX11_wordAt_52 R5 l0 l1 l2 l3 l4 l5 hh
    · refine go_cmpneF (pc := 44) rfl hc ?_
      refine go_pi (pc := 47) rfl ?_
      refine go_goto (pc := 48) rfl ?_
      exact sX11_wordAt_52 R5 l0 l1 l2 l3 l4 l5 hh
  · refine go_cmpeqF (pc := 30) rfl hc ?_
    refine go_inc (pc := 33) rfl l5 ?_
    refine go_goto (pc := 36) rfl ?_
    exact R18 _ _ _ _ _ _ _ _ (bi_k1 l0 rfl rfl) (bi_k1 l1 rfl rfl) (bi_k1 l2 rfl rfl) (bi_k1 l3 rfl rfl) (bi_k1 l4 rfl rfl) bi_e1 hh
def fX11_wordAt_18 (n : Nat) (r5 : ai_H → Nat → Int32 → Int32 → Int32 → Int32 → Option (Int32 × ai_H)) : Nat → ai_H → Nat → Int32 → Int32 → Int32 → Int32 → Int32 → Option (Int32 × ai_H)
  | 0 => fun _ _ _ _ _ _ _ => none
  | k + 1 => fun h v0 v1 v2 v3 v4 v5 => fX11_wordAt_18b n r5 (fX11_wordAt_18 n r5 k) h v0 v1 v2 v3 v4 v5
theorem sX11_wordAt_18 {n : Nat} {r5 : ai_H → Nat → Int32 → Int32 → Int32 → Int32 → Option (Int32 × ai_H)} {q : Int32 × ai_H} (R5 : ∀ (h : ai_H) (v0 : Nat) (v1 : Int32) (v2 : Int32) (v3 : Int32) (v4 : Int32) (lv : ai_L), ai_ld 0 lv = some (.ref v0) → ai_ld 1 lv = some (.int v1) → ai_ld 2 lv = some (.int v2) → ai_ld 3 lv = some (.int v3) → ai_ld 4 lv = some (.int v4) → r5 h v0 v1 v2 v3 v4 = some q → bi_go 0 tX11_wordAt n (fI n q) 5 lv [] h) : ∀ (k : Nat) (h : ai_H) (v0 : Nat) (v1 : Int32) (v2 : Int32) (v3 : Int32) (v4 : Int32) (v5 : Int32) (lv : ai_L), ai_ld 0 lv = some (.ref v0) → ai_ld 1 lv = some (.int v1) → ai_ld 2 lv = some (.int v2) → ai_ld 3 lv = some (.int v3) → ai_ld 4 lv = some (.int v4) → ai_ld 5 lv = some (.int v5) → fX11_wordAt_18 n r5 k h v0 v1 v2 v3 v4 v5 = some q → bi_go 0 tX11_wordAt n (fI n q) 18 lv [] h
  | 0 => fun _ _ _ _ _ _ _ _ _ _ _ _ _ _ hh => by cases hh
  | k + 1 => fun h v0 v1 v2 v3 v4 v5 lv l0 l1 l2 l3 l4 l5 hh => sX11_wordAt_18b R5 (sX11_wordAt_18 R5 k) l0 l1 l2 l3 l4 l5 hh
def fX11_wordAt_5b (n : Nat) (r5 : ai_H → Nat → Int32 → Int32 → Int32 → Int32 → Option (Int32 × ai_H)) (h : ai_H) (v0 : Nat) (v1 : Int32) (v2 : Int32) (v3 : Int32) (v4 : Int32) : Option (Int32 × ai_H) :=
  (pR n h v0 11 3).bind fun x1 =>
  (lA n h x1).bind fun x2 =>
  if x2 ≤ v4 then (
    some ((-1 : Int32), h))
  else (
    fX11_wordAt_18 n r5 bi_K h v0 v1 v2 v3 v4 (0 : Int32))
theorem sX11_wordAt_5b {n : Nat} {r5 : ai_H → Nat → Int32 → Int32 → Int32 → Int32 → Option (Int32 × ai_H)} {q : Int32 × ai_H} {h : ai_H} {v0 : Nat} {v1 : Int32} {v2 : Int32} {v3 : Int32} {v4 : Int32} {lv : ai_L} (R5 : ∀ (h : ai_H) (v0 : Nat) (v1 : Int32) (v2 : Int32) (v3 : Int32) (v4 : Int32) (lv : ai_L), ai_ld 0 lv = some (.ref v0) → ai_ld 1 lv = some (.int v1) → ai_ld 2 lv = some (.int v2) → ai_ld 3 lv = some (.int v3) → ai_ld 4 lv = some (.int v4) → r5 h v0 v1 v2 v3 v4 = some q → bi_go 0 tX11_wordAt n (fI n q) 5 lv [] h) (l0 : ai_ld 0 lv = some (.ref v0)) (l1 : ai_ld 1 lv = some (.int v1)) (l2 : ai_ld 2 lv = some (.int v2)) (l3 : ai_ld 3 lv = some (.int v3)) (l4 : ai_ld 4 lv = some (.int v4)) (hh : fX11_wordAt_5b n r5 h v0 v1 v2 v3 v4 = some q) : bi_go 0 tX11_wordAt n (fI n q) 5 lv [] h := by
  unfold fX11_wordAt_5b at hh
  refine go_il (pc := 5) rfl l4 ?_
  refine go_al (pc := 7) rfl l0 ?_
  obtain ⟨x1, ex1, hh⟩ := bi_bd hh
  refine go_gfR (pc := 8) rfl ex1 ?_
  obtain ⟨x2, ex2, hh⟩ := bi_bd hh
  refine go_len (pc := 11) rfl ex2 ?_
  refine bi_ite hh (fun hc hh => ?_) (fun hc hh => ?_)
  · refine go_cmpgeT (pc := 12) rfl hc ?_
    refine go_pi (pc := 126) rfl ?_
    exact go_ri (pc := 127) rfl hh
  · refine go_cmpgeF (pc := 12) rfl hc ?_
    refine go_pi (pc := 15) rfl ?_
    refine go_is (pc := 16) rfl ?_
    exact sX11_wordAt_18 R5 _ _ _ _ _ _ _ _ _ (bi_k1 l0 rfl rfl) (bi_k1 l1 rfl rfl) (bi_k1 l2 rfl rfl) (bi_k1 l3 rfl rfl) (bi_k1 l4 rfl rfl) bi_e1 hh
def fX11_wordAt_5 (n : Nat) : Nat → ai_H → Nat → Int32 → Int32 → Int32 → Int32 → Option (Int32 × ai_H)
  | 0 => fun _ _ _ _ _ _ => none
  | k + 1 => fun h v0 v1 v2 v3 v4 => fX11_wordAt_5b n (fX11_wordAt_5 n k) h v0 v1 v2 v3 v4
theorem sX11_wordAt_5 {n : Nat} {q : Int32 × ai_H} : ∀ (k : Nat) (h : ai_H) (v0 : Nat) (v1 : Int32) (v2 : Int32) (v3 : Int32) (v4 : Int32) (lv : ai_L), ai_ld 0 lv = some (.ref v0) → ai_ld 1 lv = some (.int v1) → ai_ld 2 lv = some (.int v2) → ai_ld 3 lv = some (.int v3) → ai_ld 4 lv = some (.int v4) → fX11_wordAt_5 n k h v0 v1 v2 v3 v4 = some q → bi_go 0 tX11_wordAt n (fI n q) 5 lv [] h
  | 0 => fun _ _ _ _ _ _ _ _ _ _ _ _ hh => by cases hh
  | k + 1 => fun h v0 v1 v2 v3 v4 lv l0 l1 l2 l3 l4 hh => sX11_wordAt_5b  (sX11_wordAt_5  k) l0 l1 l2 l3 l4 hh
def fX11_wordAt (n : Nat) (h : ai_H) (a0 : Nat) (a1 : Int32) (a2 : Int32) : Option (Int32 × ai_H) :=
  (kO n h a0 11).bind fun _ =>
  fX11_wordAt_5 n bi_K h a0 a1 a2 (0 : Int32) (0 : Int32)
theorem gX11_wordAt {n : Nat} {h : ai_H} {a0 : Nat} {a1 : Int32} {a2 : Int32} {q : Int32 × ai_H} (hh : fX11_wordAt n h a0 a1 a2 = some q) : kO n h a0 11 = some () := by
  obtain ⟨_, e, -⟩ := bi_bd hh
  exact e
theorem sX11_wordAt {n : Nat} {h : ai_H} {a0 : Nat} {a1 : Int32} {a2 : Int32} {q : Int32 × ai_H} (hh : fX11_wordAt n h a0 a1 a2 = some q) : bi_sp 1 146 [.ref a0, .int a1, .int a2] h n (fI n q) := by
  refine bi_en (D := 0) (T := tX11_wordAt) (funext fun pc => rfl) rfl (Nat.le_of_ble_eq_true rfl) ?_
  unfold fX11_wordAt at hh
  obtain ⟨_, eO, hh⟩ := bi_bd hh
  refine go_pi (pc := 0) rfl ?_
  refine go_is (pc := 1) rfl ?_
  refine go_pi (pc := 2) rfl ?_
  refine go_is (pc := 3) rfl ?_
  exact sX11_wordAt_5  _ _ _ _ _ _ _ _ (bi_k1 (bi_k1 (rfl : ai_ld 0 (lv_args 0 [.ref a0, .int a1, .int a2]) = some (.ref a0)) rfl rfl) rfl rfl) (bi_k1 (bi_k1 (rfl : ai_ld 1 (lv_args 0 [.ref a0, .int a1, .int a2]) = some (.int a1)) rfl rfl) rfl rfl) (bi_k1 (bi_k1 (rfl : ai_ld 2 (lv_args 0 [.ref a0, .int a1, .int a2]) = some (.int a2)) rfl rfl) rfl rfl) (bi_k1 bi_e1 rfl rfl) bi_e1 hh
def fX11_isSmall (n : Nat) (h : ai_H) (a0 : Nat) (a1 : Int32) : Option (Int32 × ai_H) :=
  (kO n h a0 11).bind fun _ =>
  (pI n h a0 11 6).bind fun x1 =>
  if x1 ≤ a1 then (
    some ((0 : Int32), h))
  else (
    (pR n h a0 11 0).bind fun x2 =>
    (gX 1 n h x2 a1).bind fun x3 =>
    if x3 < (97 : Int32) then (
      some ((0 : Int32), h))
    else (
      (pR n h a0 11 0).bind fun x4 =>
      (gX 1 n h x4 a1).bind fun x5 =>
      if (122 : Int32) < x5 then (
        some ((0 : Int32), h))
      else (
        some ((1 : Int32), h))))
theorem gX11_isSmall {n : Nat} {h : ai_H} {a0 : Nat} {a1 : Int32} {q : Int32 × ai_H} (hh : fX11_isSmall n h a0 a1 = some q) : kO n h a0 11 = some () := by
  obtain ⟨_, e, -⟩ := bi_bd hh
  exact e
theorem sX11_isSmall {n : Nat} {h : ai_H} {a0 : Nat} {a1 : Int32} {q : Int32 × ai_H} (hh : fX11_isSmall n h a0 a1 = some q) : bi_sp 1 147 [.ref a0, .int a1] h n (fI n q) := by
  refine bi_en (D := 0) (T := tX11_isSmall) (funext fun pc => rfl) rfl (Nat.le_of_ble_eq_true rfl) ?_
  unfold fX11_isSmall at hh
  obtain ⟨_, eO, hh⟩ := bi_bd hh
  refine go_il (pc := 0) rfl (rfl : ai_ld 1 (lv_args 0 [.ref a0, .int a1]) = some (.int a1)) ?_
  refine go_al (pc := 1) rfl (rfl : ai_ld 0 (lv_args 0 [.ref a0, .int a1]) = some (.ref a0)) ?_
  obtain ⟨x1, ex1, hh⟩ := bi_bd hh
  refine go_gfI (pc := 2) rfl ex1 ?_
  refine bi_ite hh (fun hc hh => ?_) (fun hc hh => ?_)
  · refine go_cmpgeT (pc := 5) rfl hc ?_
    refine go_pi (pc := 34) rfl ?_
    exact go_rz (pc := 35) rfl bi_z0 hh
  · refine go_cmpgeF (pc := 5) rfl hc ?_
    refine go_al (pc := 8) rfl (rfl : ai_ld 0 (lv_args 0 [.ref a0, .int a1]) = some (.ref a0)) ?_
    obtain ⟨x2, ex2, hh⟩ := bi_bd hh
    refine go_gfR (pc := 9) rfl ex2 ?_
    refine go_il (pc := 12) rfl (rfl : ai_ld 1 (lv_args 0 [.ref a0, .int a1]) = some (.int a1)) ?_
    obtain ⟨x3, ex3, hh⟩ := bi_bd hh
    refine go_iald (pc := 13) rfl ex3 ?_
    refine go_pi (pc := 14) rfl ?_
    refine bi_ite hh (fun hc hh => ?_) (fun hc hh => ?_)
    · refine go_cmpltT (pc := 16) rfl hc ?_
      refine go_pi (pc := 34) rfl ?_
      exact go_rz (pc := 35) rfl bi_z0 hh
    · refine go_cmpltF (pc := 16) rfl hc ?_
      refine go_al (pc := 19) rfl (rfl : ai_ld 0 (lv_args 0 [.ref a0, .int a1]) = some (.ref a0)) ?_
      obtain ⟨x4, ex4, hh⟩ := bi_bd hh
      refine go_gfR (pc := 20) rfl ex4 ?_
      refine go_il (pc := 23) rfl (rfl : ai_ld 1 (lv_args 0 [.ref a0, .int a1]) = some (.int a1)) ?_
      obtain ⟨x5, ex5, hh⟩ := bi_bd hh
      refine go_iald (pc := 24) rfl ex5 ?_
      refine go_pi (pc := 25) rfl ?_
      refine bi_ite hh (fun hc hh => ?_) (fun hc hh => ?_)
      · refine go_cmpgtT (pc := 27) rfl hc ?_
        refine go_pi (pc := 34) rfl ?_
        exact go_rz (pc := 35) rfl bi_z0 hh
      · refine go_cmpgtF (pc := 27) rfl hc ?_
        refine go_pi (pc := 30) rfl ?_
        refine go_goto (pc := 31) rfl ?_
        exact go_rz (pc := 35) rfl bi_z1 hh
def fX11_isDigit (n : Nat) (h : ai_H) (a0 : Nat) (a1 : Int32) : Option (Int32 × ai_H) :=
  (kO n h a0 11).bind fun _ =>
  (pI n h a0 11 6).bind fun x1 =>
  if x1 ≤ a1 then (
    some ((0 : Int32), h))
  else (
    (pR n h a0 11 0).bind fun x2 =>
    (gX 1 n h x2 a1).bind fun x3 =>
    if x3 < (48 : Int32) then (
      some ((0 : Int32), h))
    else (
      (pR n h a0 11 0).bind fun x4 =>
      (gX 1 n h x4 a1).bind fun x5 =>
      if (57 : Int32) < x5 then (
        some ((0 : Int32), h))
      else (
        some ((1 : Int32), h))))
theorem gX11_isDigit {n : Nat} {h : ai_H} {a0 : Nat} {a1 : Int32} {q : Int32 × ai_H} (hh : fX11_isDigit n h a0 a1 = some q) : kO n h a0 11 = some () := by
  obtain ⟨_, e, -⟩ := bi_bd hh
  exact e
theorem sX11_isDigit {n : Nat} {h : ai_H} {a0 : Nat} {a1 : Int32} {q : Int32 × ai_H} (hh : fX11_isDigit n h a0 a1 = some q) : bi_sp 1 148 [.ref a0, .int a1] h n (fI n q) := by
  refine bi_en (D := 0) (T := tX11_isDigit) (funext fun pc => rfl) rfl (Nat.le_of_ble_eq_true rfl) ?_
  unfold fX11_isDigit at hh
  obtain ⟨_, eO, hh⟩ := bi_bd hh
  refine go_il (pc := 0) rfl (rfl : ai_ld 1 (lv_args 0 [.ref a0, .int a1]) = some (.int a1)) ?_
  refine go_al (pc := 1) rfl (rfl : ai_ld 0 (lv_args 0 [.ref a0, .int a1]) = some (.ref a0)) ?_
  obtain ⟨x1, ex1, hh⟩ := bi_bd hh
  refine go_gfI (pc := 2) rfl ex1 ?_
  refine bi_ite hh (fun hc hh => ?_) (fun hc hh => ?_)
  · refine go_cmpgeT (pc := 5) rfl hc ?_
    refine go_pi (pc := 34) rfl ?_
    exact go_rz (pc := 35) rfl bi_z0 hh
  · refine go_cmpgeF (pc := 5) rfl hc ?_
    refine go_al (pc := 8) rfl (rfl : ai_ld 0 (lv_args 0 [.ref a0, .int a1]) = some (.ref a0)) ?_
    obtain ⟨x2, ex2, hh⟩ := bi_bd hh
    refine go_gfR (pc := 9) rfl ex2 ?_
    refine go_il (pc := 12) rfl (rfl : ai_ld 1 (lv_args 0 [.ref a0, .int a1]) = some (.int a1)) ?_
    obtain ⟨x3, ex3, hh⟩ := bi_bd hh
    refine go_iald (pc := 13) rfl ex3 ?_
    refine go_pi (pc := 14) rfl ?_
    refine bi_ite hh (fun hc hh => ?_) (fun hc hh => ?_)
    · refine go_cmpltT (pc := 16) rfl hc ?_
      refine go_pi (pc := 34) rfl ?_
      exact go_rz (pc := 35) rfl bi_z0 hh
    · refine go_cmpltF (pc := 16) rfl hc ?_
      refine go_al (pc := 19) rfl (rfl : ai_ld 0 (lv_args 0 [.ref a0, .int a1]) = some (.ref a0)) ?_
      obtain ⟨x4, ex4, hh⟩ := bi_bd hh
      refine go_gfR (pc := 20) rfl ex4 ?_
      refine go_il (pc := 23) rfl (rfl : ai_ld 1 (lv_args 0 [.ref a0, .int a1]) = some (.int a1)) ?_
      obtain ⟨x5, ex5, hh⟩ := bi_bd hh
      refine go_iald (pc := 24) rfl ex5 ?_
      refine go_pi (pc := 25) rfl ?_
      refine bi_ite hh (fun hc hh => ?_) (fun hc hh => ?_)
      · refine go_cmpgtT (pc := 27) rfl hc ?_
        refine go_pi (pc := 34) rfl ?_
        exact go_rz (pc := 35) rfl bi_z0 hh
      · refine go_cmpgtF (pc := 27) rfl hc ?_
        refine go_pi (pc := 30) rfl ?_
        refine go_goto (pc := 31) rfl ?_
        exact go_rz (pc := 35) rfl bi_z1 hh
def fX11_packed_37 (n : Nat) (r5 : ai_H → Nat → Int32 → Int32 → Int32 → Int32 → Option (Int32 × ai_H)) (h : ai_H) (v0 : Nat) (v1 : Int32) (v2 : Int32) (v4 : Int32) (s0 : Int32) (s1 : Int32) : Option (Int32 × ai_H) :=
  r5 h v0 v1 v2 (s1 ||| s0) (v4 + 1)
theorem sX11_packed_37 {n : Nat} {r5 : ai_H → Nat → Int32 → Int32 → Int32 → Int32 → Option (Int32 × ai_H)} {q : Int32 × ai_H} {h : ai_H} {v0 : Nat} {v1 : Int32} {v2 : Int32} {v4 : Int32} {s0 : Int32} {s1 : Int32} {lv : ai_L} (R5 : ∀ (h : ai_H) (v0 : Nat) (v1 : Int32) (v2 : Int32) (v3 : Int32) (v4 : Int32) (lv : ai_L), ai_ld 0 lv = some (.ref v0) → ai_ld 1 lv = some (.int v1) → ai_ld 2 lv = some (.int v2) → ai_ld 3 lv = some (.int v3) → ai_ld 4 lv = some (.int v4) → r5 h v0 v1 v2 v3 v4 = some q → bi_go 0 tX11_packed n (fI n q) 5 lv [] h) (l0 : ai_ld 0 lv = some (.ref v0)) (l1 : ai_ld 1 lv = some (.int v1)) (l2 : ai_ld 2 lv = some (.int v2)) (l4 : ai_ld 4 lv = some (.int v4)) (hh : fX11_packed_37 n r5 h v0 v1 v2 v4 s0 s1 = some q) : bi_go 0 tX11_packed n (fI n q) 37 lv [.int s0, .int s1] h := by
  unfold fX11_packed_37 at hh
  refine go_ior (pc := 37) rfl ?_
  refine go_is (pc := 38) rfl ?_
  refine go_inc (pc := 39) rfl (bi_k1 l4 rfl rfl) ?_
  refine go_goto (pc := 42) rfl ?_
  exact R5 _ _ _ _ _ _ _ (bi_k1 (bi_k1 l0 rfl rfl) rfl rfl) (bi_k1 (bi_k1 l1 rfl rfl) rfl rfl) (bi_k1 (bi_k1 l2 rfl rfl) rfl rfl) (bi_k1 bi_e1 rfl rfl) bi_e1 hh
def fX11_packed_5b (n : Nat) (r5 : ai_H → Nat → Int32 → Int32 → Int32 → Int32 → Option (Int32 × ai_H)) (h : ai_H) (v0 : Nat) (v1 : Int32) (v2 : Int32) (v3 : Int32) (v4 : Int32) : Option (Int32 × ai_H) :=
  if (v1 + (6 : Int32)) ≤ v4 then (
    some (v3, h))
  else (
    if v2 ≤ v4 then (
      fX11_packed_37 n r5 h v0 v1 v2 v4 (0 : Int32) (v3 <<< ((5 : Int32) &&& 31)))
    else (
      (pR n h v0 11 0).bind fun x1 =>
      (gX 1 n h x1 v4).bind fun x2 =>
      fX11_packed_37 n r5 h v0 v1 v2 v4 (x2 - (96 : Int32)) (v3 <<< ((5 : Int32) &&& 31))))
theorem sX11_packed_5b {n : Nat} {r5 : ai_H → Nat → Int32 → Int32 → Int32 → Int32 → Option (Int32 × ai_H)} {q : Int32 × ai_H} {h : ai_H} {v0 : Nat} {v1 : Int32} {v2 : Int32} {v3 : Int32} {v4 : Int32} {lv : ai_L} (R5 : ∀ (h : ai_H) (v0 : Nat) (v1 : Int32) (v2 : Int32) (v3 : Int32) (v4 : Int32) (lv : ai_L), ai_ld 0 lv = some (.ref v0) → ai_ld 1 lv = some (.int v1) → ai_ld 2 lv = some (.int v2) → ai_ld 3 lv = some (.int v3) → ai_ld 4 lv = some (.int v4) → r5 h v0 v1 v2 v3 v4 = some q → bi_go 0 tX11_packed n (fI n q) 5 lv [] h) (l0 : ai_ld 0 lv = some (.ref v0)) (l1 : ai_ld 1 lv = some (.int v1)) (l2 : ai_ld 2 lv = some (.int v2)) (l3 : ai_ld 3 lv = some (.int v3)) (l4 : ai_ld 4 lv = some (.int v4)) (hh : fX11_packed_5b n r5 h v0 v1 v2 v3 v4 = some q) : bi_go 0 tX11_packed n (fI n q) 5 lv [] h := by
  unfold fX11_packed_5b at hh
  refine go_il (pc := 5) rfl l4 ?_
  refine go_il (pc := 7) rfl l1 ?_
  refine go_pi (pc := 8) rfl ?_
  refine go_iadd (pc := 10) rfl ?_
  refine bi_ite hh (fun hc hh => ?_) (fun hc hh => ?_)
  · refine go_cmpgeT (pc := 11) rfl hc ?_
    refine go_il (pc := 45) rfl l3 ?_
    exact go_ri (pc := 46) rfl hh
  · refine go_cmpgeF (pc := 11) rfl hc ?_
    refine go_il (pc := 14) rfl l3 ?_
    refine go_pi (pc := 15) rfl ?_
    refine go_ishl (pc := 16) rfl ?_
    refine go_il (pc := 17) rfl l4 ?_
    refine go_il (pc := 19) rfl l2 ?_
    refine bi_ite hh (fun hc hh => ?_) (fun hc hh => ?_)
    · refine go_cmpgeT (pc := 20) rfl hc ?_
      refine go_pi (pc := 36) rfl ?_
      exact sX11_packed_37 R5 l0 l1 l2 l4 hh
    · refine go_cmpgeF (pc := 20) rfl hc ?_
      refine go_al (pc := 23) rfl l0 ?_
      obtain ⟨x1, ex1, hh⟩ := bi_bd hh
      refine go_gfR (pc := 24) rfl ex1 ?_
      refine go_il (pc := 27) rfl l4 ?_
      obtain ⟨x2, ex2, hh⟩ := bi_bd hh
      refine go_iald (pc := 29) rfl ex2 ?_
      refine go_pi (pc := 30) rfl ?_
      refine go_isub (pc := 32) rfl ?_
      refine go_goto (pc := 33) rfl ?_
      exact sX11_packed_37 R5 l0 l1 l2 l4 hh
def fX11_packed_5 (n : Nat) : Nat → ai_H → Nat → Int32 → Int32 → Int32 → Int32 → Option (Int32 × ai_H)
  | 0 => fun _ _ _ _ _ _ => none
  | k + 1 => fun h v0 v1 v2 v3 v4 => fX11_packed_5b n (fX11_packed_5 n k) h v0 v1 v2 v3 v4
theorem sX11_packed_5 {n : Nat} {q : Int32 × ai_H} : ∀ (k : Nat) (h : ai_H) (v0 : Nat) (v1 : Int32) (v2 : Int32) (v3 : Int32) (v4 : Int32) (lv : ai_L), ai_ld 0 lv = some (.ref v0) → ai_ld 1 lv = some (.int v1) → ai_ld 2 lv = some (.int v2) → ai_ld 3 lv = some (.int v3) → ai_ld 4 lv = some (.int v4) → fX11_packed_5 n k h v0 v1 v2 v3 v4 = some q → bi_go 0 tX11_packed n (fI n q) 5 lv [] h
  | 0 => fun _ _ _ _ _ _ _ _ _ _ _ _ hh => by cases hh
  | k + 1 => fun h v0 v1 v2 v3 v4 lv l0 l1 l2 l3 l4 hh => sX11_packed_5b  (sX11_packed_5  k) l0 l1 l2 l3 l4 hh
def fX11_packed (n : Nat) (h : ai_H) (a0 : Nat) (a1 : Int32) (a2 : Int32) : Option (Int32 × ai_H) :=
  (kO n h a0 11).bind fun _ =>
  fX11_packed_5 n bi_K h a0 a1 a2 (0 : Int32) a1
theorem gX11_packed {n : Nat} {h : ai_H} {a0 : Nat} {a1 : Int32} {a2 : Int32} {q : Int32 × ai_H} (hh : fX11_packed n h a0 a1 a2 = some q) : kO n h a0 11 = some () := by
  obtain ⟨_, e, -⟩ := bi_bd hh
  exact e
theorem sX11_packed {n : Nat} {h : ai_H} {a0 : Nat} {a1 : Int32} {a2 : Int32} {q : Int32 × ai_H} (hh : fX11_packed n h a0 a1 a2 = some q) : bi_sp 1 151 [.ref a0, .int a1, .int a2] h n (fI n q) := by
  refine bi_en (D := 0) (T := tX11_packed) (funext fun pc => rfl) rfl (Nat.le_of_ble_eq_true rfl) ?_
  unfold fX11_packed at hh
  obtain ⟨_, eO, hh⟩ := bi_bd hh
  refine go_pi (pc := 0) rfl ?_
  refine go_is (pc := 1) rfl ?_
  refine go_il (pc := 2) rfl (bi_k1 (rfl : ai_ld 1 (lv_args 0 [.ref a0, .int a1, .int a2]) = some (.int a1)) rfl rfl) ?_
  refine go_is (pc := 3) rfl ?_
  exact sX11_packed_5  _ _ _ _ _ _ _ _ (bi_k1 (bi_k1 (rfl : ai_ld 0 (lv_args 0 [.ref a0, .int a1, .int a2]) = some (.ref a0)) rfl rfl) rfl rfl) (bi_k1 (bi_k1 (rfl : ai_ld 1 (lv_args 0 [.ref a0, .int a1, .int a2]) = some (.int a1)) rfl rfl) rfl rfl) (bi_k1 (bi_k1 (rfl : ai_ld 2 (lv_args 0 [.ref a0, .int a1, .int a2]) = some (.int a2)) rfl rfl) rfl rfl) (bi_k1 bi_e1 rfl rfl) bi_e1 hh
def fX11_signToken_192 (n : Nat) (h : ai_H) (s0 : Int32) (s1 : Nat) : Option (Unit × ai_H) :=
  (sF n h s1 11 9 (.int) (.int s0)).bind fun h1 =>
  some ((), h1)
theorem sX11_signToken_192 {n : Nat} {q : Unit × ai_H} {h : ai_H} {s0 : Int32} {s1 : Nat} {lv : ai_L} (hh : fX11_signToken_192 n h s0 s1 = some q) : bi_go 0 tX11_signToken n (fV n q) 192 lv [.int s0, .ref s1] h := by
  unfold fX11_signToken_192 at hh
  obtain ⟨h1, eh1, hh⟩ := bi_bd hh
  refine go_pf (pc := 192) rfl eh1 ?_
  refine go_goto (pc := 195) rfl ?_
  exact go_rv (pc := 290) rfl hh
def fX11_signToken_135 (n : Nat) (h : ai_H) (v0 : Nat) (v2 : Int32) (v3 : Int32) : Option (Unit × ai_H) :=
  (sF n h v0 11 8 (.int) (.int (5 : Int32))).bind fun h1 =>
  (pI n h1 v0 11 9).bind fun x2 =>
  if ¬ x2 = (61 : Int32) then (
    (pI n h1 v0 11 9).bind fun x3 =>
    if ¬ x3 = (60 : Int32) then (
      if v2 = 0 then (
        fX11_signToken_192 n h1 (5 : Int32) v0)
      else (
        fX11_signToken_192 n h1 (4 : Int32) v0))
    else (
      if v2 = 0 then (
        if v3 = 0 then (
          fX11_signToken_192 n h1 (0 : Int32) v0)
        else (
          fX11_signToken_192 n h1 (3 : Int32) v0))
      else (
        fX11_signToken_192 n h1 (1 : Int32) v0)))
  else (
    fX11_signToken_192 n h1 (2 : Int32) v0)
theorem sX11_signToken_135 {n : Nat} {q : Unit × ai_H} {h : ai_H} {v0 : Nat} {v2 : Int32} {v3 : Int32} {lv : ai_L} (l0 : ai_ld 0 lv = some (.ref v0)) (l2 : ai_ld 2 lv = some (.int v2)) (l3 : ai_ld 3 lv = some (.int v3)) (hh : fX11_signToken_135 n h v0 v2 v3 = some q) : bi_go 0 tX11_signToken n (fV n q) 135 lv [] h := by
  unfold fX11_signToken_135 at hh
  refine go_al (pc := 135) rfl l0 ?_
  refine go_pi (pc := 136) rfl ?_
  obtain ⟨h1, eh1, hh⟩ := bi_bd hh
  refine go_pf (pc := 137) rfl eh1 ?_
  refine go_al (pc := 140) rfl l0 ?_
  refine go_al (pc := 141) rfl l0 ?_
  obtain ⟨x2, ex2, hh⟩ := bi_bd hh
  refine go_gfI (pc := 142) rfl ex2 ?_
  refine go_pi (pc := 145) rfl ?_
  refine bi_ite hh (fun hc hh => ?_) (fun hc hh => ?_)
  · refine go_cmpneT (pc := 147) rfl hc ?_
    refine go_al (pc := 154) rfl l0 ?_
    obtain ⟨x3, ex3, hh⟩ := bi_bd hh
    refine go_gfI (pc := 155) rfl ex3 ?_
    refine go_pi (pc := 158) rfl ?_
    refine bi_ite hh (fun hc hh => ?_) (fun hc hh => ?_)
    · refine go_cmpneT (pc := 160) rfl hc ?_
      refine go_il (pc := 183) rfl l2 ?_
      refine bi_ite hh (fun hc hh => ?_) (fun hc hh => ?_)
      · refine go_ifeqT (pc := 184) rfl hc ?_
        refine go_pi (pc := 191) rfl ?_
        exact sX11_signToken_192   hh
      · refine go_ifeqF (pc := 184) rfl hc ?_
        refine go_pi (pc := 187) rfl ?_
        refine go_goto (pc := 188) rfl ?_
        exact sX11_signToken_192   hh
    · refine go_cmpneF (pc := 160) rfl hc ?_
      refine go_il (pc := 163) rfl l2 ?_
      refine bi_ite hh (fun hc hh => ?_) (fun hc hh => ?_)
      · refine go_ifeqT (pc := 164) rfl hc ?_
        refine go_il (pc := 171) rfl l3 ?_
        refine bi_ite hh (fun hc hh => ?_) (fun hc hh => ?_)
        · refine go_ifeqT (pc := 172) rfl hc ?_
          refine go_pi (pc := 179) rfl ?_
          refine go_goto (pc := 180) rfl ?_
          exact sX11_signToken_192   hh
        · refine go_ifeqF (pc := 172) rfl hc ?_
          refine go_pi (pc := 175) rfl ?_
          refine go_goto (pc := 176) rfl ?_
          exact sX11_signToken_192   hh
      · refine go_ifeqF (pc := 164) rfl hc ?_
        refine go_pi (pc := 167) rfl ?_
        refine go_goto (pc := 168) rfl ?_
        exact sX11_signToken_192   hh
  · refine go_cmpneF (pc := 147) rfl hc ?_
    refine go_pi (pc := 150) rfl ?_
    refine go_goto (pc := 151) rfl ?_
    exact sX11_signToken_192   hh
def fX11_signToken_125 (n : Nat) (h : ai_H) (v0 : Nat) (v2 : Int32) (v3 : Int32) : Option (Unit × ai_H) :=
  (pI n h v0 11 7).bind fun x1 =>
  (sF n h v0 11 7 (.int) (.int (x1 + (1 : Int32)))).bind fun h2 =>
  fX11_signToken_135 n h2 v0 v2 v3
theorem sX11_signToken_125 {n : Nat} {q : Unit × ai_H} {h : ai_H} {v0 : Nat} {v2 : Int32} {v3 : Int32} {lv : ai_L} (l0 : ai_ld 0 lv = some (.ref v0)) (l2 : ai_ld 2 lv = some (.int v2)) (l3 : ai_ld 3 lv = some (.int v3)) (hh : fX11_signToken_125 n h v0 v2 v3 = some q) : bi_go 0 tX11_signToken n (fV n q) 125 lv [] h := by
  unfold fX11_signToken_125 at hh
  refine go_al (pc := 125) rfl l0 ?_
  refine go_dup (pc := 126) rfl rfl ?_
  obtain ⟨x1, ex1, hh⟩ := bi_bd hh
  refine go_gfI (pc := 127) rfl ex1 ?_
  refine go_pi (pc := 130) rfl ?_
  refine go_iadd (pc := 131) rfl ?_
  obtain ⟨h2, eh2, hh⟩ := bi_bd hh
  refine go_pf (pc := 132) rfl eh2 ?_
  exact sX11_signToken_135  l0 l2 l3 hh
def fX11_signToken_116 (n : Nat) (h : ai_H) (v0 : Nat) (v2 : Int32) (s0 : Int32) : Option (Unit × ai_H) :=
  if ¬ v2 = 0 then (
    fX11_signToken_125 n h v0 v2 s0)
  else (
    if s0 = 0 then (
      fX11_signToken_135 n h v0 v2 s0)
    else (
      fX11_signToken_125 n h v0 v2 s0))
theorem sX11_signToken_116 {n : Nat} {q : Unit × ai_H} {h : ai_H} {v0 : Nat} {v2 : Int32} {s0 : Int32} {lv : ai_L} (l0 : ai_ld 0 lv = some (.ref v0)) (l2 : ai_ld 2 lv = some (.int v2)) (hh : fX11_signToken_116 n h v0 v2 s0 = some q) : bi_go 0 tX11_signToken n (fV n q) 116 lv [.int s0] h := by
  unfold fX11_signToken_116 at hh
  refine go_is (pc := 116) rfl ?_
  refine go_il (pc := 117) rfl (bi_k1 l2 rfl rfl) ?_
  refine bi_ite hh (fun hc hh => ?_) (fun hc hh => ?_)
  · refine go_ifneT (pc := 118) rfl hc ?_
    exact sX11_signToken_125  (bi_k1 l0 rfl rfl) (bi_k1 l2 rfl rfl) bi_e1 hh
  · refine go_ifneF (pc := 118) rfl hc ?_
    refine go_il (pc := 121) rfl bi_e1 ?_
    refine bi_ite hh (fun hc hh => ?_) (fun hc hh => ?_)
    · refine go_ifeqT (pc := 122) rfl hc ?_
      exact sX11_signToken_135  (bi_k1 l0 rfl rfl) (bi_k1 l2 rfl rfl) bi_e1 hh
    · refine go_ifeqF (pc := 122) rfl hc ?_
      exact sX11_signToken_125  (bi_k1 l0 rfl rfl) (bi_k1 l2 rfl rfl) bi_e1 hh
def fX11_signToken_115 (n : Nat) (h : ai_H) (v0 : Nat) (v2 : Int32) : Option (Unit × ai_H) :=
  fX11_signToken_116 n h v0 v2 (0 : Int32)
theorem sX11_signToken_115 {n : Nat} {q : Unit × ai_H} {h : ai_H} {v0 : Nat} {v2 : Int32} {lv : ai_L} (l0 : ai_ld 0 lv = some (.ref v0)) (l2 : ai_ld 2 lv = some (.int v2)) (hh : fX11_signToken_115 n h v0 v2 = some q) : bi_go 0 tX11_signToken n (fV n q) 115 lv [] h := by
  unfold fX11_signToken_115 at hh
  refine go_pi (pc := 115) rfl ?_
  exact sX11_signToken_116  l0 l2 hh
def fX11_signToken_95 (n : Nat) (h : ai_H) (v0 : Nat) (v1 : Int32) (s0 : Int32) : Option (Unit × ai_H) :=
  (pI n h v0 11 9).bind fun x1 =>
  if ¬ x1 = (60 : Int32) then (
    fX11_signToken_115 n h v0 s0)
  else (
    if ¬ v1 = (62 : Int32) then (
      fX11_signToken_115 n h v0 s0)
    else (
      fX11_signToken_116 n h v0 s0 (1 : Int32)))
theorem sX11_signToken_95 {n : Nat} {q : Unit × ai_H} {h : ai_H} {v0 : Nat} {v1 : Int32} {s0 : Int32} {lv : ai_L} (l0 : ai_ld 0 lv = some (.ref v0)) (l1 : ai_ld 1 lv = some (.int v1)) (hh : fX11_signToken_95 n h v0 v1 s0 = some q) : bi_go 0 tX11_signToken n (fV n q) 95 lv [.int s0] h := by
  unfold fX11_signToken_95 at hh
  refine go_is (pc := 95) rfl ?_
  refine go_al (pc := 96) rfl (bi_k1 l0 rfl rfl) ?_
  obtain ⟨x1, ex1, hh⟩ := bi_bd hh
  refine go_gfI (pc := 97) rfl ex1 ?_
  refine go_pi (pc := 100) rfl ?_
  refine bi_ite hh (fun hc hh => ?_) (fun hc hh => ?_)
  · refine go_cmpneT (pc := 102) rfl hc ?_
    exact sX11_signToken_115  (bi_k1 l0 rfl rfl) bi_e1 hh
  · refine go_cmpneF (pc := 102) rfl hc ?_
    refine go_il (pc := 105) rfl (bi_k1 l1 rfl rfl) ?_
    refine go_pi (pc := 106) rfl ?_
    refine bi_ite hh (fun hc hh => ?_) (fun hc hh => ?_)
    · refine go_cmpneT (pc := 108) rfl hc ?_
      exact sX11_signToken_115  (bi_k1 l0 rfl rfl) bi_e1 hh
    · refine go_cmpneF (pc := 108) rfl hc ?_
      refine go_pi (pc := 111) rfl ?_
      refine go_goto (pc := 112) rfl ?_
      exact sX11_signToken_116  (bi_k1 l0 rfl rfl) bi_e1 hh
def fX11_signToken_94 (n : Nat) (h : ai_H) (v0 : Nat) (v1 : Int32) : Option (Unit × ai_H) :=
  fX11_signToken_95 n h v0 v1 (0 : Int32)
theorem sX11_signToken_94 {n : Nat} {q : Unit × ai_H} {h : ai_H} {v0 : Nat} {v1 : Int32} {lv : ai_L} (l0 : ai_ld 0 lv = some (.ref v0)) (l1 : ai_ld 1 lv = some (.int v1)) (hh : fX11_signToken_94 n h v0 v1 = some q) : bi_go 0 tX11_signToken n (fV n q) 94 lv [] h := by
  unfold fX11_signToken_94 at hh
  refine go_pi (pc := 94) rfl ?_
  exact sX11_signToken_95  l0 l1 hh
def fX11_signToken_74 (n : Nat) (h : ai_H) (v0 : Nat) (s0 : Int32) : Option (Unit × ai_H) :=
  (pI n h v0 11 9).bind fun x1 =>
  if x1 = (61 : Int32) then (
    fX11_signToken_94 n h v0 s0)
  else (
    if ¬ s0 = (61 : Int32) then (
      fX11_signToken_94 n h v0 s0)
    else (
      fX11_signToken_95 n h v0 s0 (1 : Int32)))
theorem sX11_signToken_74 {n : Nat} {q : Unit × ai_H} {h : ai_H} {v0 : Nat} {s0 : Int32} {lv : ai_L} (l0 : ai_ld 0 lv = some (.ref v0)) (hh : fX11_signToken_74 n h v0 s0 = some q) : bi_go 0 tX11_signToken n (fV n q) 74 lv [.int s0] h := by
  unfold fX11_signToken_74 at hh
  refine go_is (pc := 74) rfl ?_
  refine go_al (pc := 75) rfl (bi_k1 l0 rfl rfl) ?_
  obtain ⟨x1, ex1, hh⟩ := bi_bd hh
  refine go_gfI (pc := 76) rfl ex1 ?_
  refine go_pi (pc := 79) rfl ?_
  refine bi_ite hh (fun hc hh => ?_) (fun hc hh => ?_)
  · refine go_cmpeqT (pc := 81) rfl hc ?_
    exact sX11_signToken_94  (bi_k1 l0 rfl rfl) bi_e1 hh
  · refine go_cmpeqF (pc := 81) rfl hc ?_
    refine go_il (pc := 84) rfl bi_e1 ?_
    refine go_pi (pc := 85) rfl ?_
    refine bi_ite hh (fun hc hh => ?_) (fun hc hh => ?_)
    · refine go_cmpneT (pc := 87) rfl hc ?_
      exact sX11_signToken_94  (bi_k1 l0 rfl rfl) bi_e1 hh
    · refine go_cmpneF (pc := 87) rfl hc ?_
      refine go_pi (pc := 90) rfl ?_
      refine go_goto (pc := 91) rfl ?_
      exact sX11_signToken_95  (bi_k1 l0 rfl rfl) bi_e1 hh
def fX11_signToken_50 (n : Nat) (h : ai_H) (v0 : Nat) : Option (Unit × ai_H) :=
  (pI n h v0 11 7).bind fun x1 =>
  (pI n h v0 11 6).bind fun x2 =>
  if x2 ≤ x1 then (
    fX11_signToken_74 n h v0 (0 : Int32))
  else (
    (pR n h v0 11 0).bind fun x3 =>
    (pI n h v0 11 7).bind fun x4 =>
    (gX 1 n h x3 x4).bind fun x5 =>
    fX11_signToken_74 n h v0 x5)
theorem sX11_signToken_50 {n : Nat} {q : Unit × ai_H} {h : ai_H} {v0 : Nat} {lv : ai_L} (l0 : ai_ld 0 lv = some (.ref v0)) (hh : fX11_signToken_50 n h v0 = some q) : bi_go 0 tX11_signToken n (fV n q) 50 lv [] h := by
  unfold fX11_signToken_50 at hh
  refine go_al (pc := 50) rfl l0 ?_
  obtain ⟨x1, ex1, hh⟩ := bi_bd hh
  refine go_gfI (pc := 51) rfl ex1 ?_
  refine go_al (pc := 54) rfl l0 ?_
  obtain ⟨x2, ex2, hh⟩ := bi_bd hh
  refine go_gfI (pc := 55) rfl ex2 ?_
  refine bi_ite hh (fun hc hh => ?_) (fun hc hh => ?_)
  · refine go_cmpgeT (pc := 58) rfl hc ?_
    refine go_pi (pc := 73) rfl ?_
    exact sX11_signToken_74  l0 hh
  · refine go_cmpgeF (pc := 58) rfl hc ?_
    refine go_al (pc := 61) rfl l0 ?_
    obtain ⟨x3, ex3, hh⟩ := bi_bd hh
    refine go_gfR (pc := 62) rfl ex3 ?_
    refine go_al (pc := 65) rfl l0 ?_
    obtain ⟨x4, ex4, hh⟩ := bi_bd hh
    refine go_gfI (pc := 66) rfl ex4 ?_
    obtain ⟨x5, ex5, hh⟩ := bi_bd hh
    refine go_iald (pc := 69) rfl ex5 ?_
    refine go_goto (pc := 70) rfl ?_
    exact sX11_signToken_74  l0 hh
def fX11_signToken_275 (n : Nat) (h : ai_H) (v0 : Nat) (s0 : Int32) : Option (Unit × ai_H) :=
  if s0 = 0 then (
    (sF n h v0 11 8 (.int) (.int (6 : Int32))).bind fun h1 =>
    some ((), h1))
  else (
    (sF n h v0 11 8 (.int) (.int (4 : Int32))).bind fun h2 =>
    some ((), h2))
theorem sX11_signToken_275 {n : Nat} {q : Unit × ai_H} {h : ai_H} {v0 : Nat} {s0 : Int32} {lv : ai_L} (l0 : ai_ld 0 lv = some (.ref v0)) (hh : fX11_signToken_275 n h v0 s0 = some q) : bi_go 0 tX11_signToken n (fV n q) 275 lv [.int s0] h := by
  unfold fX11_signToken_275 at hh
  refine go_is (pc := 275) rfl ?_
  refine go_al (pc := 276) rfl (bi_k1 l0 rfl rfl) ?_
  refine go_il (pc := 277) rfl bi_e1 ?_
  refine bi_ite hh (fun hc hh => ?_) (fun hc hh => ?_)
  · refine go_ifeqT (pc := 278) rfl hc ?_
    refine go_pi (pc := 285) rfl ?_
    obtain ⟨h1, eh1, hh⟩ := bi_bd hh
    refine go_pf (pc := 287) rfl eh1 ?_
    exact go_rv (pc := 290) rfl hh
  · refine go_ifeqF (pc := 278) rfl hc ?_
    refine go_pi (pc := 281) rfl ?_
    refine go_goto (pc := 282) rfl ?_
    obtain ⟨h2, eh2, hh⟩ := bi_bd hh
    refine go_pf (pc := 287) rfl eh2 ?_
    exact go_rv (pc := 290) rfl hh
def fX11_signToken_270 (n : Nat) (h : ai_H) (v0 : Nat) : Option (Unit × ai_H) :=
  fX11_signToken_275 n h v0 (1 : Int32)
theorem sX11_signToken_270 {n : Nat} {q : Unit × ai_H} {h : ai_H} {v0 : Nat} {lv : ai_L} (l0 : ai_ld 0 lv = some (.ref v0)) (hh : fX11_signToken_270 n h v0 = some q) : bi_go 0 tX11_signToken n (fV n q) 270 lv [] h := by
  unfold fX11_signToken_270 at hh
  refine go_pi (pc := 270) rfl ?_
  refine go_goto (pc := 271) rfl ?_
  exact sX11_signToken_275  l0 hh
def fX11_signToken (n : Nat) (h : ai_H) (a0 : Nat) : Option (Unit × ai_H) :=
  (kO n h a0 11).bind fun _ =>
  (pR n h a0 11 0).bind fun x1 =>
  (pI n h a0 11 7).bind fun x2 =>
  (gX 1 n h x1 x2).bind fun x3 =>
  (sF n h a0 11 9 (.int) (.int x3)).bind fun h4 =>
  (pI n h4 a0 11 7).bind fun x5 =>
  (sF n h4 a0 11 7 (.int) (.int (x5 + (1 : Int32)))).bind fun h6 =>
  (pI n h6 a0 11 9).bind fun x7 =>
  if x7 = (60 : Int32) then (
    fX11_signToken_50 n h6 a0)
  else (
    (pI n h6 a0 11 9).bind fun x8 =>
    if x8 = (62 : Int32) then (
      fX11_signToken_50 n h6 a0)
    else (
      (pI n h6 a0 11 9).bind fun x9 =>
      if ¬ x9 = (61 : Int32) then (
        (pI n h6 a0 11 9).bind fun x10 =>
        if x10 = (59 : Int32) then (
          fX11_signToken_270 n h6 a0)
        else (
          (pI n h6 a0 11 9).bind fun x11 =>
          if x11 = (40 : Int32) then (
            fX11_signToken_270 n h6 a0)
          else (
            (pI n h6 a0 11 9).bind fun x12 =>
            if x12 = (41 : Int32) then (
              fX11_signToken_270 n h6 a0)
            else (
              (pI n h6 a0 11 9).bind fun x13 =>
              if x13 = (43 : Int32) then (
                fX11_signToken_270 n h6 a0)
              else (
                (pI n h6 a0 11 9).bind fun x14 =>
                if x14 = (45 : Int32) then (
                  fX11_signToken_270 n h6 a0)
                else (
                  (pI n h6 a0 11 9).bind fun x15 =>
                  if x15 = (42 : Int32) then (
                    fX11_signToken_270 n h6 a0)
                  else (
                    (pI n h6 a0 11 9).bind fun x16 =>
                    if x16 = (47 : Int32) then (
                      fX11_signToken_270 n h6 a0)
                    else (
                      (pI n h6 a0 11 9).bind fun x17 =>
                      if ¬ x17 = (37 : Int32) then (
                        fX11_signToken_275 n h6 a0 (0 : Int32))
                      else (
                        fX11_signToken_270 n h6 a0)))))))))
      else (
        fX11_signToken_50 n h6 a0)))
theorem gX11_signToken {n : Nat} {h : ai_H} {a0 : Nat} {q : Unit × ai_H} (hh : fX11_signToken n h a0 = some q) : kO n h a0 11 = some () := by
  obtain ⟨_, e, -⟩ := bi_bd hh
  exact e
theorem sX11_signToken {n : Nat} {h : ai_H} {a0 : Nat} {q : Unit × ai_H} (hh : fX11_signToken n h a0 = some q) : bi_sp 1 150 [.ref a0] h n (fV n q) := by
  refine bi_en (D := 0) (T := tX11_signToken) (funext fun pc => rfl) rfl (Nat.le_of_ble_eq_true rfl) ?_
  unfold fX11_signToken at hh
  obtain ⟨_, eO, hh⟩ := bi_bd hh
  refine go_al (pc := 0) rfl (rfl : ai_ld 0 (lv_args 0 [.ref a0]) = some (.ref a0)) ?_
  refine go_al (pc := 1) rfl (rfl : ai_ld 0 (lv_args 0 [.ref a0]) = some (.ref a0)) ?_
  obtain ⟨x1, ex1, hh⟩ := bi_bd hh
  refine go_gfR (pc := 2) rfl ex1 ?_
  refine go_al (pc := 5) rfl (rfl : ai_ld 0 (lv_args 0 [.ref a0]) = some (.ref a0)) ?_
  obtain ⟨x2, ex2, hh⟩ := bi_bd hh
  refine go_gfI (pc := 6) rfl ex2 ?_
  obtain ⟨x3, ex3, hh⟩ := bi_bd hh
  refine go_iald (pc := 9) rfl ex3 ?_
  obtain ⟨h4, eh4, hh⟩ := bi_bd hh
  refine go_pf (pc := 10) rfl eh4 ?_
  refine go_al (pc := 13) rfl (rfl : ai_ld 0 (lv_args 0 [.ref a0]) = some (.ref a0)) ?_
  refine go_dup (pc := 14) rfl rfl ?_
  obtain ⟨x5, ex5, hh⟩ := bi_bd hh
  refine go_gfI (pc := 15) rfl ex5 ?_
  refine go_pi (pc := 18) rfl ?_
  refine go_iadd (pc := 19) rfl ?_
  obtain ⟨h6, eh6, hh⟩ := bi_bd hh
  refine go_pf (pc := 20) rfl eh6 ?_
  refine go_al (pc := 23) rfl (rfl : ai_ld 0 (lv_args 0 [.ref a0]) = some (.ref a0)) ?_
  obtain ⟨x7, ex7, hh⟩ := bi_bd hh
  refine go_gfI (pc := 24) rfl ex7 ?_
  refine go_pi (pc := 27) rfl ?_
  refine bi_ite hh (fun hc hh => ?_) (fun hc hh => ?_)
  · refine go_cmpeqT (pc := 29) rfl hc ?_
    exact sX11_signToken_50  (rfl : ai_ld 0 (lv_args 0 [.ref a0]) = some (.ref a0)) hh
  · refine go_cmpeqF (pc := 29) rfl hc ?_
    refine go_al (pc := 32) rfl (rfl : ai_ld 0 (lv_args 0 [.ref a0]) = some (.ref a0)) ?_
    obtain ⟨x8, ex8, hh⟩ := bi_bd hh
    refine go_gfI (pc := 33) rfl ex8 ?_
    refine go_pi (pc := 36) rfl ?_
    refine bi_ite hh (fun hc hh => ?_) (fun hc hh => ?_)
    · refine go_cmpeqT (pc := 38) rfl hc ?_
      exact sX11_signToken_50  (rfl : ai_ld 0 (lv_args 0 [.ref a0]) = some (.ref a0)) hh
    · refine go_cmpeqF (pc := 38) rfl hc ?_
      refine go_al (pc := 41) rfl (rfl : ai_ld 0 (lv_args 0 [.ref a0]) = some (.ref a0)) ?_
      obtain ⟨x9, ex9, hh⟩ := bi_bd hh
      refine go_gfI (pc := 42) rfl ex9 ?_
      refine go_pi (pc := 45) rfl ?_
      refine bi_ite hh (fun hc hh => ?_) (fun hc hh => ?_)
      · refine go_cmpneT (pc := 47) rfl hc ?_
        refine go_al (pc := 198) rfl (rfl : ai_ld 0 (lv_args 0 [.ref a0]) = some (.ref a0)) ?_
        obtain ⟨x10, ex10, hh⟩ := bi_bd hh
        refine go_gfI (pc := 199) rfl ex10 ?_
        refine go_pi (pc := 202) rfl ?_
        refine bi_ite hh (fun hc hh => ?_) (fun hc hh => ?_)
        · refine go_cmpeqT (pc := 204) rfl hc ?_
          exact sX11_signToken_270  (rfl : ai_ld 0 (lv_args 0 [.ref a0]) = some (.ref a0)) hh
        · refine go_cmpeqF (pc := 204) rfl hc ?_
          refine go_al (pc := 207) rfl (rfl : ai_ld 0 (lv_args 0 [.ref a0]) = some (.ref a0)) ?_
          obtain ⟨x11, ex11, hh⟩ := bi_bd hh
          refine go_gfI (pc := 208) rfl ex11 ?_
          refine go_pi (pc := 211) rfl ?_
          refine bi_ite hh (fun hc hh => ?_) (fun hc hh => ?_)
          · refine go_cmpeqT (pc := 213) rfl hc ?_
            exact sX11_signToken_270  (rfl : ai_ld 0 (lv_args 0 [.ref a0]) = some (.ref a0)) hh
          · refine go_cmpeqF (pc := 213) rfl hc ?_
            refine go_al (pc := 216) rfl (rfl : ai_ld 0 (lv_args 0 [.ref a0]) = some (.ref a0)) ?_
            obtain ⟨x12, ex12, hh⟩ := bi_bd hh
            refine go_gfI (pc := 217) rfl ex12 ?_
            refine go_pi (pc := 220) rfl ?_
            refine bi_ite hh (fun hc hh => ?_) (fun hc hh => ?_)
            · refine go_cmpeqT (pc := 222) rfl hc ?_
              exact sX11_signToken_270  (rfl : ai_ld 0 (lv_args 0 [.ref a0]) = some (.ref a0)) hh
            · refine go_cmpeqF (pc := 222) rfl hc ?_
              refine go_al (pc := 225) rfl (rfl : ai_ld 0 (lv_args 0 [.ref a0]) = some (.ref a0)) ?_
              obtain ⟨x13, ex13, hh⟩ := bi_bd hh
              refine go_gfI (pc := 226) rfl ex13 ?_
              refine go_pi (pc := 229) rfl ?_
              refine bi_ite hh (fun hc hh => ?_) (fun hc hh => ?_)
              · refine go_cmpeqT (pc := 231) rfl hc ?_
                exact sX11_signToken_270  (rfl : ai_ld 0 (lv_args 0 [.ref a0]) = some (.ref a0)) hh
              · refine go_cmpeqF (pc := 231) rfl hc ?_
                refine go_al (pc := 234) rfl (rfl : ai_ld 0 (lv_args 0 [.ref a0]) = some (.ref a0)) ?_
                obtain ⟨x14, ex14, hh⟩ := bi_bd hh
                refine go_gfI (pc := 235) rfl ex14 ?_
                refine go_pi (pc := 238) rfl ?_
                refine bi_ite hh (fun hc hh => ?_) (fun hc hh => ?_)
                · refine go_cmpeqT (pc := 240) rfl hc ?_
                  exact sX11_signToken_270  (rfl : ai_ld 0 (lv_args 0 [.ref a0]) = some (.ref a0)) hh
                · refine go_cmpeqF (pc := 240) rfl hc ?_
                  refine go_al (pc := 243) rfl (rfl : ai_ld 0 (lv_args 0 [.ref a0]) = some (.ref a0)) ?_
                  obtain ⟨x15, ex15, hh⟩ := bi_bd hh
                  refine go_gfI (pc := 244) rfl ex15 ?_
                  refine go_pi (pc := 247) rfl ?_
                  refine bi_ite hh (fun hc hh => ?_) (fun hc hh => ?_)
                  · refine go_cmpeqT (pc := 249) rfl hc ?_
                    exact sX11_signToken_270  (rfl : ai_ld 0 (lv_args 0 [.ref a0]) = some (.ref a0)) hh
                  · refine go_cmpeqF (pc := 249) rfl hc ?_
                    refine go_al (pc := 252) rfl (rfl : ai_ld 0 (lv_args 0 [.ref a0]) = some (.ref a0)) ?_
                    obtain ⟨x16, ex16, hh⟩ := bi_bd hh
                    refine go_gfI (pc := 253) rfl ex16 ?_
                    refine go_pi (pc := 256) rfl ?_
                    refine bi_ite hh (fun hc hh => ?_) (fun hc hh => ?_)
                    · refine go_cmpeqT (pc := 258) rfl hc ?_
                      exact sX11_signToken_270  (rfl : ai_ld 0 (lv_args 0 [.ref a0]) = some (.ref a0)) hh
                    · refine go_cmpeqF (pc := 258) rfl hc ?_
                      refine go_al (pc := 261) rfl (rfl : ai_ld 0 (lv_args 0 [.ref a0]) = some (.ref a0)) ?_
                      obtain ⟨x17, ex17, hh⟩ := bi_bd hh
                      refine go_gfI (pc := 262) rfl ex17 ?_
                      refine go_pi (pc := 265) rfl ?_
                      refine bi_ite hh (fun hc hh => ?_) (fun hc hh => ?_)
                      · refine go_cmpneT (pc := 267) rfl hc ?_
                        refine go_pi (pc := 274) rfl ?_
                        exact sX11_signToken_275  (rfl : ai_ld 0 (lv_args 0 [.ref a0]) = some (.ref a0)) hh
                      · refine go_cmpneF (pc := 267) rfl hc ?_
                        exact sX11_signToken_270  (rfl : ai_ld 0 (lv_args 0 [.ref a0]) = some (.ref a0)) hh
      · refine go_cmpneF (pc := 47) rfl hc ?_
        exact sX11_signToken_50  (rfl : ai_ld 0 (lv_args 0 [.ref a0]) = some (.ref a0)) hh
def fX11_token_39 (n : Nat) (r0 : ai_H → Nat → Option (Unit × ai_H)) (h : ai_H) (v0 : Nat) : Option (Unit × ai_H) :=
  (pI n h v0 11 7).bind fun x1 =>
  (sF n h v0 11 7 (.int) (.int (x1 + (1 : Int32)))).bind fun h2 =>
  r0 h2 v0
theorem sX11_token_39 {n : Nat} {r0 : ai_H → Nat → Option (Unit × ai_H)} {q : Unit × ai_H} {h : ai_H} {v0 : Nat} {lv : ai_L} (R0 : ∀ (h : ai_H) (v0 : Nat) (lv : ai_L), ai_ld 0 lv = some (.ref v0) → r0 h v0 = some q → bi_go 1 tX11_token n (fV n q) 0 lv [] h) (l0 : ai_ld 0 lv = some (.ref v0)) (hh : fX11_token_39 n r0 h v0 = some q) : bi_go 1 tX11_token n (fV n q) 39 lv [] h := by
  unfold fX11_token_39 at hh
  refine go_al (pc := 39) rfl l0 ?_
  refine go_dup (pc := 40) rfl rfl ?_
  obtain ⟨x1, ex1, hh⟩ := bi_bd hh
  refine go_gfI (pc := 41) rfl ex1 ?_
  refine go_pi (pc := 44) rfl ?_
  refine go_iadd (pc := 45) rfl ?_
  obtain ⟨h2, eh2, hh⟩ := bi_bd hh
  refine go_pf (pc := 46) rfl eh2 ?_
  refine go_goto (pc := 49) rfl ?_
  exact R0 _ _ _ l0 hh
def fX11_token_162 (n : Nat) (h : ai_H) (v0 : Nat) (s0 : Int32) (s1 : Nat) : Option (Unit × ai_H) :=
  (sF n h s1 11 8 (.int) (.int s0)).bind fun h1 =>
  (pI n h1 v0 11 8).bind fun x2 =>
  if ¬ x2 = (2 : Int32) then (
    some ((), h1))
  else (
    (pI n h1 v0 11 10).bind fun x3 =>
    (pI n h1 v0 11 7).bind fun x4 =>
    (fX11_packed n h1 v0 x3 x4).bind fun q5 =>
    (sF n q5.2 v0 11 9 (.int) (.int q5.1)).bind fun h6 =>
    some ((), h6))
theorem sX11_token_162 {n : Nat} {q : Unit × ai_H} {h : ai_H} {v0 : Nat} {s0 : Int32} {s1 : Nat} {lv : ai_L} (l0 : ai_ld 0 lv = some (.ref v0)) (hh : fX11_token_162 n h v0 s0 s1 = some q) : bi_go 1 tX11_token n (fV n q) 162 lv [.int s0, .ref s1] h := by
  unfold fX11_token_162 at hh
  obtain ⟨h1, eh1, hh⟩ := bi_bd hh
  refine go_pf (pc := 162) rfl eh1 ?_
  refine go_al (pc := 165) rfl l0 ?_
  obtain ⟨x2, ex2, hh⟩ := bi_bd hh
  refine go_gfI (pc := 166) rfl ex2 ?_
  refine go_pi (pc := 169) rfl ?_
  refine bi_ite hh (fun hc hh => ?_) (fun hc hh => ?_)
  · refine go_cmpneT (pc := 170) rfl hc ?_
    exact go_rv (pc := 281) rfl hh
  · refine go_cmpneF (pc := 170) rfl hc ?_
    refine go_al (pc := 173) rfl l0 ?_
    refine go_al (pc := 174) rfl l0 ?_
    refine go_al (pc := 175) rfl l0 ?_
    obtain ⟨x3, ex3, hh⟩ := bi_bd hh
    refine go_gfI (pc := 176) rfl ex3 ?_
    refine go_al (pc := 179) rfl l0 ?_
    obtain ⟨x4, ex4, hh⟩ := bi_bd hh
    refine go_gfI (pc := 180) rfl ex4 ?_
    obtain ⟨q5, eq5, hh⟩ := bi_bd hh
    refine go_ivI (pc := 183) rfl rfl (gX11_packed eq5) (Nat.le_of_ble_eq_true rfl) (bi_up (sX11_packed eq5) (Nat.le_of_ble_eq_true rfl)) ?_
    obtain ⟨h6, eh6, hh⟩ := bi_bd hh
    refine go_pf (pc := 186) rfl eh6 ?_
    refine go_goto (pc := 189) rfl ?_
    exact go_rv (pc := 281) rfl hh
def fX11_token_90b (n : Nat) (r90 : ai_H → Nat → Option (Unit × ai_H)) (h : ai_H) (v0 : Nat) : Option (Unit × ai_H) :=
  (pI n h v0 11 7).bind fun x1 =>
  (fX11_isSmall n h v0 x1).bind fun q2 =>
  if q2.1 = 0 then (
    (pI n q2.2 v0 11 10).bind fun x3 =>
    (pI n q2.2 v0 11 7).bind fun x4 =>
    (fX11_wordAt n q2.2 v0 x3 x4).bind fun q5 =>
    (sF n q5.2 v0 11 9 (.int) (.int q5.1)).bind fun h6 =>
    (pI n h6 v0 11 9).bind fun x7 =>
    if x7 < 0 then (
      (pI n h6 v0 11 7).bind fun x8 =>
      (pI n h6 v0 11 10).bind fun x9 =>
      if (x8 - x9) ≤ (6 : Int32) then (
        fX11_token_162 n h6 v0 (2 : Int32) v0)
      else (
        fX11_token_162 n h6 v0 (6 : Int32) v0))
    else (
      fX11_token_162 n h6 v0 (1 : Int32) v0))
  else (
    (pI n q2.2 v0 11 7).bind fun x10 =>
    (sF n q2.2 v0 11 7 (.int) (.int (x10 + (1 : Int32)))).bind fun h11 =>
    r90 h11 v0)
theorem sX11_token_90b {n : Nat} {r90 : ai_H → Nat → Option (Unit × ai_H)} {q : Unit × ai_H} {h : ai_H} {v0 : Nat} {lv : ai_L} (R90 : ∀ (h : ai_H) (v0 : Nat) (lv : ai_L), ai_ld 0 lv = some (.ref v0) → r90 h v0 = some q → bi_go 1 tX11_token n (fV n q) 90 lv [] h) (l0 : ai_ld 0 lv = some (.ref v0)) (hh : fX11_token_90b n r90 h v0 = some q) : bi_go 1 tX11_token n (fV n q) 90 lv [] h := by
  unfold fX11_token_90b at hh
  refine go_al (pc := 90) rfl l0 ?_
  refine go_al (pc := 91) rfl l0 ?_
  obtain ⟨x1, ex1, hh⟩ := bi_bd hh
  refine go_gfI (pc := 92) rfl ex1 ?_
  obtain ⟨q2, eq2, hh⟩ := bi_bd hh
  refine go_ivI (pc := 95) rfl rfl (gX11_isSmall eq2) (Nat.le_of_ble_eq_true rfl) (bi_up (sX11_isSmall eq2) (Nat.le_of_ble_eq_true rfl)) ?_
  refine bi_ite hh (fun hc hh => ?_) (fun hc hh => ?_)
  · refine go_ifeqT (pc := 98) rfl hc ?_
    refine go_al (pc := 114) rfl l0 ?_
    refine go_al (pc := 115) rfl l0 ?_
    refine go_al (pc := 116) rfl l0 ?_
    obtain ⟨x3, ex3, hh⟩ := bi_bd hh
    refine go_gfI (pc := 117) rfl ex3 ?_
    refine go_al (pc := 120) rfl l0 ?_
    obtain ⟨x4, ex4, hh⟩ := bi_bd hh
    refine go_gfI (pc := 121) rfl ex4 ?_
    obtain ⟨q5, eq5, hh⟩ := bi_bd hh
    refine go_ivI (pc := 124) rfl rfl (gX11_wordAt eq5) (Nat.le_of_ble_eq_true rfl) (bi_up (sX11_wordAt eq5) (Nat.le_of_ble_eq_true rfl)) ?_
    obtain ⟨h6, eh6, hh⟩ := bi_bd hh
    refine go_pf (pc := 127) rfl eh6 ?_
    refine go_al (pc := 130) rfl l0 ?_
    refine go_al (pc := 131) rfl l0 ?_
    obtain ⟨x7, ex7, hh⟩ := bi_bd hh
    refine go_gfI (pc := 132) rfl ex7 ?_
    refine bi_ite hh (fun hc hh => ?_) (fun hc hh => ?_)
    · refine go_ifltT (pc := 135) rfl hc ?_
      refine go_al (pc := 142) rfl l0 ?_
      obtain ⟨x8, ex8, hh⟩ := bi_bd hh
      refine go_gfI (pc := 143) rfl ex8 ?_
      refine go_al (pc := 146) rfl l0 ?_
      obtain ⟨x9, ex9, hh⟩ := bi_bd hh
      refine go_gfI (pc := 147) rfl ex9 ?_
      refine go_isub (pc := 150) rfl ?_
      refine go_pi (pc := 151) rfl ?_
      refine bi_ite hh (fun hc hh => ?_) (fun hc hh => ?_)
      · refine go_cmpleT (pc := 153) rfl hc ?_
        refine go_pi (pc := 161) rfl ?_
        exact sX11_token_162  l0 hh
      · refine go_cmpleF (pc := 153) rfl hc ?_
        refine go_pi (pc := 156) rfl ?_
        refine go_goto (pc := 158) rfl ?_
        exact sX11_token_162  l0 hh
    · refine go_ifltF (pc := 135) rfl hc ?_
      refine go_pi (pc := 138) rfl ?_
      refine go_goto (pc := 139) rfl ?_
      exact sX11_token_162  l0 hh
  · refine go_ifeqF (pc := 98) rfl hc ?_
    refine go_al (pc := 101) rfl l0 ?_
    refine go_dup (pc := 102) rfl rfl ?_
    obtain ⟨x10, ex10, hh⟩ := bi_bd hh
    refine go_gfI (pc := 103) rfl ex10 ?_
    refine go_pi (pc := 106) rfl ?_
    refine go_iadd (pc := 107) rfl ?_
    obtain ⟨h11, eh11, hh⟩ := bi_bd hh
    refine go_pf (pc := 108) rfl eh11 ?_
    refine go_goto (pc := 111) rfl ?_
    exact R90 _ _ _ l0 hh
def fX11_token_90 (n : Nat) : Nat → ai_H → Nat → Option (Unit × ai_H)
  | 0 => fun _ _ => none
  | k + 1 => fun h v0 => fX11_token_90b n (fX11_token_90 n k) h v0
theorem sX11_token_90 {n : Nat} {q : Unit × ai_H} : ∀ (k : Nat) (h : ai_H) (v0 : Nat) (lv : ai_L), ai_ld 0 lv = some (.ref v0) → fX11_token_90 n k h v0 = some q → bi_go 1 tX11_token n (fV n q) 90 lv [] h
  | 0 => fun _ _ _ _ hh => by cases hh
  | k + 1 => fun h v0 lv l0 hh => sX11_token_90b  (sX11_token_90  k) l0 hh
def fX11_token_261 (n : Nat) (r213 : ai_H → Nat → Option (Unit × ai_H)) (h : ai_H) (v0 : Nat) (s0 : Int32) (s1 : Nat) : Option (Unit × ai_H) :=
  (sF n h s1 11 9 (.int) (.int s0)).bind fun h1 =>
  (pI n h1 v0 11 7).bind fun x2 =>
  (sF n h1 v0 11 7 (.int) (.int (x2 + (1 : Int32)))).bind fun h3 =>
  r213 h3 v0
theorem sX11_token_261 {n : Nat} {r213 : ai_H → Nat → Option (Unit × ai_H)} {q : Unit × ai_H} {h : ai_H} {v0 : Nat} {s0 : Int32} {s1 : Nat} {lv : ai_L} (R213 : ∀ (h : ai_H) (v0 : Nat) (lv : ai_L), ai_ld 0 lv = some (.ref v0) → r213 h v0 = some q → bi_go 1 tX11_token n (fV n q) 213 lv [] h) (l0 : ai_ld 0 lv = some (.ref v0)) (hh : fX11_token_261 n r213 h v0 s0 s1 = some q) : bi_go 1 tX11_token n (fV n q) 261 lv [.int s0, .ref s1] h := by
  unfold fX11_token_261 at hh
  obtain ⟨h1, eh1, hh⟩ := bi_bd hh
  refine go_pf (pc := 261) rfl eh1 ?_
  refine go_al (pc := 264) rfl l0 ?_
  refine go_dup (pc := 265) rfl rfl ?_
  obtain ⟨x2, ex2, hh⟩ := bi_bd hh
  refine go_gfI (pc := 266) rfl ex2 ?_
  refine go_pi (pc := 269) rfl ?_
  refine go_iadd (pc := 270) rfl ?_
  obtain ⟨h3, eh3, hh⟩ := bi_bd hh
  refine go_pf (pc := 271) rfl eh3 ?_
  refine go_goto (pc := 274) rfl ?_
  exact R213 _ _ _ l0 hh
def fX11_token_213b (n : Nat) (r213 : ai_H → Nat → Option (Unit × ai_H)) (h : ai_H) (v0 : Nat) : Option (Unit × ai_H) :=
  (pI n h v0 11 7).bind fun x1 =>
  (fX11_isDigit n h v0 x1).bind fun q2 =>
  if q2.1 = 0 then (
    some ((), q2.2))
  else (
    (pI n q2.2 v0 11 9).bind fun x3 =>
    if x3 ≤ (99999 : Int32) then (
      (pI n q2.2 v0 11 9).bind fun x4 =>
      (pR n q2.2 v0 11 0).bind fun x5 =>
      (pI n q2.2 v0 11 7).bind fun x6 =>
      (gX 1 n q2.2 x5 x6).bind fun x7 =>
      fX11_token_261 n r213 q2.2 v0 ((((10 : Int32) * x4) + x7) - (48 : Int32)) v0)
    else (
      (pI n q2.2 v0 11 9).bind fun x8 =>
      fX11_token_261 n r213 q2.2 v0 x8 v0))
theorem sX11_token_213b {n : Nat} {r213 : ai_H → Nat → Option (Unit × ai_H)} {q : Unit × ai_H} {h : ai_H} {v0 : Nat} {lv : ai_L} (R213 : ∀ (h : ai_H) (v0 : Nat) (lv : ai_L), ai_ld 0 lv = some (.ref v0) → r213 h v0 = some q → bi_go 1 tX11_token n (fV n q) 213 lv [] h) (l0 : ai_ld 0 lv = some (.ref v0)) (hh : fX11_token_213b n r213 h v0 = some q) : bi_go 1 tX11_token n (fV n q) 213 lv [] h := by
  unfold fX11_token_213b at hh
  refine go_al (pc := 213) rfl l0 ?_
  refine go_al (pc := 214) rfl l0 ?_
  obtain ⟨x1, ex1, hh⟩ := bi_bd hh
  refine go_gfI (pc := 215) rfl ex1 ?_
  obtain ⟨q2, eq2, hh⟩ := bi_bd hh
  refine go_ivI (pc := 218) rfl rfl (gX11_isDigit eq2) (Nat.le_of_ble_eq_true rfl) (bi_up (sX11_isDigit eq2) (Nat.le_of_ble_eq_true rfl)) ?_
  refine bi_ite hh (fun hc hh => ?_) (fun hc hh => ?_)
  · refine go_ifeqT (pc := 221) rfl hc ?_
    exact go_rv (pc := 281) rfl hh
  · refine go_ifeqF (pc := 221) rfl hc ?_
    refine go_al (pc := 224) rfl l0 ?_
    refine go_al (pc := 225) rfl l0 ?_
    obtain ⟨x3, ex3, hh⟩ := bi_bd hh
    refine go_gfI (pc := 226) rfl ex3 ?_
    refine go_pi (pc := 229) rfl ?_
    refine bi_ite hh (fun hc hh => ?_) (fun hc hh => ?_)
    · refine go_cmpleT (pc := 231) rfl hc ?_
      refine go_pi (pc := 241) rfl ?_
      refine go_al (pc := 243) rfl l0 ?_
      obtain ⟨x4, ex4, hh⟩ := bi_bd hh
      refine go_gfI (pc := 244) rfl ex4 ?_
      refine go_imul (pc := 247) rfl ?_
      refine go_al (pc := 248) rfl l0 ?_
      obtain ⟨x5, ex5, hh⟩ := bi_bd hh
      refine go_gfR (pc := 249) rfl ex5 ?_
      refine go_al (pc := 252) rfl l0 ?_
      obtain ⟨x6, ex6, hh⟩ := bi_bd hh
      refine go_gfI (pc := 253) rfl ex6 ?_
      obtain ⟨x7, ex7, hh⟩ := bi_bd hh
      refine go_iald (pc := 256) rfl ex7 ?_
      refine go_iadd (pc := 257) rfl ?_
      refine go_pi (pc := 258) rfl ?_
      refine go_isub (pc := 260) rfl ?_
      exact sX11_token_261 R213 l0 hh
    · refine go_cmpleF (pc := 231) rfl hc ?_
      refine go_al (pc := 234) rfl l0 ?_
      obtain ⟨x8, ex8, hh⟩ := bi_bd hh
      refine go_gfI (pc := 235) rfl ex8 ?_
      refine go_goto (pc := 238) rfl ?_
      exact sX11_token_261 R213 l0 hh
def fX11_token_213 (n : Nat) : Nat → ai_H → Nat → Option (Unit × ai_H)
  | 0 => fun _ _ => none
  | k + 1 => fun h v0 => fX11_token_213b n (fX11_token_213 n k) h v0
theorem sX11_token_213 {n : Nat} {q : Unit × ai_H} : ∀ (k : Nat) (h : ai_H) (v0 : Nat) (lv : ai_L), ai_ld 0 lv = some (.ref v0) → fX11_token_213 n k h v0 = some q → bi_go 1 tX11_token n (fV n q) 213 lv [] h
  | 0 => fun _ _ _ _ hh => by cases hh
  | k + 1 => fun h v0 lv l0 hh => sX11_token_213b  (sX11_token_213  k) l0 hh
def fX11_token_52 (n : Nat) (h : ai_H) (v0 : Nat) : Option (Unit × ai_H) :=
  (pI n h v0 11 7).bind fun x1 =>
  (sF n h v0 11 10 (.int) (.int x1)).bind fun h2 =>
  (pI n h2 v0 11 7).bind fun x3 =>
  (pI n h2 v0 11 6).bind fun x4 =>
  if ¬ x3 = x4 then (
    (pI n h2 v0 11 7).bind fun x5 =>
    (fX11_isSmall n h2 v0 x5).bind fun q6 =>
    if q6.1 = 0 then (
      (pI n q6.2 v0 11 7).bind fun x7 =>
      (fX11_isDigit n q6.2 v0 x7).bind fun q8 =>
      if q8.1 = 0 then (
        (fX11_signToken n q8.2 v0).bind fun q9 =>
        some ((), q9.2))
      else (
        (sF n q8.2 v0 11 8 (.int) (.int (3 : Int32))).bind fun h10 =>
        (sF n h10 v0 11 9 (.int) (.int (0 : Int32))).bind fun h11 =>
        fX11_token_213 n bi_K h11 v0))
    else (
      fX11_token_90 n bi_K q6.2 v0))
  else (
    (sF n h2 v0 11 8 (.int) (.int (0 : Int32))).bind fun h12 =>
    some ((), h12))
theorem sX11_token_52 {n : Nat} {q : Unit × ai_H} {h : ai_H} {v0 : Nat} {lv : ai_L} (l0 : ai_ld 0 lv = some (.ref v0)) (hh : fX11_token_52 n h v0 = some q) : bi_go 1 tX11_token n (fV n q) 52 lv [] h := by
  unfold fX11_token_52 at hh
  refine go_al (pc := 52) rfl l0 ?_
  refine go_al (pc := 53) rfl l0 ?_
  obtain ⟨x1, ex1, hh⟩ := bi_bd hh
  refine go_gfI (pc := 54) rfl ex1 ?_
  obtain ⟨h2, eh2, hh⟩ := bi_bd hh
  refine go_pf (pc := 57) rfl eh2 ?_
  refine go_al (pc := 60) rfl l0 ?_
  obtain ⟨x3, ex3, hh⟩ := bi_bd hh
  refine go_gfI (pc := 61) rfl ex3 ?_
  refine go_al (pc := 64) rfl l0 ?_
  obtain ⟨x4, ex4, hh⟩ := bi_bd hh
  refine go_gfI (pc := 65) rfl ex4 ?_
  refine bi_ite hh (fun hc hh => ?_) (fun hc hh => ?_)
  · refine go_cmpneT (pc := 68) rfl hc ?_
    refine go_al (pc := 79) rfl l0 ?_
    refine go_al (pc := 80) rfl l0 ?_
    obtain ⟨x5, ex5, hh⟩ := bi_bd hh
    refine go_gfI (pc := 81) rfl ex5 ?_
    obtain ⟨q6, eq6, hh⟩ := bi_bd hh
    refine go_ivI (pc := 84) rfl rfl (gX11_isSmall eq6) (Nat.le_of_ble_eq_true rfl) (bi_up (sX11_isSmall eq6) (Nat.le_of_ble_eq_true rfl)) ?_
    refine bi_ite hh (fun hc hh => ?_) (fun hc hh => ?_)
    · refine go_ifeqT (pc := 87) rfl hc ?_
      refine go_al (pc := 192) rfl l0 ?_
      refine go_al (pc := 193) rfl l0 ?_
      obtain ⟨x7, ex7, hh⟩ := bi_bd hh
      refine go_gfI (pc := 194) rfl ex7 ?_
      obtain ⟨q8, eq8, hh⟩ := bi_bd hh
      refine go_ivI (pc := 197) rfl rfl (gX11_isDigit eq8) (Nat.le_of_ble_eq_true rfl) (bi_up (sX11_isDigit eq8) (Nat.le_of_ble_eq_true rfl)) ?_
      refine bi_ite hh (fun hc hh => ?_) (fun hc hh => ?_)
      · refine go_ifeqT (pc := 200) rfl hc ?_
        refine go_al (pc := 277) rfl l0 ?_
        obtain ⟨q9, eq9, hh⟩ := bi_bd hh
        refine go_ivV (pc := 278) rfl rfl (gX11_signToken eq9) (Nat.le_of_ble_eq_true rfl) (bi_up (sX11_signToken eq9) (Nat.le_of_ble_eq_true rfl)) ?_
        exact go_rv (pc := 281) rfl hh
      · refine go_ifeqF (pc := 200) rfl hc ?_
        refine go_al (pc := 203) rfl l0 ?_
        refine go_pi (pc := 204) rfl ?_
        obtain ⟨h10, eh10, hh⟩ := bi_bd hh
        refine go_pf (pc := 205) rfl eh10 ?_
        refine go_al (pc := 208) rfl l0 ?_
        refine go_pi (pc := 209) rfl ?_
        obtain ⟨h11, eh11, hh⟩ := bi_bd hh
        refine go_pf (pc := 210) rfl eh11 ?_
        exact sX11_token_213  _ _ _ _ l0 hh
    · refine go_ifeqF (pc := 87) rfl hc ?_
      exact sX11_token_90  _ _ _ _ l0 hh
  · refine go_cmpneF (pc := 68) rfl hc ?_
    refine go_al (pc := 71) rfl l0 ?_
    refine go_pi (pc := 72) rfl ?_
    obtain ⟨h12, eh12, hh⟩ := bi_bd hh
    refine go_pf (pc := 73) rfl eh12 ?_
    refine go_goto (pc := 76) rfl ?_
    exact go_rv (pc := 281) rfl hh
def fX11_token_0b (n : Nat) (r0 : ai_H → Nat → Option (Unit × ai_H)) (h : ai_H) (v0 : Nat) : Option (Unit × ai_H) :=
  (pI n h v0 11 7).bind fun x1 =>
  (pI n h v0 11 6).bind fun x2 =>
  if x2 ≤ x1 then (
    fX11_token_52 n h v0)
  else (
    (pR n h v0 11 0).bind fun x3 =>
    (pI n h v0 11 7).bind fun x4 =>
    (gX 1 n h x3 x4).bind fun x5 =>
    if x5 = (10 : Int32) then (
      fX11_token_39 n r0 h v0)
    else (
      (pR n h v0 11 0).bind fun x6 =>
      (pI n h v0 11 7).bind fun x7 =>
      (gX 1 n h x6 x7).bind fun x8 =>
      if ¬ x8 = (32 : Int32) then (
        fX11_token_52 n h v0)
      else (
        fX11_token_39 n r0 h v0)))
theorem sX11_token_0b {n : Nat} {r0 : ai_H → Nat → Option (Unit × ai_H)} {q : Unit × ai_H} {h : ai_H} {v0 : Nat} {lv : ai_L} (R0 : ∀ (h : ai_H) (v0 : Nat) (lv : ai_L), ai_ld 0 lv = some (.ref v0) → r0 h v0 = some q → bi_go 1 tX11_token n (fV n q) 0 lv [] h) (l0 : ai_ld 0 lv = some (.ref v0)) (hh : fX11_token_0b n r0 h v0 = some q) : bi_go 1 tX11_token n (fV n q) 0 lv [] h := by
  unfold fX11_token_0b at hh
  refine go_al (pc := 0) rfl l0 ?_
  obtain ⟨x1, ex1, hh⟩ := bi_bd hh
  refine go_gfI (pc := 1) rfl ex1 ?_
  refine go_al (pc := 4) rfl l0 ?_
  obtain ⟨x2, ex2, hh⟩ := bi_bd hh
  refine go_gfI (pc := 5) rfl ex2 ?_
  refine bi_ite hh (fun hc hh => ?_) (fun hc hh => ?_)
  · refine go_cmpgeT (pc := 8) rfl hc ?_
    exact sX11_token_52  l0 hh
  · refine go_cmpgeF (pc := 8) rfl hc ?_
    refine go_al (pc := 11) rfl l0 ?_
    obtain ⟨x3, ex3, hh⟩ := bi_bd hh
    refine go_gfR (pc := 12) rfl ex3 ?_
    refine go_al (pc := 15) rfl l0 ?_
    obtain ⟨x4, ex4, hh⟩ := bi_bd hh
    refine go_gfI (pc := 16) rfl ex4 ?_
    obtain ⟨x5, ex5, hh⟩ := bi_bd hh
    refine go_iald (pc := 19) rfl ex5 ?_
    refine go_pi (pc := 20) rfl ?_
    refine bi_ite hh (fun hc hh => ?_) (fun hc hh => ?_)
    · refine go_cmpeqT (pc := 22) rfl hc ?_
      exact sX11_token_39 R0 l0 hh
    · refine go_cmpeqF (pc := 22) rfl hc ?_
      refine go_al (pc := 25) rfl l0 ?_
      obtain ⟨x6, ex6, hh⟩ := bi_bd hh
      refine go_gfR (pc := 26) rfl ex6 ?_
      refine go_al (pc := 29) rfl l0 ?_
      obtain ⟨x7, ex7, hh⟩ := bi_bd hh
      refine go_gfI (pc := 30) rfl ex7 ?_
      obtain ⟨x8, ex8, hh⟩ := bi_bd hh
      refine go_iald (pc := 33) rfl ex8 ?_
      refine go_pi (pc := 34) rfl ?_
      refine bi_ite hh (fun hc hh => ?_) (fun hc hh => ?_)
      · refine go_cmpneT (pc := 36) rfl hc ?_
        exact sX11_token_52  l0 hh
      · refine go_cmpneF (pc := 36) rfl hc ?_
        exact sX11_token_39 R0 l0 hh
def fX11_token_0 (n : Nat) : Nat → ai_H → Nat → Option (Unit × ai_H)
  | 0 => fun _ _ => none
  | k + 1 => fun h v0 => fX11_token_0b n (fX11_token_0 n k) h v0
theorem sX11_token_0 {n : Nat} {q : Unit × ai_H} : ∀ (k : Nat) (h : ai_H) (v0 : Nat) (lv : ai_L), ai_ld 0 lv = some (.ref v0) → fX11_token_0 n k h v0 = some q → bi_go 1 tX11_token n (fV n q) 0 lv [] h
  | 0 => fun _ _ _ _ hh => by cases hh
  | k + 1 => fun h v0 lv l0 hh => sX11_token_0b  (sX11_token_0  k) l0 hh
def fX11_token (n : Nat) (h : ai_H) (a0 : Nat) : Option (Unit × ai_H) :=
  (kO n h a0 11).bind fun _ =>
  fX11_token_0 n bi_K h a0
theorem gX11_token {n : Nat} {h : ai_H} {a0 : Nat} {q : Unit × ai_H} (hh : fX11_token n h a0 = some q) : kO n h a0 11 = some () := by
  obtain ⟨_, e, -⟩ := bi_bd hh
  exact e
theorem sX11_token {n : Nat} {h : ai_H} {a0 : Nat} {q : Unit × ai_H} (hh : fX11_token n h a0 = some q) : bi_sp 2 149 [.ref a0] h n (fV n q) := by
  refine bi_en (D := 1) (T := tX11_token) (funext fun pc => rfl) rfl (Nat.le_of_ble_eq_true rfl) ?_
  unfold fX11_token at hh
  obtain ⟨_, eO, hh⟩ := bi_bd hh
  exact sX11_token_0  _ _ _ _ (rfl : ai_ld 0 (lv_args 0 [.ref a0]) = some (.ref a0)) hh
def fX11_isKey (n : Nat) (h : ai_H) (a0 : Nat) (a1 : Int32) : Option (Int32 × ai_H) :=
  (kO n h a0 11).bind fun _ =>
  (pI n h a0 11 8).bind fun x1 =>
  if ¬ x1 = (1 : Int32) then (
    some ((0 : Int32), h))
  else (
    (pI n h a0 11 9).bind fun x2 =>
    if ¬ x2 = a1 then (
      some ((0 : Int32), h))
    else (
      some ((1 : Int32), h)))
theorem gX11_isKey {n : Nat} {h : ai_H} {a0 : Nat} {a1 : Int32} {q : Int32 × ai_H} (hh : fX11_isKey n h a0 a1 = some q) : kO n h a0 11 = some () := by
  obtain ⟨_, e, -⟩ := bi_bd hh
  exact e
theorem sX11_isKey {n : Nat} {h : ai_H} {a0 : Nat} {a1 : Int32} {q : Int32 × ai_H} (hh : fX11_isKey n h a0 a1 = some q) : bi_sp 1 152 [.ref a0, .int a1] h n (fI n q) := by
  refine bi_en (D := 0) (T := tX11_isKey) (funext fun pc => rfl) rfl (Nat.le_of_ble_eq_true rfl) ?_
  unfold fX11_isKey at hh
  obtain ⟨_, eO, hh⟩ := bi_bd hh
  refine go_al (pc := 0) rfl (rfl : ai_ld 0 (lv_args 0 [.ref a0, .int a1]) = some (.ref a0)) ?_
  obtain ⟨x1, ex1, hh⟩ := bi_bd hh
  refine go_gfI (pc := 1) rfl ex1 ?_
  refine go_pi (pc := 4) rfl ?_
  refine bi_ite hh (fun hc hh => ?_) (fun hc hh => ?_)
  · refine go_cmpneT (pc := 5) rfl hc ?_
    refine go_pi (pc := 20) rfl ?_
    exact go_rz (pc := 21) rfl bi_z0 hh
  · refine go_cmpneF (pc := 5) rfl hc ?_
    refine go_al (pc := 8) rfl (rfl : ai_ld 0 (lv_args 0 [.ref a0, .int a1]) = some (.ref a0)) ?_
    obtain ⟨x2, ex2, hh⟩ := bi_bd hh
    refine go_gfI (pc := 9) rfl ex2 ?_
    refine go_il (pc := 12) rfl (rfl : ai_ld 1 (lv_args 0 [.ref a0, .int a1]) = some (.int a1)) ?_
    refine bi_ite hh (fun hc hh => ?_) (fun hc hh => ?_)
    · refine go_cmpneT (pc := 13) rfl hc ?_
      refine go_pi (pc := 20) rfl ?_
      exact go_rz (pc := 21) rfl bi_z0 hh
    · refine go_cmpneF (pc := 13) rfl hc ?_
      refine go_pi (pc := 16) rfl ?_
      refine go_goto (pc := 17) rfl ?_
      exact go_rz (pc := 21) rfl bi_z1 hh
def fX11_isSign (n : Nat) (h : ai_H) (a0 : Nat) (a1 : Int32) : Option (Int32 × ai_H) :=
  (kO n h a0 11).bind fun _ =>
  (pI n h a0 11 8).bind fun x1 =>
  if ¬ x1 = (4 : Int32) then (
    some ((0 : Int32), h))
  else (
    (pI n h a0 11 9).bind fun x2 =>
    if ¬ x2 = a1 then (
      some ((0 : Int32), h))
    else (
      some ((1 : Int32), h)))
theorem gX11_isSign {n : Nat} {h : ai_H} {a0 : Nat} {a1 : Int32} {q : Int32 × ai_H} (hh : fX11_isSign n h a0 a1 = some q) : kO n h a0 11 = some () := by
  obtain ⟨_, e, -⟩ := bi_bd hh
  exact e
theorem sX11_isSign {n : Nat} {h : ai_H} {a0 : Nat} {a1 : Int32} {q : Int32 × ai_H} (hh : fX11_isSign n h a0 a1 = some q) : bi_sp 1 153 [.ref a0, .int a1] h n (fI n q) := by
  refine bi_en (D := 0) (T := tX11_isSign) (funext fun pc => rfl) rfl (Nat.le_of_ble_eq_true rfl) ?_
  unfold fX11_isSign at hh
  obtain ⟨_, eO, hh⟩ := bi_bd hh
  refine go_al (pc := 0) rfl (rfl : ai_ld 0 (lv_args 0 [.ref a0, .int a1]) = some (.ref a0)) ?_
  obtain ⟨x1, ex1, hh⟩ := bi_bd hh
  refine go_gfI (pc := 1) rfl ex1 ?_
  refine go_pi (pc := 4) rfl ?_
  refine bi_ite hh (fun hc hh => ?_) (fun hc hh => ?_)
  · refine go_cmpneT (pc := 5) rfl hc ?_
    refine go_pi (pc := 20) rfl ?_
    exact go_rz (pc := 21) rfl bi_z0 hh
  · refine go_cmpneF (pc := 5) rfl hc ?_
    refine go_al (pc := 8) rfl (rfl : ai_ld 0 (lv_args 0 [.ref a0, .int a1]) = some (.ref a0)) ?_
    obtain ⟨x2, ex2, hh⟩ := bi_bd hh
    refine go_gfI (pc := 9) rfl ex2 ?_
    refine go_il (pc := 12) rfl (rfl : ai_ld 1 (lv_args 0 [.ref a0, .int a1]) = some (.int a1)) ?_
    refine bi_ite hh (fun hc hh => ?_) (fun hc hh => ?_)
    · refine go_cmpneT (pc := 13) rfl hc ?_
      refine go_pi (pc := 20) rfl ?_
      exact go_rz (pc := 21) rfl bi_z0 hh
    · refine go_cmpneF (pc := 13) rfl hc ?_
      refine go_pi (pc := 16) rfl ?_
      refine go_goto (pc := 17) rfl ?_
      exact go_rz (pc := 21) rfl bi_z1 hh
