/-! ===== methods as functions, part 19 ===== -/
def fX11_dayGoes_100 (n : Nat) (r7 : ai_H → Nat → Int32 → Int32 → Int32 → Option (Unit × ai_H)) (h : ai_H) (v0 : Nat) (v1 : Int32) (v2 : Int32) (v3 : Int32) : Option (Unit × ai_H) :=
  r7 h v0 v1 v2 (v3 + 1)
theorem sX11_dayGoes_100 {n : Nat} {r7 : ai_H → Nat → Int32 → Int32 → Int32 → Option (Unit × ai_H)} {q : Unit × ai_H} {h : ai_H} {v0 : Nat} {v1 : Int32} {v2 : Int32} {v3 : Int32} {lv : ai_L} (R7 : ∀ (h : ai_H) (v0 : Nat) (v1 : Int32) (v2 : Int32) (v3 : Int32) (lv : ai_L), ai_ld 0 lv = some (.ref v0) → ai_ld 1 lv = some (.int v1) → ai_ld 2 lv = some (.int v2) → ai_ld 3 lv = some (.int v3) → r7 h v0 v1 v2 v3 = some q → bi_go 5 tX11_dayGoes n (fV n q) 7 lv [] h) (l0 : ai_ld 0 lv = some (.ref v0)) (l1 : ai_ld 1 lv = some (.int v1)) (l2 : ai_ld 2 lv = some (.int v2)) (l3 : ai_ld 3 lv = some (.int v3)) (hh : fX11_dayGoes_100 n r7 h v0 v1 v2 v3 = some q) : bi_go 5 tX11_dayGoes n (fV n q) 100 lv [] h := by
  unfold fX11_dayGoes_100 at hh
  refine go_inc (pc := 100) rfl l3 ?_
  refine go_goto (pc := 103) rfl ?_
  exact R7 _ _ _ _ _ _ (bi_k1 l0 rfl rfl) (bi_k1 l1 rfl rfl) (bi_k1 l2 rfl rfl) bi_e1 hh
def fX11_dayGoes_90 (n : Nat) (r7 : ai_H → Nat → Int32 → Int32 → Int32 → Option (Unit × ai_H)) (h : ai_H) (v0 : Nat) (v1 : Int32) (v2 : Int32) (v3 : Int32) : Option (Unit × ai_H) :=
  (pR n h v0 11 66).bind fun x1 =>
  (gX 1 n h x1 v1).bind fun x2 =>
  (wX 1 (fun x => x) n h x1 v1 (x2 + (1 : Int32))).bind fun h3 =>
  fX11_dayGoes_100 n r7 h3 v0 v1 v2 v3
theorem sX11_dayGoes_90 {n : Nat} {r7 : ai_H → Nat → Int32 → Int32 → Int32 → Option (Unit × ai_H)} {q : Unit × ai_H} {h : ai_H} {v0 : Nat} {v1 : Int32} {v2 : Int32} {v3 : Int32} {lv : ai_L} (R7 : ∀ (h : ai_H) (v0 : Nat) (v1 : Int32) (v2 : Int32) (v3 : Int32) (lv : ai_L), ai_ld 0 lv = some (.ref v0) → ai_ld 1 lv = some (.int v1) → ai_ld 2 lv = some (.int v2) → ai_ld 3 lv = some (.int v3) → r7 h v0 v1 v2 v3 = some q → bi_go 5 tX11_dayGoes n (fV n q) 7 lv [] h) (l0 : ai_ld 0 lv = some (.ref v0)) (l1 : ai_ld 1 lv = some (.int v1)) (l2 : ai_ld 2 lv = some (.int v2)) (l3 : ai_ld 3 lv = some (.int v3)) (hh : fX11_dayGoes_90 n r7 h v0 v1 v2 v3 = some q) : bi_go 5 tX11_dayGoes n (fV n q) 90 lv [] h := by
  unfold fX11_dayGoes_90 at hh
  refine go_al (pc := 90) rfl l0 ?_
  obtain ⟨x1, ex1, hh⟩ := bi_bd hh
  refine go_gfR (pc := 91) rfl ex1 ?_
  refine go_il (pc := 94) rfl l1 ?_
  refine go_dup2 (pc := 95) rfl rfl rfl ?_
  obtain ⟨x2, ex2, hh⟩ := bi_bd hh
  refine go_iald (pc := 96) rfl ex2 ?_
  refine go_pi (pc := 97) rfl ?_
  refine go_iadd (pc := 98) rfl ?_
  obtain ⟨h3, eh3, hh⟩ := bi_bd hh
  refine go_iast (pc := 99) rfl eh3 ?_
  exact sX11_dayGoes_100 R7 l0 l1 l2 l3 hh
def fX11_dayGoes_180 (n : Nat) (r108 : ai_H → Nat → Int32 → Int32 → Option (Unit × ai_H)) (h : ai_H) (v0 : Nat) (v1 : Int32) (v3 : Int32) : Option (Unit × ai_H) :=
  r108 h v0 v1 (v3 + 1)
theorem sX11_dayGoes_180 {n : Nat} {r108 : ai_H → Nat → Int32 → Int32 → Option (Unit × ai_H)} {q : Unit × ai_H} {h : ai_H} {v0 : Nat} {v1 : Int32} {v3 : Int32} {lv : ai_L} (R108 : ∀ (h : ai_H) (v0 : Nat) (v1 : Int32) (v3 : Int32) (lv : ai_L), ai_ld 0 lv = some (.ref v0) → ai_ld 1 lv = some (.int v1) → ai_ld 3 lv = some (.int v3) → r108 h v0 v1 v3 = some q → bi_go 5 tX11_dayGoes n (fV n q) 108 lv [] h) (l0 : ai_ld 0 lv = some (.ref v0)) (l1 : ai_ld 1 lv = some (.int v1)) (l3 : ai_ld 3 lv = some (.int v3)) (hh : fX11_dayGoes_180 n r108 h v0 v1 v3 = some q) : bi_go 5 tX11_dayGoes n (fV n q) 180 lv [] h := by
  unfold fX11_dayGoes_180 at hh
  refine go_inc (pc := 180) rfl l3 ?_
  refine go_goto (pc := 183) rfl ?_
  exact R108 _ _ _ _ _ (bi_k1 l0 rfl rfl) (bi_k1 l1 rfl rfl) bi_e1 hh
def fX11_dayGoes_188b (n : Nat) (r188 : ai_H → Nat → Int32 → Int32 → Option (Unit × ai_H)) (h : ai_H) (v0 : Nat) (v1 : Int32) (v3 : Int32) : Option (Unit × ai_H) :=
  (pI n h v0 11 14).bind fun x1 =>
  if x1 ≤ v3 then (
    (pR n h v0 11 67).bind fun x2 =>
    (gX 1 n h x2 v1).bind fun x3 =>
    (wX 1 (fun x => x) n h x2 v1 (x3 + (1 : Int32))).bind fun h4 =>
    some ((), h4))
  else (
    (pR n h v0 11 61).bind fun x5 =>
    (pR n h v0 11 36).bind fun x6 =>
    (gX 1 n h x6 v3).bind fun x7 =>
    (wX 1 (fun x => x) n h x5 (((4 : Int32) * v1) + v3) x7).bind fun h8 =>
    r188 h8 v0 v1 (v3 + 1))
theorem sX11_dayGoes_188b {n : Nat} {r188 : ai_H → Nat → Int32 → Int32 → Option (Unit × ai_H)} {q : Unit × ai_H} {h : ai_H} {v0 : Nat} {v1 : Int32} {v3 : Int32} {lv : ai_L} (R188 : ∀ (h : ai_H) (v0 : Nat) (v1 : Int32) (v3 : Int32) (lv : ai_L), ai_ld 0 lv = some (.ref v0) → ai_ld 1 lv = some (.int v1) → ai_ld 3 lv = some (.int v3) → r188 h v0 v1 v3 = some q → bi_go 5 tX11_dayGoes n (fV n q) 188 lv [] h) (l0 : ai_ld 0 lv = some (.ref v0)) (l1 : ai_ld 1 lv = some (.int v1)) (l3 : ai_ld 3 lv = some (.int v3)) (hh : fX11_dayGoes_188b n r188 h v0 v1 v3 = some q) : bi_go 5 tX11_dayGoes n (fV n q) 188 lv [] h := by
  unfold fX11_dayGoes_188b at hh
  refine go_il (pc := 188) rfl l3 ?_
  refine go_al (pc := 189) rfl l0 ?_
  obtain ⟨x1, ex1, hh⟩ := bi_bd hh
  refine go_gfI (pc := 190) rfl ex1 ?_
  refine bi_ite hh (fun hc hh => ?_) (fun hc hh => ?_)
  · refine go_cmpgeT (pc := 193) rfl hc ?_
    refine go_al (pc := 218) rfl l0 ?_
    obtain ⟨x2, ex2, hh⟩ := bi_bd hh
    refine go_gfR (pc := 219) rfl ex2 ?_
    refine go_il (pc := 222) rfl l1 ?_
    refine go_dup2 (pc := 223) rfl rfl rfl ?_
    obtain ⟨x3, ex3, hh⟩ := bi_bd hh
    refine go_iald (pc := 224) rfl ex3 ?_
    refine go_pi (pc := 225) rfl ?_
    refine go_iadd (pc := 226) rfl ?_
    obtain ⟨h4, eh4, hh⟩ := bi_bd hh
    refine go_iast (pc := 227) rfl eh4 ?_
    exact go_rv (pc := 228) rfl hh
  · refine go_cmpgeF (pc := 193) rfl hc ?_
    refine go_al (pc := 196) rfl l0 ?_
    obtain ⟨x5, ex5, hh⟩ := bi_bd hh
    refine go_gfR (pc := 197) rfl ex5 ?_
    refine go_pi (pc := 200) rfl ?_
    refine go_il (pc := 201) rfl l1 ?_
    refine go_imul (pc := 202) rfl ?_
    refine go_il (pc := 203) rfl l3 ?_
    refine go_iadd (pc := 204) rfl ?_
    refine go_al (pc := 205) rfl l0 ?_
    obtain ⟨x6, ex6, hh⟩ := bi_bd hh
    refine go_gfR (pc := 206) rfl ex6 ?_
    refine go_il (pc := 209) rfl l3 ?_
    obtain ⟨x7, ex7, hh⟩ := bi_bd hh
    refine go_iald (pc := 210) rfl ex7 ?_
    obtain ⟨h8, eh8, hh⟩ := bi_bd hh
    refine go_iast (pc := 211) rfl eh8 ?_
    refine go_inc (pc := 212) rfl l3 ?_
    refine go_goto (pc := 215) rfl ?_
    exact R188 _ _ _ _ _ (bi_k1 l0 rfl rfl) (bi_k1 l1 rfl rfl) bi_e1 hh
def fX11_dayGoes_188 (n : Nat) : Nat → ai_H → Nat → Int32 → Int32 → Option (Unit × ai_H)
  | 0 => fun _ _ _ _ => none
  | k + 1 => fun h v0 v1 v3 => fX11_dayGoes_188b n (fX11_dayGoes_188 n k) h v0 v1 v3
theorem sX11_dayGoes_188 {n : Nat} {q : Unit × ai_H} : ∀ (k : Nat) (h : ai_H) (v0 : Nat) (v1 : Int32) (v3 : Int32) (lv : ai_L), ai_ld 0 lv = some (.ref v0) → ai_ld 1 lv = some (.int v1) → ai_ld 3 lv = some (.int v3) → fX11_dayGoes_188 n k h v0 v1 v3 = some q → bi_go 5 tX11_dayGoes n (fV n q) 188 lv [] h
  | 0 => fun _ _ _ _ _ _ _ _ hh => by cases hh
  | k + 1 => fun h v0 v1 v3 lv l0 l1 l3 hh => sX11_dayGoes_188b  (sX11_dayGoes_188  k) l0 l1 l3 hh
def fX11_dayGoes_108b (n : Nat) (r108 : ai_H → Nat → Int32 → Int32 → Option (Unit × ai_H)) (h : ai_H) (v0 : Nat) (v1 : Int32) (v3 : Int32) : Option (Unit × ai_H) :=
  (pI n h v0 11 13).bind fun x1 =>
  if x1 ≤ v3 then (
    fX11_dayGoes_188 n bi_K h v0 v1 (0 : Int32))
  else (
    (pR n h v0 11 63).bind fun x2 =>
    (gB n h x2 (((9 : Int32) * v1) + v3)).bind fun x3 =>
    if ¬ x3 = 0 then (
      (pR n h v0 11 62).bind fun x4 =>
      (gX 1 n h x4 (((9 : Int32) * v1) + v3)).bind fun x5 =>
      (wX 1 (fun x => x) n h x4 (((9 : Int32) * v1) + v3) (x5 + (1 : Int32))).bind fun h6 =>
      (pR n h6 v0 11 62).bind fun x7 =>
      (gX 1 n h6 x7 (((9 : Int32) * v1) + v3)).bind fun x8 =>
      (fX11_termOf n h6 v0 v1 v3).bind fun q9 =>
      if x8 < q9.1 then (
        fX11_dayGoes_180 n r108 q9.2 v0 v1 v3)
      else (
        (pR n q9.2 v0 11 63).bind fun x10 =>
        (wB n q9.2 x10 (((9 : Int32) * v1) + v3) (0 : Int32)).bind fun h11 =>
        fX11_dayGoes_180 n r108 h11 v0 v1 v3))
    else (
      fX11_dayGoes_180 n r108 h v0 v1 v3))
theorem sX11_dayGoes_108b {n : Nat} {r108 : ai_H → Nat → Int32 → Int32 → Option (Unit × ai_H)} {q : Unit × ai_H} {h : ai_H} {v0 : Nat} {v1 : Int32} {v3 : Int32} {lv : ai_L} (R108 : ∀ (h : ai_H) (v0 : Nat) (v1 : Int32) (v3 : Int32) (lv : ai_L), ai_ld 0 lv = some (.ref v0) → ai_ld 1 lv = some (.int v1) → ai_ld 3 lv = some (.int v3) → r108 h v0 v1 v3 = some q → bi_go 5 tX11_dayGoes n (fV n q) 108 lv [] h) (l0 : ai_ld 0 lv = some (.ref v0)) (l1 : ai_ld 1 lv = some (.int v1)) (l3 : ai_ld 3 lv = some (.int v3)) (hh : fX11_dayGoes_108b n r108 h v0 v1 v3 = some q) : bi_go 5 tX11_dayGoes n (fV n q) 108 lv [] h := by
  unfold fX11_dayGoes_108b at hh
  refine go_il (pc := 108) rfl l3 ?_
  refine go_al (pc := 109) rfl l0 ?_
  obtain ⟨x1, ex1, hh⟩ := bi_bd hh
  refine go_gfI (pc := 110) rfl ex1 ?_
  refine bi_ite hh (fun hc hh => ?_) (fun hc hh => ?_)
  · refine go_cmpgeT (pc := 113) rfl hc ?_
    refine go_pi (pc := 186) rfl ?_
    refine go_is (pc := 187) rfl ?_
    exact sX11_dayGoes_188  _ _ _ _ _ _ (bi_k1 l0 rfl rfl) (bi_k1 l1 rfl rfl) bi_e1 hh
  · refine go_cmpgeF (pc := 113) rfl hc ?_
    refine go_al (pc := 116) rfl l0 ?_
    obtain ⟨x2, ex2, hh⟩ := bi_bd hh
    refine go_gfR (pc := 117) rfl ex2 ?_
    refine go_pi (pc := 120) rfl ?_
    refine go_il (pc := 122) rfl l1 ?_
    refine go_imul (pc := 123) rfl ?_
    refine go_il (pc := 124) rfl l3 ?_
    refine go_iadd (pc := 125) rfl ?_
    obtain ⟨x3, ex3, hh⟩ := bi_bd hh
    refine go_bald (pc := 126) rfl ex3 ?_
    refine bi_ite hh (fun hc hh => ?_) (fun hc hh => ?_)
    · refine go_ifneT (pc := 127) rfl hc ?_
      refine go_al (pc := 133) rfl l0 ?_
      obtain ⟨x4, ex4, hh⟩ := bi_bd hh
      refine go_gfR (pc := 134) rfl ex4 ?_
      refine go_pi (pc := 137) rfl ?_
      refine go_il (pc := 139) rfl l1 ?_
      refine go_imul (pc := 140) rfl ?_
      refine go_il (pc := 141) rfl l3 ?_
      refine go_iadd (pc := 142) rfl ?_
      refine go_dup2 (pc := 143) rfl rfl rfl ?_
      obtain ⟨x5, ex5, hh⟩ := bi_bd hh
      refine go_iald (pc := 144) rfl ex5 ?_
      refine go_pi (pc := 145) rfl ?_
      refine go_iadd (pc := 146) rfl ?_
      obtain ⟨h6, eh6, hh⟩ := bi_bd hh
      refine go_iast (pc := 147) rfl eh6 ?_
      refine go_al (pc := 148) rfl l0 ?_
      obtain ⟨x7, ex7, hh⟩ := bi_bd hh
      refine go_gfR (pc := 149) rfl ex7 ?_
      refine go_pi (pc := 152) rfl ?_
      refine go_il (pc := 154) rfl l1 ?_
      refine go_imul (pc := 155) rfl ?_
      refine go_il (pc := 156) rfl l3 ?_
      refine go_iadd (pc := 157) rfl ?_
      obtain ⟨x8, ex8, hh⟩ := bi_bd hh
      refine go_iald (pc := 158) rfl ex8 ?_
      refine go_al (pc := 159) rfl l0 ?_
      refine go_il (pc := 160) rfl l1 ?_
      refine go_il (pc := 161) rfl l3 ?_
      obtain ⟨q9, eq9, hh⟩ := bi_bd hh
      refine go_ivI (pc := 162) rfl rfl (gX11_termOf eq9) (Nat.le_of_ble_eq_true rfl) (bi_up (sX11_termOf eq9) (Nat.le_of_ble_eq_true rfl)) ?_
      refine bi_ite hh (fun hc hh => ?_) (fun hc hh => ?_)
      · refine go_cmpltT (pc := 165) rfl hc ?_
        exact sX11_dayGoes_180 R108 l0 l1 l3 hh
      · refine go_cmpltF (pc := 165) rfl hc ?_
        refine go_al (pc := 168) rfl l0 ?_
        obtain ⟨x10, ex10, hh⟩ := bi_bd hh
        refine go_gfR (pc := 169) rfl ex10 ?_
        refine go_pi (pc := 172) rfl ?_
        refine go_il (pc := 174) rfl l1 ?_
        refine go_imul (pc := 175) rfl ?_
        refine go_il (pc := 176) rfl l3 ?_
        refine go_iadd (pc := 177) rfl ?_
        refine go_pi (pc := 178) rfl ?_
        obtain ⟨h11, eh11, hh⟩ := bi_bd hh
        refine go_bast (pc := 179) rfl eh11 ?_
        exact sX11_dayGoes_180 R108 l0 l1 l3 hh
    · refine go_ifneF (pc := 127) rfl hc ?_
      refine go_goto (pc := 130) rfl ?_
      exact sX11_dayGoes_180 R108 l0 l1 l3 hh
def fX11_dayGoes_108 (n : Nat) : Nat → ai_H → Nat → Int32 → Int32 → Option (Unit × ai_H)
  | 0 => fun _ _ _ _ => none
  | k + 1 => fun h v0 v1 v3 => fX11_dayGoes_108b n (fX11_dayGoes_108 n k) h v0 v1 v3
theorem sX11_dayGoes_108 {n : Nat} {q : Unit × ai_H} : ∀ (k : Nat) (h : ai_H) (v0 : Nat) (v1 : Int32) (v3 : Int32) (lv : ai_L), ai_ld 0 lv = some (.ref v0) → ai_ld 1 lv = some (.int v1) → ai_ld 3 lv = some (.int v3) → fX11_dayGoes_108 n k h v0 v1 v3 = some q → bi_go 5 tX11_dayGoes n (fV n q) 108 lv [] h
  | 0 => fun _ _ _ _ _ _ _ _ hh => by cases hh
  | k + 1 => fun h v0 v1 v3 lv l0 l1 l3 hh => sX11_dayGoes_108b  (sX11_dayGoes_108  k) l0 l1 l3 hh
def fX11_dayGoes_7b (n : Nat) (r7 : ai_H → Nat → Int32 → Int32 → Int32 → Option (Unit × ai_H)) (h : ai_H) (v0 : Nat) (v1 : Int32) (v2 : Int32) (v3 : Int32) : Option (Unit × ai_H) :=
  (pI n h v0 11 15).bind fun x1 =>
  if x1 ≤ v3 then (
    fX11_dayGoes_108 n bi_K h v0 v1 (0 : Int32))
  else (
    (pR n h v0 11 39).bind fun x2 =>
    (gX 1 n h x2 v3).bind fun x3 =>
    (pR n h v0 11 67).bind fun x4 =>
    (gX 1 n h x4 v1).bind fun x5 =>
    if ¬ x3 = x5 then (
      fX11_dayGoes_100 n r7 h v0 v1 v2 v3)
    else (
      (pR n h v0 11 37).bind fun x6 =>
      (gX 1 n h x6 v3).bind fun x7 =>
      (pI n h v0 11 74).bind fun x8 =>
      if ¬ x7 = x8 then (
        if ¬ v2 = 0 then (
          fX11_dayGoes_90 n r7 h v0 v1 v2 v3)
        else (
          (pR n h v0 11 38).bind fun x9 =>
          (gX 1 n h x9 v3).bind fun x10 =>
          (pR n h v0 11 37).bind fun x11 =>
          (gX 1 n h x11 v3).bind fun x12 =>
          (fX11_can n h v0 v1 x10 x12).bind fun q13 =>
          if q13.1 = 0 then (
            fX11_dayGoes_90 n r7 q13.2 v0 v1 v2 v3)
          else (
            (pR n q13.2 v0 11 38).bind fun x14 =>
            (gX 1 n q13.2 x14 v3).bind fun x15 =>
            (pR n q13.2 v0 11 37).bind fun x16 =>
            (gX 1 n q13.2 x16 v3).bind fun x17 =>
            (fX11_goes n q13.2 v0 v1 x15 x17).bind fun q18 =>
            fX11_dayGoes_100 n r7 q18.2 v0 v1 v2 v3)))
      else (
        fX11_dayGoes_100 n r7 h v0 v1 v2 v3)))
theorem sX11_dayGoes_7b {n : Nat} {r7 : ai_H → Nat → Int32 → Int32 → Int32 → Option (Unit × ai_H)} {q : Unit × ai_H} {h : ai_H} {v0 : Nat} {v1 : Int32} {v2 : Int32} {v3 : Int32} {lv : ai_L} (R7 : ∀ (h : ai_H) (v0 : Nat) (v1 : Int32) (v2 : Int32) (v3 : Int32) (lv : ai_L), ai_ld 0 lv = some (.ref v0) → ai_ld 1 lv = some (.int v1) → ai_ld 2 lv = some (.int v2) → ai_ld 3 lv = some (.int v3) → r7 h v0 v1 v2 v3 = some q → bi_go 5 tX11_dayGoes n (fV n q) 7 lv [] h) (l0 : ai_ld 0 lv = some (.ref v0)) (l1 : ai_ld 1 lv = some (.int v1)) (l2 : ai_ld 2 lv = some (.int v2)) (l3 : ai_ld 3 lv = some (.int v3)) (hh : fX11_dayGoes_7b n r7 h v0 v1 v2 v3 = some q) : bi_go 5 tX11_dayGoes n (fV n q) 7 lv [] h := by
  unfold fX11_dayGoes_7b at hh
  refine go_il (pc := 7) rfl l3 ?_
  refine go_al (pc := 8) rfl l0 ?_
  obtain ⟨x1, ex1, hh⟩ := bi_bd hh
  refine go_gfI (pc := 9) rfl ex1 ?_
  refine bi_ite hh (fun hc hh => ?_) (fun hc hh => ?_)
  · refine go_cmpgeT (pc := 12) rfl hc ?_
    refine go_pi (pc := 106) rfl ?_
    refine go_is (pc := 107) rfl ?_
    exact sX11_dayGoes_108  _ _ _ _ _ _ (bi_k1 l0 rfl rfl) (bi_k1 l1 rfl rfl) bi_e1 hh
  · refine go_cmpgeF (pc := 12) rfl hc ?_
    refine go_al (pc := 15) rfl l0 ?_
    obtain ⟨x2, ex2, hh⟩ := bi_bd hh
    refine go_gfR (pc := 16) rfl ex2 ?_
    refine go_il (pc := 19) rfl l3 ?_
    obtain ⟨x3, ex3, hh⟩ := bi_bd hh
    refine go_iald (pc := 20) rfl ex3 ?_
    refine go_al (pc := 21) rfl l0 ?_
    obtain ⟨x4, ex4, hh⟩ := bi_bd hh
    refine go_gfR (pc := 22) rfl ex4 ?_
    refine go_il (pc := 25) rfl l1 ?_
    obtain ⟨x5, ex5, hh⟩ := bi_bd hh
    refine go_iald (pc := 26) rfl ex5 ?_
    refine bi_ite hh (fun hc hh => ?_) (fun hc hh => ?_)
    · refine go_cmpneT (pc := 27) rfl hc ?_
      exact sX11_dayGoes_100 R7 l0 l1 l2 l3 hh
    · refine go_cmpneF (pc := 27) rfl hc ?_
      refine go_al (pc := 30) rfl l0 ?_
      obtain ⟨x6, ex6, hh⟩ := bi_bd hh
      refine go_gfR (pc := 31) rfl ex6 ?_
      refine go_il (pc := 34) rfl l3 ?_
      obtain ⟨x7, ex7, hh⟩ := bi_bd hh
      refine go_iald (pc := 35) rfl ex7 ?_
      refine go_al (pc := 36) rfl l0 ?_
      obtain ⟨x8, ex8, hh⟩ := bi_bd hh
      refine go_gfI (pc := 37) rfl ex8 ?_
      refine bi_ite hh (fun hc hh => ?_) (fun hc hh => ?_)
      · refine go_cmpneT (pc := 40) rfl hc ?_
        refine go_il (pc := 46) rfl l2 ?_
        refine bi_ite hh (fun hc hh => ?_) (fun hc hh => ?_)
        · refine go_ifneT (pc := 47) rfl hc ?_
          exact sX11_dayGoes_90 R7 l0 l1 l2 l3 hh
        · refine go_ifneF (pc := 47) rfl hc ?_
          refine go_al (pc := 50) rfl l0 ?_
          refine go_il (pc := 51) rfl l1 ?_
          refine go_al (pc := 52) rfl l0 ?_
          obtain ⟨x9, ex9, hh⟩ := bi_bd hh
          refine go_gfR (pc := 53) rfl ex9 ?_
          refine go_il (pc := 56) rfl l3 ?_
          obtain ⟨x10, ex10, hh⟩ := bi_bd hh
          refine go_iald (pc := 57) rfl ex10 ?_
          refine go_al (pc := 58) rfl l0 ?_
          obtain ⟨x11, ex11, hh⟩ := bi_bd hh
          refine go_gfR (pc := 59) rfl ex11 ?_
          refine go_il (pc := 62) rfl l3 ?_
          obtain ⟨x12, ex12, hh⟩ := bi_bd hh
          refine go_iald (pc := 63) rfl ex12 ?_
          obtain ⟨q13, eq13, hh⟩ := bi_bd hh
          refine go_ivI (pc := 64) rfl rfl (gX11_can eq13) (Nat.le_of_ble_eq_true rfl) (bi_up (sX11_can eq13) (Nat.le_of_ble_eq_true rfl)) ?_
          refine bi_ite hh (fun hc hh => ?_) (fun hc hh => ?_)
          · refine go_ifeqT (pc := 67) rfl hc ?_
            exact sX11_dayGoes_90 R7 l0 l1 l2 l3 hh
          · refine go_ifeqF (pc := 67) rfl hc ?_
            refine go_al (pc := 70) rfl l0 ?_
            refine go_il (pc := 71) rfl l1 ?_
            refine go_al (pc := 72) rfl l0 ?_
            obtain ⟨x14, ex14, hh⟩ := bi_bd hh
            refine go_gfR (pc := 73) rfl ex14 ?_
            refine go_il (pc := 76) rfl l3 ?_
            obtain ⟨x15, ex15, hh⟩ := bi_bd hh
            refine go_iald (pc := 77) rfl ex15 ?_
            refine go_al (pc := 78) rfl l0 ?_
            obtain ⟨x16, ex16, hh⟩ := bi_bd hh
            refine go_gfR (pc := 79) rfl ex16 ?_
            refine go_il (pc := 82) rfl l3 ?_
            obtain ⟨x17, ex17, hh⟩ := bi_bd hh
            refine go_iald (pc := 83) rfl ex17 ?_
            obtain ⟨q18, eq18, hh⟩ := bi_bd hh
            refine go_ivV (pc := 84) rfl rfl (gX11_goes eq18) (Nat.le_of_ble_eq_true rfl) (bi_up (sX11_goes eq18) (Nat.le_of_ble_eq_true rfl)) ?_
            refine go_goto (pc := 87) rfl ?_
            exact sX11_dayGoes_100 R7 l0 l1 l2 l3 hh
      · refine go_cmpneF (pc := 40) rfl hc ?_
        refine go_goto (pc := 43) rfl ?_
        exact sX11_dayGoes_100 R7 l0 l1 l2 l3 hh
def fX11_dayGoes_7 (n : Nat) : Nat → ai_H → Nat → Int32 → Int32 → Int32 → Option (Unit × ai_H)
  | 0 => fun _ _ _ _ _ => none
  | k + 1 => fun h v0 v1 v2 v3 => fX11_dayGoes_7b n (fX11_dayGoes_7 n k) h v0 v1 v2 v3
theorem sX11_dayGoes_7 {n : Nat} {q : Unit × ai_H} : ∀ (k : Nat) (h : ai_H) (v0 : Nat) (v1 : Int32) (v2 : Int32) (v3 : Int32) (lv : ai_L), ai_ld 0 lv = some (.ref v0) → ai_ld 1 lv = some (.int v1) → ai_ld 2 lv = some (.int v2) → ai_ld 3 lv = some (.int v3) → fX11_dayGoes_7 n k h v0 v1 v2 v3 = some q → bi_go 5 tX11_dayGoes n (fV n q) 7 lv [] h
  | 0 => fun _ _ _ _ _ _ _ _ _ _ hh => by cases hh
  | k + 1 => fun h v0 v1 v2 v3 lv l0 l1 l2 l3 hh => sX11_dayGoes_7b  (sX11_dayGoes_7  k) l0 l1 l2 l3 hh
def fX11_dayGoes (n : Nat) (h : ai_H) (a0 : Nat) (a1 : Int32) : Option (Unit × ai_H) :=
  (kO n h a0 11).bind fun _ =>
  (fX11_isSnow n h a0).bind fun q1 =>
  fX11_dayGoes_7 n bi_K q1.2 a0 a1 q1.1 (0 : Int32)
theorem gX11_dayGoes {n : Nat} {h : ai_H} {a0 : Nat} {a1 : Int32} {q : Unit × ai_H} (hh : fX11_dayGoes n h a0 a1 = some q) : kO n h a0 11 = some () := by
  obtain ⟨_, e, -⟩ := bi_bd hh
  exact e
theorem sX11_dayGoes {n : Nat} {h : ai_H} {a0 : Nat} {a1 : Int32} {q : Unit × ai_H} (hh : fX11_dayGoes n h a0 a1 = some q) : bi_sp 6 204 [.ref a0, .int a1] h n (fV n q) := by
  refine bi_en (D := 5) (T := tX11_dayGoes) (funext fun pc => rfl) rfl (Nat.le_of_ble_eq_true rfl) ?_
  unfold fX11_dayGoes at hh
  obtain ⟨_, eO, hh⟩ := bi_bd hh
  refine go_al (pc := 0) rfl (rfl : ai_ld 0 (lv_args 0 [.ref a0, .int a1]) = some (.ref a0)) ?_
  obtain ⟨q1, eq1, hh⟩ := bi_bd hh
  refine go_ivI (pc := 1) rfl rfl (gX11_isSnow eq1) (Nat.le_of_ble_eq_true rfl) (bi_up (sX11_isSnow eq1) (Nat.le_of_ble_eq_true rfl)) ?_
  refine go_is (pc := 4) rfl ?_
  refine go_pi (pc := 5) rfl ?_
  refine go_is (pc := 6) rfl ?_
  exact sX11_dayGoes_7  _ _ _ _ _ _ _ (bi_k1 (bi_k1 (rfl : ai_ld 0 (lv_args 0 [.ref a0, .int a1]) = some (.ref a0)) rfl rfl) rfl rfl) (bi_k1 (bi_k1 (rfl : ai_ld 1 (lv_args 0 [.ref a0, .int a1]) = some (.int a1)) rfl rfl) rfl rfl) (bi_k1 bi_e1 rfl rfl) bi_e1 hh
def fX11_goMany_2b (n : Nat) (r2 : ai_H → Nat → Int32 → Int32 → Option (Unit × ai_H)) (h : ai_H) (v0 : Nat) (v1 : Int32) (v2 : Int32) : Option (Unit × ai_H) :=
  if v1 ≤ v2 then (
    some ((), h))
  else (
    (fX11_dayGoes n h v0 (1 : Int32)).bind fun q1 =>
    r2 q1.2 v0 v1 (v2 + 1))
theorem sX11_goMany_2b {n : Nat} {r2 : ai_H → Nat → Int32 → Int32 → Option (Unit × ai_H)} {q : Unit × ai_H} {h : ai_H} {v0 : Nat} {v1 : Int32} {v2 : Int32} {lv : ai_L} (R2 : ∀ (h : ai_H) (v0 : Nat) (v1 : Int32) (v2 : Int32) (lv : ai_L), ai_ld 0 lv = some (.ref v0) → ai_ld 1 lv = some (.int v1) → ai_ld 2 lv = some (.int v2) → r2 h v0 v1 v2 = some q → bi_go 6 tX11_goMany n (fV n q) 2 lv [] h) (l0 : ai_ld 0 lv = some (.ref v0)) (l1 : ai_ld 1 lv = some (.int v1)) (l2 : ai_ld 2 lv = some (.int v2)) (hh : fX11_goMany_2b n r2 h v0 v1 v2 = some q) : bi_go 6 tX11_goMany n (fV n q) 2 lv [] h := by
  unfold fX11_goMany_2b at hh
  refine go_il (pc := 2) rfl l2 ?_
  refine go_il (pc := 3) rfl l1 ?_
  refine bi_ite hh (fun hc hh => ?_) (fun hc hh => ?_)
  · refine go_cmpgeT (pc := 4) rfl hc ?_
    exact go_rv (pc := 18) rfl hh
  · refine go_cmpgeF (pc := 4) rfl hc ?_
    refine go_al (pc := 7) rfl l0 ?_
    refine go_pi (pc := 8) rfl ?_
    obtain ⟨q1, eq1, hh⟩ := bi_bd hh
    refine go_ivV (pc := 9) rfl rfl (gX11_dayGoes eq1) (Nat.le_of_ble_eq_true rfl) (bi_up (sX11_dayGoes eq1) (Nat.le_of_ble_eq_true rfl)) ?_
    refine go_inc (pc := 12) rfl l2 ?_
    refine go_goto (pc := 15) rfl ?_
    exact R2 _ _ _ _ _ (bi_k1 l0 rfl rfl) (bi_k1 l1 rfl rfl) bi_e1 hh
def fX11_goMany_2 (n : Nat) : Nat → ai_H → Nat → Int32 → Int32 → Option (Unit × ai_H)
  | 0 => fun _ _ _ _ => none
  | k + 1 => fun h v0 v1 v2 => fX11_goMany_2b n (fX11_goMany_2 n k) h v0 v1 v2
theorem sX11_goMany_2 {n : Nat} {q : Unit × ai_H} : ∀ (k : Nat) (h : ai_H) (v0 : Nat) (v1 : Int32) (v2 : Int32) (lv : ai_L), ai_ld 0 lv = some (.ref v0) → ai_ld 1 lv = some (.int v1) → ai_ld 2 lv = some (.int v2) → fX11_goMany_2 n k h v0 v1 v2 = some q → bi_go 6 tX11_goMany n (fV n q) 2 lv [] h
  | 0 => fun _ _ _ _ _ _ _ _ hh => by cases hh
  | k + 1 => fun h v0 v1 v2 lv l0 l1 l2 hh => sX11_goMany_2b  (sX11_goMany_2  k) l0 l1 l2 hh
def fX11_goMany (n : Nat) (h : ai_H) (a0 : Nat) (a1 : Int32) : Option (Unit × ai_H) :=
  (kO n h a0 11).bind fun _ =>
  fX11_goMany_2 n bi_K h a0 a1 (0 : Int32)
theorem gX11_goMany {n : Nat} {h : ai_H} {a0 : Nat} {a1 : Int32} {q : Unit × ai_H} (hh : fX11_goMany n h a0 a1 = some q) : kO n h a0 11 = some () := by
  obtain ⟨_, e, -⟩ := bi_bd hh
  exact e
theorem sX11_goMany {n : Nat} {h : ai_H} {a0 : Nat} {a1 : Int32} {q : Unit × ai_H} (hh : fX11_goMany n h a0 a1 = some q) : bi_sp 7 205 [.ref a0, .int a1] h n (fV n q) := by
  refine bi_en (D := 6) (T := tX11_goMany) (funext fun pc => rfl) rfl (Nat.le_of_ble_eq_true rfl) ?_
  unfold fX11_goMany at hh
  obtain ⟨_, eO, hh⟩ := bi_bd hh
  refine go_pi (pc := 0) rfl ?_
  refine go_is (pc := 1) rfl ?_
  exact sX11_goMany_2  _ _ _ _ _ _ (bi_k1 (rfl : ai_ld 0 (lv_args 0 [.ref a0, .int a1]) = some (.ref a0)) rfl rfl) (bi_k1 (rfl : ai_ld 1 (lv_args 0 [.ref a0, .int a1]) = some (.int a1)) rfl rfl) bi_e1 hh
def fX11_keptMany_32 (n : Nat) (r4 : ai_H → Nat → Int32 → Int32 → Int32 → Option (Int32 × ai_H)) (h : ai_H) (v0 : Nat) (v1 : Int32) (v3 : Int32) (s0 : Int32) (s1 : Int32) : Option (Int32 × ai_H) :=
  r4 h v0 v1 (s1 + s0) (v3 + 1)
theorem sX11_keptMany_32 {n : Nat} {r4 : ai_H → Nat → Int32 → Int32 → Int32 → Option (Int32 × ai_H)} {q : Int32 × ai_H} {h : ai_H} {v0 : Nat} {v1 : Int32} {v3 : Int32} {s0 : Int32} {s1 : Int32} {lv : ai_L} (R4 : ∀ (h : ai_H) (v0 : Nat) (v1 : Int32) (v2 : Int32) (v3 : Int32) (lv : ai_L), ai_ld 0 lv = some (.ref v0) → ai_ld 1 lv = some (.int v1) → ai_ld 2 lv = some (.int v2) → ai_ld 3 lv = some (.int v3) → r4 h v0 v1 v2 v3 = some q → bi_go 0 tX11_keptMany n (fI n q) 4 lv [] h) (l0 : ai_ld 0 lv = some (.ref v0)) (l1 : ai_ld 1 lv = some (.int v1)) (l3 : ai_ld 3 lv = some (.int v3)) (hh : fX11_keptMany_32 n r4 h v0 v1 v3 s0 s1 = some q) : bi_go 0 tX11_keptMany n (fI n q) 32 lv [.int s0, .int s1] h := by
  unfold fX11_keptMany_32 at hh
  refine go_iadd (pc := 32) rfl ?_
  refine go_is (pc := 33) rfl ?_
  refine go_inc (pc := 34) rfl (bi_k1 l3 rfl rfl) ?_
  refine go_goto (pc := 37) rfl ?_
  exact R4 _ _ _ _ _ _ (bi_k1 (bi_k1 l0 rfl rfl) rfl rfl) (bi_k1 (bi_k1 l1 rfl rfl) rfl rfl) (bi_k1 bi_e1 rfl rfl) bi_e1 hh
def fX11_keptMany_4b (n : Nat) (r4 : ai_H → Nat → Int32 → Int32 → Int32 → Option (Int32 × ai_H)) (h : ai_H) (v0 : Nat) (v1 : Int32) (v2 : Int32) (v3 : Int32) : Option (Int32 × ai_H) :=
  (pI n h v0 11 13).bind fun x1 =>
  if x1 ≤ v3 then (
    some (v2, h))
  else (
    (pR n h v0 11 63).bind fun x2 =>
    (gB n h x2 (((9 : Int32) * v1) + v3)).bind fun x3 =>
    if x3 = 0 then (
      fX11_keptMany_32 n r4 h v0 v1 v3 (0 : Int32) v2)
    else (
      fX11_keptMany_32 n r4 h v0 v1 v3 (1 : Int32) v2))
theorem sX11_keptMany_4b {n : Nat} {r4 : ai_H → Nat → Int32 → Int32 → Int32 → Option (Int32 × ai_H)} {q : Int32 × ai_H} {h : ai_H} {v0 : Nat} {v1 : Int32} {v2 : Int32} {v3 : Int32} {lv : ai_L} (R4 : ∀ (h : ai_H) (v0 : Nat) (v1 : Int32) (v2 : Int32) (v3 : Int32) (lv : ai_L), ai_ld 0 lv = some (.ref v0) → ai_ld 1 lv = some (.int v1) → ai_ld 2 lv = some (.int v2) → ai_ld 3 lv = some (.int v3) → r4 h v0 v1 v2 v3 = some q → bi_go 0 tX11_keptMany n (fI n q) 4 lv [] h) (l0 : ai_ld 0 lv = some (.ref v0)) (l1 : ai_ld 1 lv = some (.int v1)) (l2 : ai_ld 2 lv = some (.int v2)) (l3 : ai_ld 3 lv = some (.int v3)) (hh : fX11_keptMany_4b n r4 h v0 v1 v2 v3 = some q) : bi_go 0 tX11_keptMany n (fI n q) 4 lv [] h := by
  unfold fX11_keptMany_4b at hh
  refine go_il (pc := 4) rfl l3 ?_
  refine go_al (pc := 5) rfl l0 ?_
  obtain ⟨x1, ex1, hh⟩ := bi_bd hh
  refine go_gfI (pc := 6) rfl ex1 ?_
  refine bi_ite hh (fun hc hh => ?_) (fun hc hh => ?_)
  · refine go_cmpgeT (pc := 9) rfl hc ?_
    refine go_il (pc := 40) rfl l2 ?_
    exact go_ri (pc := 41) rfl hh
  · refine go_cmpgeF (pc := 9) rfl hc ?_
    refine go_il (pc := 12) rfl l2 ?_
    refine go_al (pc := 13) rfl l0 ?_
    obtain ⟨x2, ex2, hh⟩ := bi_bd hh
    refine go_gfR (pc := 14) rfl ex2 ?_
    refine go_pi (pc := 17) rfl ?_
    refine go_il (pc := 19) rfl l1 ?_
    refine go_imul (pc := 20) rfl ?_
    refine go_il (pc := 21) rfl l3 ?_
    refine go_iadd (pc := 22) rfl ?_
    obtain ⟨x3, ex3, hh⟩ := bi_bd hh
    refine go_bald (pc := 23) rfl ex3 ?_
    refine bi_ite hh (fun hc hh => ?_) (fun hc hh => ?_)
    · refine go_ifeqT (pc := 24) rfl hc ?_
      refine go_pi (pc := 31) rfl ?_
      exact sX11_keptMany_32 R4 l0 l1 l3 hh
    · refine go_ifeqF (pc := 24) rfl hc ?_
      refine go_pi (pc := 27) rfl ?_
      refine go_goto (pc := 28) rfl ?_
      exact sX11_keptMany_32 R4 l0 l1 l3 hh
def fX11_keptMany_4 (n : Nat) : Nat → ai_H → Nat → Int32 → Int32 → Int32 → Option (Int32 × ai_H)
  | 0 => fun _ _ _ _ _ => none
  | k + 1 => fun h v0 v1 v2 v3 => fX11_keptMany_4b n (fX11_keptMany_4 n k) h v0 v1 v2 v3
theorem sX11_keptMany_4 {n : Nat} {q : Int32 × ai_H} : ∀ (k : Nat) (h : ai_H) (v0 : Nat) (v1 : Int32) (v2 : Int32) (v3 : Int32) (lv : ai_L), ai_ld 0 lv = some (.ref v0) → ai_ld 1 lv = some (.int v1) → ai_ld 2 lv = some (.int v2) → ai_ld 3 lv = some (.int v3) → fX11_keptMany_4 n k h v0 v1 v2 v3 = some q → bi_go 0 tX11_keptMany n (fI n q) 4 lv [] h
  | 0 => fun _ _ _ _ _ _ _ _ _ _ hh => by cases hh
  | k + 1 => fun h v0 v1 v2 v3 lv l0 l1 l2 l3 hh => sX11_keptMany_4b  (sX11_keptMany_4  k) l0 l1 l2 l3 hh
def fX11_keptMany (n : Nat) (h : ai_H) (a0 : Nat) (a1 : Int32) : Option (Int32 × ai_H) :=
  (kO n h a0 11).bind fun _ =>
  fX11_keptMany_4 n bi_K h a0 a1 (0 : Int32) (0 : Int32)
theorem gX11_keptMany {n : Nat} {h : ai_H} {a0 : Nat} {a1 : Int32} {q : Int32 × ai_H} (hh : fX11_keptMany n h a0 a1 = some q) : kO n h a0 11 = some () := by
  obtain ⟨_, e, -⟩ := bi_bd hh
  exact e
theorem sX11_keptMany {n : Nat} {h : ai_H} {a0 : Nat} {a1 : Int32} {q : Int32 × ai_H} (hh : fX11_keptMany n h a0 a1 = some q) : bi_sp 1 206 [.ref a0, .int a1] h n (fI n q) := by
  refine bi_en (D := 0) (T := tX11_keptMany) (funext fun pc => rfl) rfl (Nat.le_of_ble_eq_true rfl) ?_
  unfold fX11_keptMany at hh
  obtain ⟨_, eO, hh⟩ := bi_bd hh
  refine go_pi (pc := 0) rfl ?_
  refine go_is (pc := 1) rfl ?_
  refine go_pi (pc := 2) rfl ?_
  refine go_is (pc := 3) rfl ?_
  exact sX11_keptMany_4  _ _ _ _ _ _ _ (bi_k1 (bi_k1 (rfl : ai_ld 0 (lv_args 0 [.ref a0, .int a1]) = some (.ref a0)) rfl rfl) rfl rfl) (bi_k1 (bi_k1 (rfl : ai_ld 1 (lv_args 0 [.ref a0, .int a1]) = some (.int a1)) rfl rfl) rfl rfl) (bi_k1 bi_e1 rfl rfl) bi_e1 hh
def fX11_fails (n : Nat) (h : ai_H) (a0 : Nat) (a1 : Int32) : Option (Int32 × ai_H) :=
  (kO n h a0 11).bind fun _ =>
  (sF n h a0 11 2 (.int) (.int a1)).bind fun h1 =>
  some ((0 : Int32), h1)
theorem gX11_fails {n : Nat} {h : ai_H} {a0 : Nat} {a1 : Int32} {q : Int32 × ai_H} (hh : fX11_fails n h a0 a1 = some q) : kO n h a0 11 = some () := by
  obtain ⟨_, e, -⟩ := bi_bd hh
  exact e
theorem sX11_fails {n : Nat} {h : ai_H} {a0 : Nat} {a1 : Int32} {q : Int32 × ai_H} (hh : fX11_fails n h a0 a1 = some q) : bi_sp 1 207 [.ref a0, .int a1] h n (fI n q) := by
  refine bi_en (D := 0) (T := tX11_fails) (funext fun pc => rfl) rfl (Nat.le_of_ble_eq_true rfl) ?_
  unfold fX11_fails at hh
  obtain ⟨_, eO, hh⟩ := bi_bd hh
  refine go_al (pc := 0) rfl (rfl : ai_ld 0 (lv_args 0 [.ref a0, .int a1]) = some (.ref a0)) ?_
  refine go_il (pc := 1) rfl (rfl : ai_ld 1 (lv_args 0 [.ref a0, .int a1]) = some (.int a1)) ?_
  obtain ⟨h1, eh1, hh⟩ := bi_bd hh
  refine go_pf (pc := 2) rfl eh1 ?_
  refine go_pi (pc := 5) rfl ?_
  exact go_ri (pc := 6) rfl hh
def fX11_path (n : Nat) (h : ai_H) (a0 : Nat) (a1 : Int32) (a2 : Int32) : Option (Int32 × ai_H) :=
  (kO n h a0 11).bind fun _ =>
  (sF n h a0 11 2 (.int) (.int (0 : Int32))).bind fun h1 =>
  (fX11_isPath n h1 a0 a1).bind fun q2 =>
  if ¬ q2.1 = 0 then (
    (fX11_plainTried n q2.2 a0).bind fun q3 =>
    if a2 = 0 then (
      (pR n q3.2 a0 11 28).bind fun x4 =>
      (gX 1 n q3.2 x4 a1).bind fun x5 =>
      some (x5, q3.2))
    else (
      if a2 = 1 then (
        (pR n q3.2 a0 11 29).bind fun x6 =>
        (gX 1 n q3.2 x6 a1).bind fun x7 =>
        some (x7, q3.2))
      else (
        if a2 = 2 then (
          (pR n q3.2 a0 11 30).bind fun x8 =>
          (gX 1 n q3.2 x8 a1).bind fun x9 =>
          some (x9, q3.2))
        else (
          if a2 = 3 then (
            (pR n q3.2 a0 11 31).bind fun x10 =>
            (gX 1 n q3.2 x10 a1).bind fun x11 =>
            some (x11, q3.2))
          else (
            if a2 = 4 then (
              (pR n q3.2 a0 11 62).bind fun x12 =>
              (gX 1 n q3.2 x12 a1).bind fun x13 =>
              some (x13, q3.2))
            else (
              if a2 = 5 then (
                (pR n q3.2 a0 11 63).bind fun x14 =>
                (gB n q3.2 x14 a1).bind fun x15 =>
                if x15 = 0 then (
                  some ((0 : Int32), q3.2))
                else (
                  some ((1 : Int32), q3.2)))
              else (
                if a2 = 6 then (
                  (pR n q3.2 a0 11 64).bind fun x16 =>
                  (gX 1 n q3.2 x16 a1).bind fun x17 =>
                  some (x17, q3.2))
                else (
                  if a2 = 7 then (
                    (fX11_hasBull n q3.2 a0 (0 : Int32) a1).bind fun q18 =>
                    if q18.1 = 0 then (
                      some ((0 : Int32), q18.2))
                    else (
                      some ((1 : Int32), q18.2)))
                  else (
                    (fX11_fails n q3.2 a0 (2 : Int32)).bind fun q19 =>
                    some (q19.1, q19.2))))))))))
  else (
    (fX11_fails n q2.2 a0 (1 : Int32)).bind fun q20 =>
    some (q20.1, q20.2))
theorem gX11_path {n : Nat} {h : ai_H} {a0 : Nat} {a1 : Int32} {a2 : Int32} {q : Int32 × ai_H} (hh : fX11_path n h a0 a1 a2 = some q) : kO n h a0 11 = some () := by
  obtain ⟨_, e, -⟩ := bi_bd hh
  exact e
theorem sX11_path {n : Nat} {h : ai_H} {a0 : Nat} {a1 : Int32} {a2 : Int32} {q : Int32 × ai_H} (hh : fX11_path n h a0 a1 a2 = some q) : bi_sp 3 208 [.ref a0, .int a1, .int a2] h n (fI n q) := by
  refine bi_en (D := 2) (T := tX11_path) (funext fun pc => rfl) rfl (Nat.le_of_ble_eq_true rfl) ?_
  unfold fX11_path at hh
  obtain ⟨_, eO, hh⟩ := bi_bd hh
  refine go_al (pc := 0) rfl (rfl : ai_ld 0 (lv_args 0 [.ref a0, .int a1, .int a2]) = some (.ref a0)) ?_
  refine go_pi (pc := 1) rfl ?_
  obtain ⟨h1, eh1, hh⟩ := bi_bd hh
  refine go_pf (pc := 2) rfl eh1 ?_
  refine go_al (pc := 5) rfl (rfl : ai_ld 0 (lv_args 0 [.ref a0, .int a1, .int a2]) = some (.ref a0)) ?_
  refine go_il (pc := 6) rfl (rfl : ai_ld 1 (lv_args 0 [.ref a0, .int a1, .int a2]) = some (.int a1)) ?_
  obtain ⟨q2, eq2, hh⟩ := bi_bd hh
  refine go_ivI (pc := 7) rfl rfl (gX11_isPath eq2) (Nat.le_of_ble_eq_true rfl) (bi_up (sX11_isPath eq2) (Nat.le_of_ble_eq_true rfl)) ?_
  refine bi_ite hh (fun hc hh => ?_) (fun hc hh => ?_)
  · refine go_ifneT (pc := 10) rfl hc ?_
    refine go_al (pc := 19) rfl (rfl : ai_ld 0 (lv_args 0 [.ref a0, .int a1, .int a2]) = some (.ref a0)) ?_
    obtain ⟨q3, eq3, hh⟩ := bi_bd hh
    refine go_ivV (pc := 20) rfl rfl (gX11_plainTried eq3) (Nat.le_of_ble_eq_true rfl) (bi_up (sX11_plainTried eq3) (Nat.le_of_ble_eq_true rfl)) ?_
    refine go_il (pc := 23) rfl (rfl : ai_ld 2 (lv_args 0 [.ref a0, .int a1, .int a2]) = some (.int a2)) ?_
    refine bi_ite hh (fun hc0 hh => ?_) (fun hc0 hh => ?_)
    · refine go_swc (t := 72) 0 (pc := 24) rfl hc0 (by decide) ?_
      refine go_al (pc := 72) rfl (rfl : ai_ld 0 (lv_args 0 [.ref a0, .int a1, .int a2]) = some (.ref a0)) ?_
      obtain ⟨x4, ex4, hh⟩ := bi_bd hh
      refine go_gfR (pc := 73) rfl ex4 ?_
      refine go_il (pc := 76) rfl (rfl : ai_ld 1 (lv_args 0 [.ref a0, .int a1, .int a2]) = some (.int a1)) ?_
      obtain ⟨x5, ex5, hh⟩ := bi_bd hh
      refine go_iald (pc := 77) rfl ex5 ?_
      exact go_ri (pc := 78) rfl hh
    · skip
      refine bi_ite hh (fun hc1 hh => ?_) (fun hc1 hh => ?_)
      · refine go_swc (t := 79) 1 (pc := 24) rfl hc1 (by decide) ?_
        refine go_al (pc := 79) rfl (rfl : ai_ld 0 (lv_args 0 [.ref a0, .int a1, .int a2]) = some (.ref a0)) ?_
        obtain ⟨x6, ex6, hh⟩ := bi_bd hh
        refine go_gfR (pc := 80) rfl ex6 ?_
        refine go_il (pc := 83) rfl (rfl : ai_ld 1 (lv_args 0 [.ref a0, .int a1, .int a2]) = some (.int a1)) ?_
        obtain ⟨x7, ex7, hh⟩ := bi_bd hh
        refine go_iald (pc := 84) rfl ex7 ?_
        exact go_ri (pc := 85) rfl hh
      · skip
        refine bi_ite hh (fun hc2 hh => ?_) (fun hc2 hh => ?_)
        · refine go_swc (t := 86) 2 (pc := 24) rfl hc2 (by decide) ?_
          refine go_al (pc := 86) rfl (rfl : ai_ld 0 (lv_args 0 [.ref a0, .int a1, .int a2]) = some (.ref a0)) ?_
          obtain ⟨x8, ex8, hh⟩ := bi_bd hh
          refine go_gfR (pc := 87) rfl ex8 ?_
          refine go_il (pc := 90) rfl (rfl : ai_ld 1 (lv_args 0 [.ref a0, .int a1, .int a2]) = some (.int a1)) ?_
          obtain ⟨x9, ex9, hh⟩ := bi_bd hh
          refine go_iald (pc := 91) rfl ex9 ?_
          exact go_ri (pc := 92) rfl hh
        · skip
          refine bi_ite hh (fun hc3 hh => ?_) (fun hc3 hh => ?_)
          · refine go_swc (t := 93) 3 (pc := 24) rfl hc3 (by decide) ?_
            refine go_al (pc := 93) rfl (rfl : ai_ld 0 (lv_args 0 [.ref a0, .int a1, .int a2]) = some (.ref a0)) ?_
            obtain ⟨x10, ex10, hh⟩ := bi_bd hh
            refine go_gfR (pc := 94) rfl ex10 ?_
            refine go_il (pc := 97) rfl (rfl : ai_ld 1 (lv_args 0 [.ref a0, .int a1, .int a2]) = some (.int a1)) ?_
            obtain ⟨x11, ex11, hh⟩ := bi_bd hh
            refine go_iald (pc := 98) rfl ex11 ?_
            exact go_ri (pc := 99) rfl hh
          · skip
            refine bi_ite hh (fun hc4 hh => ?_) (fun hc4 hh => ?_)
            · refine go_swc (t := 100) 4 (pc := 24) rfl hc4 (by decide) ?_
              refine go_al (pc := 100) rfl (rfl : ai_ld 0 (lv_args 0 [.ref a0, .int a1, .int a2]) = some (.ref a0)) ?_
              obtain ⟨x12, ex12, hh⟩ := bi_bd hh
              refine go_gfR (pc := 101) rfl ex12 ?_
              refine go_il (pc := 104) rfl (rfl : ai_ld 1 (lv_args 0 [.ref a0, .int a1, .int a2]) = some (.int a1)) ?_
              obtain ⟨x13, ex13, hh⟩ := bi_bd hh
              refine go_iald (pc := 105) rfl ex13 ?_
              exact go_ri (pc := 106) rfl hh
            · skip
              refine bi_ite hh (fun hc5 hh => ?_) (fun hc5 hh => ?_)
              · refine go_swc (t := 107) 5 (pc := 24) rfl hc5 (by decide) ?_
                refine go_al (pc := 107) rfl (rfl : ai_ld 0 (lv_args 0 [.ref a0, .int a1, .int a2]) = some (.ref a0)) ?_
                obtain ⟨x14, ex14, hh⟩ := bi_bd hh
                refine go_gfR (pc := 108) rfl ex14 ?_
                refine go_il (pc := 111) rfl (rfl : ai_ld 1 (lv_args 0 [.ref a0, .int a1, .int a2]) = some (.int a1)) ?_
                obtain ⟨x15, ex15, hh⟩ := bi_bd hh
                refine go_bald (pc := 112) rfl ex15 ?_
                refine bi_ite hh (fun hc hh => ?_) (fun hc hh => ?_)
                · refine go_ifeqT (pc := 113) rfl hc ?_
                  refine go_pi (pc := 120) rfl ?_
                  exact go_ri (pc := 121) rfl hh
                · refine go_ifeqF (pc := 113) rfl hc ?_
                  refine go_pi (pc := 116) rfl ?_
                  refine go_goto (pc := 117) rfl ?_
                  exact go_ri (pc := 121) rfl hh
              · skip
                refine bi_ite hh (fun hc6 hh => ?_) (fun hc6 hh => ?_)
                · refine go_swc (t := 122) 6 (pc := 24) rfl hc6 (by decide) ?_
                  refine go_al (pc := 122) rfl (rfl : ai_ld 0 (lv_args 0 [.ref a0, .int a1, .int a2]) = some (.ref a0)) ?_
                  obtain ⟨x16, ex16, hh⟩ := bi_bd hh
                  refine go_gfR (pc := 123) rfl ex16 ?_
                  refine go_il (pc := 126) rfl (rfl : ai_ld 1 (lv_args 0 [.ref a0, .int a1, .int a2]) = some (.int a1)) ?_
                  obtain ⟨x17, ex17, hh⟩ := bi_bd hh
                  refine go_iald (pc := 127) rfl ex17 ?_
                  exact go_ri (pc := 128) rfl hh
                · skip
                  refine bi_ite hh (fun hc7 hh => ?_) (fun hc7 hh => ?_)
                  · refine go_swc (t := 129) 7 (pc := 24) rfl hc7 (by decide) ?_
                    refine go_al (pc := 129) rfl (rfl : ai_ld 0 (lv_args 0 [.ref a0, .int a1, .int a2]) = some (.ref a0)) ?_
                    refine go_pi (pc := 130) rfl ?_
                    refine go_il (pc := 131) rfl (rfl : ai_ld 1 (lv_args 0 [.ref a0, .int a1, .int a2]) = some (.int a1)) ?_
                    obtain ⟨q18, eq18, hh⟩ := bi_bd hh
                    refine go_ivI (pc := 132) rfl rfl (gX11_hasBull eq18) (Nat.le_of_ble_eq_true rfl) (bi_up (sX11_hasBull eq18) (Nat.le_of_ble_eq_true rfl)) ?_
                    refine bi_ite hh (fun hc hh => ?_) (fun hc hh => ?_)
                    · refine go_ifeqT (pc := 135) rfl hc ?_
                      refine go_pi (pc := 142) rfl ?_
                      exact go_ri (pc := 143) rfl hh
                    · refine go_ifeqF (pc := 135) rfl hc ?_
                      refine go_pi (pc := 138) rfl ?_
                      refine go_goto (pc := 139) rfl ?_
                      exact go_ri (pc := 143) rfl hh
                  · skip
                    refine go_swd (pc := 24) rfl (fun i hi => match i, hi with | 0, _ => Or.inr (lv_neT hc0 (by decide)) | 1, _ => Or.inr (lv_neT hc1 (by decide)) | 2, _ => Or.inr (lv_neT hc2 (by decide)) | 3, _ => Or.inr (lv_neT hc3 (by decide)) | 4, _ => Or.inr (lv_neT hc4 (by decide)) | 5, _ => Or.inr (lv_neT hc5 (by decide)) | 6, _ => Or.inr (lv_neT hc6 (by decide)) | 7, _ => Or.inr (lv_neT hc7 (by decide)) | i + 8, hi => absurd hi (Nat.not_lt.mpr (Nat.le_add_left _ _))) ?_
                    refine go_al (pc := 144) rfl (rfl : ai_ld 0 (lv_args 0 [.ref a0, .int a1, .int a2]) = some (.ref a0)) ?_
                    refine go_pi (pc := 145) rfl ?_
                    obtain ⟨q19, eq19, hh⟩ := bi_bd hh
                    refine go_ivI (pc := 146) rfl rfl (gX11_fails eq19) (Nat.le_of_ble_eq_true rfl) (bi_up (sX11_fails eq19) (Nat.le_of_ble_eq_true rfl)) ?_
                    exact go_ri (pc := 149) rfl hh
  · refine go_ifneF (pc := 10) rfl hc ?_
    refine go_al (pc := 13) rfl (rfl : ai_ld 0 (lv_args 0 [.ref a0, .int a1, .int a2]) = some (.ref a0)) ?_
    refine go_pi (pc := 14) rfl ?_
    obtain ⟨q20, eq20, hh⟩ := bi_bd hh
    refine go_ivI (pc := 15) rfl rfl (gX11_fails eq20) (Nat.le_of_ble_eq_true rfl) (bi_up (sX11_fails eq20) (Nat.le_of_ble_eq_true rfl)) ?_
    exact go_ri (pc := 18) rfl hh
def fX11_walker_53 (n : Nat) (r24 : ai_H → Nat → Int32 → Int32 → Int32 → Int32 → Option (Int32 × ai_H)) (h : ai_H) (v0 : Nat) (v1 : Int32) (v2 : Int32) (v4 : Int32) (s0 : Int32) (s1 : Int32) : Option (Int32 × ai_H) :=
  r24 h v0 v1 v2 (s1 ||| s0) (v4 + 1)
theorem sX11_walker_53 {n : Nat} {r24 : ai_H → Nat → Int32 → Int32 → Int32 → Int32 → Option (Int32 × ai_H)} {q : Int32 × ai_H} {h : ai_H} {v0 : Nat} {v1 : Int32} {v2 : Int32} {v4 : Int32} {s0 : Int32} {s1 : Int32} {lv : ai_L} (R24 : ∀ (h : ai_H) (v0 : Nat) (v1 : Int32) (v2 : Int32) (v3 : Int32) (v4 : Int32) (lv : ai_L), ai_ld 0 lv = some (.ref v0) → ai_ld 1 lv = some (.int v1) → ai_ld 2 lv = some (.int v2) → ai_ld 3 lv = some (.int v3) → ai_ld 4 lv = some (.int v4) → r24 h v0 v1 v2 v3 v4 = some q → bi_go 5 tX11_walker n (fI n q) 24 lv [] h) (l0 : ai_ld 0 lv = some (.ref v0)) (l1 : ai_ld 1 lv = some (.int v1)) (l2 : ai_ld 2 lv = some (.int v2)) (l4 : ai_ld 4 lv = some (.int v4)) (hh : fX11_walker_53 n r24 h v0 v1 v2 v4 s0 s1 = some q) : bi_go 5 tX11_walker n (fI n q) 53 lv [.int s0, .int s1] h := by
  unfold fX11_walker_53 at hh
  refine go_ior (pc := 53) rfl ?_
  refine go_is (pc := 54) rfl ?_
  refine go_inc (pc := 55) rfl (bi_k1 l4 rfl rfl) ?_
  refine go_goto (pc := 58) rfl ?_
  exact R24 _ _ _ _ _ _ _ (bi_k1 (bi_k1 l0 rfl rfl) rfl rfl) (bi_k1 (bi_k1 l1 rfl rfl) rfl rfl) (bi_k1 (bi_k1 l2 rfl rfl) rfl rfl) (bi_k1 bi_e1 rfl rfl) bi_e1 hh
def fX11_walker_24b (n : Nat) (r24 : ai_H → Nat → Int32 → Int32 → Int32 → Int32 → Option (Int32 × ai_H)) (h : ai_H) (v0 : Nat) (v1 : Int32) (v2 : Int32) (v3 : Int32) (v4 : Int32) : Option (Int32 × ai_H) :=
  (pI n h v0 11 13).bind fun x1 =>
  if x1 ≤ v4 then (
    if v2 = 0 then (
      (pR n h v0 11 60).bind fun x2 =>
      (gX 1 n h x2 v1).bind fun x3 =>
      some (x3, h))
    else (
      if v2 = 1 then (
        (pR n h v0 11 35).bind fun x4 =>
        (gX 1 n h x4 v1).bind fun x5 =>
        some (x5, h))
      else (
        if v2 = 2 then (
          (pR n h v0 11 36).bind fun x6 =>
          (gX 1 n h x6 v1).bind fun x7 =>
          some (x7, h))
        else (
          if v2 = 3 then (
            (pR n h v0 11 61).bind fun x8 =>
            (gX 1 n h x8 v1).bind fun x9 =>
            some (x9, h))
          else (
            if v2 = 4 then (
              some (v3, h))
            else (
              some ((-1 : Int32), h)))))))
  else (
    (fX11_can n h v0 (0 : Int32) v4 v1).bind fun q10 =>
    if q10.1 = 0 then (
      fX11_walker_53 n r24 q10.2 v0 v1 v2 v4 (0 : Int32) v3)
    else (
      fX11_walker_53 n r24 q10.2 v0 v1 v2 v4 ((1 : Int32) <<< (v4 &&& 31)) v3))
theorem sX11_walker_24b {n : Nat} {r24 : ai_H → Nat → Int32 → Int32 → Int32 → Int32 → Option (Int32 × ai_H)} {q : Int32 × ai_H} {h : ai_H} {v0 : Nat} {v1 : Int32} {v2 : Int32} {v3 : Int32} {v4 : Int32} {lv : ai_L} (R24 : ∀ (h : ai_H) (v0 : Nat) (v1 : Int32) (v2 : Int32) (v3 : Int32) (v4 : Int32) (lv : ai_L), ai_ld 0 lv = some (.ref v0) → ai_ld 1 lv = some (.int v1) → ai_ld 2 lv = some (.int v2) → ai_ld 3 lv = some (.int v3) → ai_ld 4 lv = some (.int v4) → r24 h v0 v1 v2 v3 v4 = some q → bi_go 5 tX11_walker n (fI n q) 24 lv [] h) (l0 : ai_ld 0 lv = some (.ref v0)) (l1 : ai_ld 1 lv = some (.int v1)) (l2 : ai_ld 2 lv = some (.int v2)) (l3 : ai_ld 3 lv = some (.int v3)) (l4 : ai_ld 4 lv = some (.int v4)) (hh : fX11_walker_24b n r24 h v0 v1 v2 v3 v4 = some q) : bi_go 5 tX11_walker n (fI n q) 24 lv [] h := by
  unfold fX11_walker_24b at hh
  refine go_il (pc := 24) rfl l4 ?_
  refine go_al (pc := 26) rfl l0 ?_
  obtain ⟨x1, ex1, hh⟩ := bi_bd hh
  refine go_gfI (pc := 27) rfl ex1 ?_
  refine bi_ite hh (fun hc hh => ?_) (fun hc hh => ?_)
  · refine go_cmpgeT (pc := 30) rfl hc ?_
    refine go_il (pc := 61) rfl l2 ?_
    refine bi_ite hh (fun hc0 hh => ?_) (fun hc0 hh => ?_)
    · refine go_swc (t := 96) 0 (pc := 62) rfl hc0 (by decide) ?_
      refine go_al (pc := 96) rfl l0 ?_
      obtain ⟨x2, ex2, hh⟩ := bi_bd hh
      refine go_gfR (pc := 97) rfl ex2 ?_
      refine go_il (pc := 100) rfl l1 ?_
      obtain ⟨x3, ex3, hh⟩ := bi_bd hh
      refine go_iald (pc := 101) rfl ex3 ?_
      exact go_ri (pc := 102) rfl hh
    · skip
      refine bi_ite hh (fun hc1 hh => ?_) (fun hc1 hh => ?_)
      · refine go_swc (t := 103) 1 (pc := 62) rfl hc1 (by decide) ?_
        refine go_al (pc := 103) rfl l0 ?_
        obtain ⟨x4, ex4, hh⟩ := bi_bd hh
        refine go_gfR (pc := 104) rfl ex4 ?_
        refine go_il (pc := 107) rfl l1 ?_
        obtain ⟨x5, ex5, hh⟩ := bi_bd hh
        refine go_iald (pc := 108) rfl ex5 ?_
        exact go_ri (pc := 109) rfl hh
      · skip
        refine bi_ite hh (fun hc2 hh => ?_) (fun hc2 hh => ?_)
        · refine go_swc (t := 110) 2 (pc := 62) rfl hc2 (by decide) ?_
          refine go_al (pc := 110) rfl l0 ?_
          obtain ⟨x6, ex6, hh⟩ := bi_bd hh
          refine go_gfR (pc := 111) rfl ex6 ?_
          refine go_il (pc := 114) rfl l1 ?_
          obtain ⟨x7, ex7, hh⟩ := bi_bd hh
          refine go_iald (pc := 115) rfl ex7 ?_
          exact go_ri (pc := 116) rfl hh
        · skip
          refine bi_ite hh (fun hc3 hh => ?_) (fun hc3 hh => ?_)
          · refine go_swc (t := 117) 3 (pc := 62) rfl hc3 (by decide) ?_
            refine go_al (pc := 117) rfl l0 ?_
            obtain ⟨x8, ex8, hh⟩ := bi_bd hh
            refine go_gfR (pc := 118) rfl ex8 ?_
            refine go_il (pc := 121) rfl l1 ?_
            obtain ⟨x9, ex9, hh⟩ := bi_bd hh
            refine go_iald (pc := 122) rfl ex9 ?_
            exact go_ri (pc := 123) rfl hh
          · skip
            refine bi_ite hh (fun hc4 hh => ?_) (fun hc4 hh => ?_)
            · refine go_swc (t := 124) 4 (pc := 62) rfl hc4 (by decide) ?_
              refine go_il (pc := 124) rfl l3 ?_
              exact go_ri (pc := 125) rfl hh
            · skip
              refine go_swd (pc := 62) rfl (fun i hi => match i, hi with | 0, _ => Or.inr (lv_neT hc0 (by decide)) | 1, _ => Or.inr (lv_neT hc1 (by decide)) | 2, _ => Or.inr (lv_neT hc2 (by decide)) | 3, _ => Or.inr (lv_neT hc3 (by decide)) | 4, _ => Or.inr (lv_neT hc4 (by decide)) | i + 5, hi => absurd hi (Nat.not_lt.mpr (Nat.le_add_left _ _))) ?_
              refine go_pi (pc := 126) rfl ?_
              exact go_ri (pc := 127) rfl hh
  · refine go_cmpgeF (pc := 30) rfl hc ?_
    refine go_il (pc := 33) rfl l3 ?_
    refine go_al (pc := 34) rfl l0 ?_
    refine go_pi (pc := 35) rfl ?_
    refine go_il (pc := 36) rfl l4 ?_
    refine go_il (pc := 38) rfl l1 ?_
    obtain ⟨q10, eq10, hh⟩ := bi_bd hh
    refine go_ivI (pc := 39) rfl rfl (gX11_can eq10) (Nat.le_of_ble_eq_true rfl) (bi_up (sX11_can eq10) (Nat.le_of_ble_eq_true rfl)) ?_
    refine bi_ite hh (fun hc hh => ?_) (fun hc hh => ?_)
    · refine go_ifeqT (pc := 42) rfl hc ?_
      refine go_pi (pc := 52) rfl ?_
      exact sX11_walker_53 R24 l0 l1 l2 l4 hh
    · refine go_ifeqF (pc := 42) rfl hc ?_
      refine go_pi (pc := 45) rfl ?_
      refine go_il (pc := 46) rfl l4 ?_
      refine go_ishl (pc := 48) rfl ?_
      refine go_goto (pc := 49) rfl ?_
      exact sX11_walker_53 R24 l0 l1 l2 l4 hh
def fX11_walker_24 (n : Nat) : Nat → ai_H → Nat → Int32 → Int32 → Int32 → Int32 → Option (Int32 × ai_H)
  | 0 => fun _ _ _ _ _ _ => none
  | k + 1 => fun h v0 v1 v2 v3 v4 => fX11_walker_24b n (fX11_walker_24 n k) h v0 v1 v2 v3 v4
theorem sX11_walker_24 {n : Nat} {q : Int32 × ai_H} : ∀ (k : Nat) (h : ai_H) (v0 : Nat) (v1 : Int32) (v2 : Int32) (v3 : Int32) (v4 : Int32) (lv : ai_L), ai_ld 0 lv = some (.ref v0) → ai_ld 1 lv = some (.int v1) → ai_ld 2 lv = some (.int v2) → ai_ld 3 lv = some (.int v3) → ai_ld 4 lv = some (.int v4) → fX11_walker_24 n k h v0 v1 v2 v3 v4 = some q → bi_go 5 tX11_walker n (fI n q) 24 lv [] h
  | 0 => fun _ _ _ _ _ _ _ _ _ _ _ _ hh => by cases hh
  | k + 1 => fun h v0 v1 v2 v3 v4 lv l0 l1 l2 l3 l4 hh => sX11_walker_24b  (sX11_walker_24  k) l0 l1 l2 l3 l4 hh
def fX11_walker (n : Nat) (h : ai_H) (a0 : Nat) (a1 : Int32) (a2 : Int32) : Option (Int32 × ai_H) :=
  (kO n h a0 11).bind fun _ =>
  (sF n h a0 11 2 (.int) (.int (0 : Int32))).bind fun h1 =>
  (fX11_isWalker n h1 a0 a1).bind fun q2 =>
  if ¬ q2.1 = 0 then (
    (fX11_plainTried n q2.2 a0).bind fun q3 =>
    fX11_walker_24 n bi_K q3.2 a0 a1 a2 (0 : Int32) (0 : Int32))
  else (
    some ((-1 : Int32), q2.2))
theorem gX11_walker {n : Nat} {h : ai_H} {a0 : Nat} {a1 : Int32} {a2 : Int32} {q : Int32 × ai_H} (hh : fX11_walker n h a0 a1 a2 = some q) : kO n h a0 11 = some () := by
  obtain ⟨_, e, -⟩ := bi_bd hh
  exact e
theorem sX11_walker {n : Nat} {h : ai_H} {a0 : Nat} {a1 : Int32} {a2 : Int32} {q : Int32 × ai_H} (hh : fX11_walker n h a0 a1 a2 = some q) : bi_sp 6 209 [.ref a0, .int a1, .int a2] h n (fI n q) := by
  refine bi_en (D := 5) (T := tX11_walker) (funext fun pc => rfl) rfl (Nat.le_of_ble_eq_true rfl) ?_
  unfold fX11_walker at hh
  obtain ⟨_, eO, hh⟩ := bi_bd hh
  refine go_al (pc := 0) rfl (rfl : ai_ld 0 (lv_args 0 [.ref a0, .int a1, .int a2]) = some (.ref a0)) ?_
  refine go_pi (pc := 1) rfl ?_
  obtain ⟨h1, eh1, hh⟩ := bi_bd hh
  refine go_pf (pc := 2) rfl eh1 ?_
  refine go_al (pc := 5) rfl (rfl : ai_ld 0 (lv_args 0 [.ref a0, .int a1, .int a2]) = some (.ref a0)) ?_
  refine go_il (pc := 6) rfl (rfl : ai_ld 1 (lv_args 0 [.ref a0, .int a1, .int a2]) = some (.int a1)) ?_
  obtain ⟨q2, eq2, hh⟩ := bi_bd hh
  refine go_ivI (pc := 7) rfl rfl (gX11_isWalker eq2) (Nat.le_of_ble_eq_true rfl) (bi_up (sX11_isWalker eq2) (Nat.le_of_ble_eq_true rfl)) ?_
  refine bi_ite hh (fun hc hh => ?_) (fun hc hh => ?_)
  · refine go_ifneT (pc := 10) rfl hc ?_
    refine go_al (pc := 15) rfl (rfl : ai_ld 0 (lv_args 0 [.ref a0, .int a1, .int a2]) = some (.ref a0)) ?_
    obtain ⟨q3, eq3, hh⟩ := bi_bd hh
    refine go_ivV (pc := 16) rfl rfl (gX11_plainTried eq3) (Nat.le_of_ble_eq_true rfl) (bi_up (sX11_plainTried eq3) (Nat.le_of_ble_eq_true rfl)) ?_
    refine go_pi (pc := 19) rfl ?_
    refine go_is (pc := 20) rfl ?_
    refine go_pi (pc := 21) rfl ?_
    refine go_is (pc := 22) rfl ?_
    exact sX11_walker_24  _ _ _ _ _ _ _ _ (bi_k1 (bi_k1 (rfl : ai_ld 0 (lv_args 0 [.ref a0, .int a1, .int a2]) = some (.ref a0)) rfl rfl) rfl rfl) (bi_k1 (bi_k1 (rfl : ai_ld 1 (lv_args 0 [.ref a0, .int a1, .int a2]) = some (.int a1)) rfl rfl) rfl rfl) (bi_k1 (bi_k1 (rfl : ai_ld 2 (lv_args 0 [.ref a0, .int a1, .int a2]) = some (.int a2)) rfl rfl) rfl rfl) (bi_k1 bi_e1 rfl rfl) bi_e1 hh
  · refine go_ifneF (pc := 10) rfl hc ?_
    refine go_pi (pc := 13) rfl ?_
    exact go_ri (pc := 14) rfl hh
def fX11_law_71 (n : Nat) (h : ai_H) (v0 : Nat) (v1 : Int32) : Option (Int64 × ai_H) :=
  (fX11_lawOf n h v0 v1).bind fun q1 =>
  (pI n q1.2 v0 11 59).bind fun x2 =>
  if x2 = 0 then (
    some (q1.1, q1.2))
  else (
    some ((-9223372036854775808 : Int64), q1.2))
theorem sX11_law_71 {n : Nat} {q : Int64 × ai_H} {h : ai_H} {v0 : Nat} {v1 : Int32} {lv : ai_L} (l0 : ai_ld 0 lv = some (.ref v0)) (l1 : ai_ld 1 lv = some (.int v1)) (hh : fX11_law_71 n h v0 v1 = some q) : bi_go 3 tX11_law n (fJ n q) 71 lv [] h := by
  unfold fX11_law_71 at hh
  refine go_al (pc := 71) rfl l0 ?_
  refine go_il (pc := 72) rfl l1 ?_
  obtain ⟨q1, eq1, hh⟩ := bi_bd hh
  refine go_ivJ (pc := 73) rfl rfl (gX11_lawOf eq1) (Nat.le_of_ble_eq_true rfl) (bi_up (sX11_lawOf eq1) (Nat.le_of_ble_eq_true rfl)) ?_
  refine go_lst (pc := 76) rfl ?_
  refine go_al (pc := 78) rfl (bi_k2 l0 rfl rfl rfl) ?_
  obtain ⟨x2, ex2, hh⟩ := bi_bd hh
  refine go_gfI (pc := 79) rfl ex2 ?_
  refine bi_ite hh (fun hc hh => ?_) (fun hc hh => ?_)
  · refine go_ifeqT (pc := 82) rfl hc ?_
    refine go_ll (pc := 91) rfl bi_e2 ?_
    exact go_rl (pc := 93) rfl hh
  · refine go_ifeqF (pc := 82) rfl hc ?_
    refine go_pl (pc := 85) rfl ?_
    refine go_goto (pc := 88) rfl ?_
    exact go_rl (pc := 93) rfl hh
def fX11_law_47 (n : Nat) (h : ai_H) (v0 : Nat) (v1 : Int32) (v2 : Int32) (v3 : Int32) : Option (Int64 × ai_H) :=
  (fX11_plainTried n h v0).bind fun q1 =>
  if ¬ v1 = 0 then (
    (fX11_layBoth n q1.2 v0 (0 : Int32) v2 v3).bind fun q2 =>
    fX11_law_71 n q2.2 v0 v1)
  else (
    (fX11_layPath n q1.2 v0 (0 : Int32) v2).bind fun q3 =>
    fX11_law_71 n q3.2 v0 v1)
theorem sX11_law_47 {n : Nat} {q : Int64 × ai_H} {h : ai_H} {v0 : Nat} {v1 : Int32} {v2 : Int32} {v3 : Int32} {lv : ai_L} (l0 : ai_ld 0 lv = some (.ref v0)) (l1 : ai_ld 1 lv = some (.int v1)) (l2 : ai_ld 2 lv = some (.int v2)) (l3 : ai_ld 3 lv = some (.int v3)) (hh : fX11_law_47 n h v0 v1 v2 v3 = some q) : bi_go 3 tX11_law n (fJ n q) 47 lv [] h := by
  unfold fX11_law_47 at hh
  refine go_al (pc := 47) rfl l0 ?_
  obtain ⟨q1, eq1, hh⟩ := bi_bd hh
  refine go_ivV (pc := 48) rfl rfl (gX11_plainTried eq1) (Nat.le_of_ble_eq_true rfl) (bi_up (sX11_plainTried eq1) (Nat.le_of_ble_eq_true rfl)) ?_
  refine go_il (pc := 51) rfl l1 ?_
  refine bi_ite hh (fun hc hh => ?_) (fun hc hh => ?_)
  · refine go_ifneT (pc := 52) rfl hc ?_
    refine go_al (pc := 64) rfl l0 ?_
    refine go_pi (pc := 65) rfl ?_
    refine go_il (pc := 66) rfl l2 ?_
    refine go_il (pc := 67) rfl l3 ?_
    obtain ⟨q2, eq2, hh⟩ := bi_bd hh
    refine go_ivV (pc := 68) rfl rfl (gX11_layBoth eq2) (Nat.le_of_ble_eq_true rfl) (bi_up (sX11_layBoth eq2) (Nat.le_of_ble_eq_true rfl)) ?_
    exact sX11_law_71  l0 l1 hh
  · refine go_ifneF (pc := 52) rfl hc ?_
    refine go_al (pc := 55) rfl l0 ?_
    refine go_pi (pc := 56) rfl ?_
    refine go_il (pc := 57) rfl l2 ?_
    obtain ⟨q3, eq3, hh⟩ := bi_bd hh
    refine go_ivV (pc := 58) rfl rfl (gX11_layPath eq3) (Nat.le_of_ble_eq_true rfl) (bi_up (sX11_layPath eq3) (Nat.le_of_ble_eq_true rfl)) ?_
    refine go_goto (pc := 61) rfl ?_
    exact sX11_law_71  l0 l1 hh
def fX11_law (n : Nat) (h : ai_H) (a0 : Nat) (a1 : Int32) (a2 : Int32) (a3 : Int32) : Option (Int64 × ai_H) :=
  (kO n h a0 11).bind fun _ =>
  (sF n h a0 11 2 (.int) (.int (0 : Int32))).bind fun h1 =>
  (fX11_isIn n h1 a1 (0 : Int32) (2 : Int32)).bind fun q2 =>
  if q2.1 = 0 then (
    some ((-9223372036854775808 : Int64), q2.2))
  else (
    (pR n q2.2 a0 11 43).bind fun x3 =>
    (gB n q2.2 x3 a1).bind fun x4 =>
    if x4 = 0 then (
      some ((-9223372036854775808 : Int64), q2.2))
    else (
      (fX11_isPath n q2.2 a0 a2).bind fun q5 =>
      if q5.1 = 0 then (
        some ((-9223372036854775808 : Int64), q5.2))
      else (
        if a1 ≤ 0 then (
          fX11_law_47 n q5.2 a0 a1 a2 a3)
        else (
          (fX11_isWalker n q5.2 a0 a3).bind fun q6 =>
          if ¬ q6.1 = 0 then (
            fX11_law_47 n q6.2 a0 a1 a2 a3)
          else (
            some ((-9223372036854775808 : Int64), q6.2))))))
theorem gX11_law {n : Nat} {h : ai_H} {a0 : Nat} {a1 : Int32} {a2 : Int32} {a3 : Int32} {q : Int64 × ai_H} (hh : fX11_law n h a0 a1 a2 a3 = some q) : kO n h a0 11 = some () := by
  obtain ⟨_, e, -⟩ := bi_bd hh
  exact e
theorem sX11_law {n : Nat} {h : ai_H} {a0 : Nat} {a1 : Int32} {a2 : Int32} {a3 : Int32} {q : Int64 × ai_H} (hh : fX11_law n h a0 a1 a2 a3 = some q) : bi_sp 4 210 [.ref a0, .int a1, .int a2, .int a3] h n (fJ n q) := by
  refine bi_en (D := 3) (T := tX11_law) (funext fun pc => rfl) rfl (Nat.le_of_ble_eq_true rfl) ?_
  unfold fX11_law at hh
  obtain ⟨_, eO, hh⟩ := bi_bd hh
  refine go_al (pc := 0) rfl (rfl : ai_ld 0 (lv_args 0 [.ref a0, .int a1, .int a2, .int a3]) = some (.ref a0)) ?_
  refine go_pi (pc := 1) rfl ?_
  obtain ⟨h1, eh1, hh⟩ := bi_bd hh
  refine go_pf (pc := 2) rfl eh1 ?_
  refine go_il (pc := 5) rfl (rfl : ai_ld 1 (lv_args 0 [.ref a0, .int a1, .int a2, .int a3]) = some (.int a1)) ?_
  refine go_pi (pc := 6) rfl ?_
  refine go_pi (pc := 7) rfl ?_
  obtain ⟨q2, eq2, hh⟩ := bi_bd hh
  refine go_iSI (pc := 8) rfl (Nat.le_of_ble_eq_true rfl) rfl (Nat.le_of_ble_eq_true rfl) (bi_up (sX11_isIn eq2) (Nat.le_of_ble_eq_true rfl)) ?_
  refine bi_ite hh (fun hc hh => ?_) (fun hc hh => ?_)
  · refine go_ifeqT (pc := 11) rfl hc ?_
    refine go_pl (pc := 43) rfl ?_
    exact go_rl (pc := 46) rfl hh
  · refine go_ifeqF (pc := 11) rfl hc ?_
    refine go_al (pc := 14) rfl (rfl : ai_ld 0 (lv_args 0 [.ref a0, .int a1, .int a2, .int a3]) = some (.ref a0)) ?_
    obtain ⟨x3, ex3, hh⟩ := bi_bd hh
    refine go_gfR (pc := 15) rfl ex3 ?_
    refine go_il (pc := 18) rfl (rfl : ai_ld 1 (lv_args 0 [.ref a0, .int a1, .int a2, .int a3]) = some (.int a1)) ?_
    obtain ⟨x4, ex4, hh⟩ := bi_bd hh
    refine go_bald (pc := 19) rfl ex4 ?_
    refine bi_ite hh (fun hc hh => ?_) (fun hc hh => ?_)
    · refine go_ifeqT (pc := 20) rfl hc ?_
      refine go_pl (pc := 43) rfl ?_
      exact go_rl (pc := 46) rfl hh
    · refine go_ifeqF (pc := 20) rfl hc ?_
      refine go_al (pc := 23) rfl (rfl : ai_ld 0 (lv_args 0 [.ref a0, .int a1, .int a2, .int a3]) = some (.ref a0)) ?_
      refine go_il (pc := 24) rfl (rfl : ai_ld 2 (lv_args 0 [.ref a0, .int a1, .int a2, .int a3]) = some (.int a2)) ?_
      obtain ⟨q5, eq5, hh⟩ := bi_bd hh
      refine go_ivI (pc := 25) rfl rfl (gX11_isPath eq5) (Nat.le_of_ble_eq_true rfl) (bi_up (sX11_isPath eq5) (Nat.le_of_ble_eq_true rfl)) ?_
      refine bi_ite hh (fun hc hh => ?_) (fun hc hh => ?_)
      · refine go_ifeqT (pc := 28) rfl hc ?_
        refine go_pl (pc := 43) rfl ?_
        exact go_rl (pc := 46) rfl hh
      · refine go_ifeqF (pc := 28) rfl hc ?_
        refine go_il (pc := 31) rfl (rfl : ai_ld 1 (lv_args 0 [.ref a0, .int a1, .int a2, .int a3]) = some (.int a1)) ?_
        refine bi_ite hh (fun hc hh => ?_) (fun hc hh => ?_)
        · refine go_ifleT (pc := 32) rfl hc ?_
          exact sX11_law_47  (rfl : ai_ld 0 (lv_args 0 [.ref a0, .int a1, .int a2, .int a3]) = some (.ref a0)) (rfl : ai_ld 1 (lv_args 0 [.ref a0, .int a1, .int a2, .int a3]) = some (.int a1)) (rfl : ai_ld 2 (lv_args 0 [.ref a0, .int a1, .int a2, .int a3]) = some (.int a2)) (rfl : ai_ld 3 (lv_args 0 [.ref a0, .int a1, .int a2, .int a3]) = some (.int a3)) hh
        · refine go_ifleF (pc := 32) rfl hc ?_
          refine go_al (pc := 35) rfl (rfl : ai_ld 0 (lv_args 0 [.ref a0, .int a1, .int a2, .int a3]) = some (.ref a0)) ?_
          refine go_il (pc := 36) rfl (rfl : ai_ld 3 (lv_args 0 [.ref a0, .int a1, .int a2, .int a3]) = some (.int a3)) ?_
          obtain ⟨q6, eq6, hh⟩ := bi_bd hh
          refine go_ivI (pc := 37) rfl rfl (gX11_isWalker eq6) (Nat.le_of_ble_eq_true rfl) (bi_up (sX11_isWalker eq6) (Nat.le_of_ble_eq_true rfl)) ?_
          refine bi_ite hh (fun hc hh => ?_) (fun hc hh => ?_)
          · refine go_ifneT (pc := 40) rfl hc ?_
            exact sX11_law_47  (rfl : ai_ld 0 (lv_args 0 [.ref a0, .int a1, .int a2, .int a3]) = some (.ref a0)) (rfl : ai_ld 1 (lv_args 0 [.ref a0, .int a1, .int a2, .int a3]) = some (.int a1)) (rfl : ai_ld 2 (lv_args 0 [.ref a0, .int a1, .int a2, .int a3]) = some (.int a2)) (rfl : ai_ld 3 (lv_args 0 [.ref a0, .int a1, .int a2, .int a3]) = some (.int a3)) hh
          · refine go_ifneF (pc := 40) rfl hc ?_
            refine go_pl (pc := 43) rfl ?_
            exact go_rl (pc := 46) rfl hh
def fX11_put_80 (n : Nat) (r39 : ai_H → Nat → Nat → Int32 → Int32 → Option (Unit × ai_H)) (h : ai_H) (v0 : Nat) (v1 : Nat) (v2 : Int32) (v3 : Int32) (s0 : Int32) (s1 : Int32) (s2 : Nat) : Option (Unit × ai_H) :=
  (wX 1 (fun x => x) n h s2 s1 s0).bind fun h1 =>
  (pR n h1 v0 11 64).bind fun x2 =>
  (gX 1 n h1 x2 v3).bind fun x3 =>
  (wX 1 (fun x => x) n h1 v1 ((v2 + (26 : Int32)) + v3) x3).bind fun h4 =>
  r39 h4 v0 v1 v2 (v3 + 1)
theorem sX11_put_80 {n : Nat} {r39 : ai_H → Nat → Nat → Int32 → Int32 → Option (Unit × ai_H)} {q : Unit × ai_H} {h : ai_H} {v0 : Nat} {v1 : Nat} {v2 : Int32} {v3 : Int32} {s0 : Int32} {s1 : Int32} {s2 : Nat} {lv : ai_L} (R39 : ∀ (h : ai_H) (v0 : Nat) (v1 : Nat) (v2 : Int32) (v3 : Int32) (lv : ai_L), ai_ld 0 lv = some (.ref v0) → ai_ld 1 lv = some (.ref v1) → ai_ld 2 lv = some (.int v2) → ai_ld 3 lv = some (.int v3) → r39 h v0 v1 v2 v3 = some q → bi_go 0 tX11_put n (fV n q) 39 lv [] h) (l0 : ai_ld 0 lv = some (.ref v0)) (l1 : ai_ld 1 lv = some (.ref v1)) (l2 : ai_ld 2 lv = some (.int v2)) (l3 : ai_ld 3 lv = some (.int v3)) (hh : fX11_put_80 n r39 h v0 v1 v2 v3 s0 s1 s2 = some q) : bi_go 0 tX11_put n (fV n q) 80 lv [.int s0, .int s1, .ref s2] h := by
  unfold fX11_put_80 at hh
  obtain ⟨h1, eh1, hh⟩ := bi_bd hh
  refine go_iast (pc := 80) rfl eh1 ?_
  refine go_al (pc := 81) rfl l1 ?_
  refine go_il (pc := 82) rfl l2 ?_
  refine go_pi (pc := 83) rfl ?_
  refine go_iadd (pc := 85) rfl ?_
  refine go_il (pc := 86) rfl l3 ?_
  refine go_iadd (pc := 87) rfl ?_
  refine go_al (pc := 88) rfl l0 ?_
  obtain ⟨x2, ex2, hh⟩ := bi_bd hh
  refine go_gfR (pc := 89) rfl ex2 ?_
  refine go_il (pc := 92) rfl l3 ?_
  obtain ⟨x3, ex3, hh⟩ := bi_bd hh
  refine go_iald (pc := 93) rfl ex3 ?_
  obtain ⟨h4, eh4, hh⟩ := bi_bd hh
  refine go_iast (pc := 94) rfl eh4 ?_
  refine go_inc (pc := 95) rfl l3 ?_
  refine go_goto (pc := 98) rfl ?_
  exact R39 _ _ _ _ _ _ (bi_k1 l0 rfl rfl) (bi_k1 l1 rfl rfl) (bi_k1 l2 rfl rfl) bi_e1 hh
def fX11_put_39b (n : Nat) (r39 : ai_H → Nat → Nat → Int32 → Int32 → Option (Unit × ai_H)) (h : ai_H) (v0 : Nat) (v1 : Nat) (v2 : Int32) (v3 : Int32) : Option (Unit × ai_H) :=
  if (9 : Int32) ≤ v3 then (
    (pR n h v0 11 65).bind fun x1 =>
    (gX 1 n h x1 (0 : Int32)).bind fun x2 =>
    (wX 1 (fun x => x) n h v1 (v2 + (35 : Int32)) x2).bind fun h3 =>
    some ((), h3))
  else (
    (pR n h v0 11 62).bind fun x4 =>
    (gX 1 n h x4 v3).bind fun x5 =>
    (wX 1 (fun x => x) n h v1 ((v2 + (8 : Int32)) + v3) x5).bind fun h6 =>
    (pR n h6 v0 11 63).bind fun x7 =>
    (gB n h6 x7 v3).bind fun x8 =>
    if x8 = 0 then (
      fX11_put_80 n r39 h6 v0 v1 v2 v3 (0 : Int32) ((v2 + (17 : Int32)) + v3) v1)
    else (
      fX11_put_80 n r39 h6 v0 v1 v2 v3 (1 : Int32) ((v2 + (17 : Int32)) + v3) v1))
theorem sX11_put_39b {n : Nat} {r39 : ai_H → Nat → Nat → Int32 → Int32 → Option (Unit × ai_H)} {q : Unit × ai_H} {h : ai_H} {v0 : Nat} {v1 : Nat} {v2 : Int32} {v3 : Int32} {lv : ai_L} (R39 : ∀ (h : ai_H) (v0 : Nat) (v1 : Nat) (v2 : Int32) (v3 : Int32) (lv : ai_L), ai_ld 0 lv = some (.ref v0) → ai_ld 1 lv = some (.ref v1) → ai_ld 2 lv = some (.int v2) → ai_ld 3 lv = some (.int v3) → r39 h v0 v1 v2 v3 = some q → bi_go 0 tX11_put n (fV n q) 39 lv [] h) (l0 : ai_ld 0 lv = some (.ref v0)) (l1 : ai_ld 1 lv = some (.ref v1)) (l2 : ai_ld 2 lv = some (.int v2)) (l3 : ai_ld 3 lv = some (.int v3)) (hh : fX11_put_39b n r39 h v0 v1 v2 v3 = some q) : bi_go 0 tX11_put n (fV n q) 39 lv [] h := by
  unfold fX11_put_39b at hh
  refine go_il (pc := 39) rfl l3 ?_
  refine go_pi (pc := 40) rfl ?_
  refine bi_ite hh (fun hc hh => ?_) (fun hc hh => ?_)
  · refine go_cmpgeT (pc := 42) rfl hc ?_
    refine go_al (pc := 101) rfl l1 ?_
    refine go_il (pc := 102) rfl l2 ?_
    refine go_pi (pc := 103) rfl ?_
    refine go_iadd (pc := 105) rfl ?_
    refine go_al (pc := 106) rfl l0 ?_
    obtain ⟨x1, ex1, hh⟩ := bi_bd hh
    refine go_gfR (pc := 107) rfl ex1 ?_
    refine go_pi (pc := 110) rfl ?_
    obtain ⟨x2, ex2, hh⟩ := bi_bd hh
    refine go_iald (pc := 111) rfl ex2 ?_
    obtain ⟨h3, eh3, hh⟩ := bi_bd hh
    refine go_iast (pc := 112) rfl eh3 ?_
    exact go_rv (pc := 113) rfl hh
  · refine go_cmpgeF (pc := 42) rfl hc ?_
    refine go_al (pc := 45) rfl l1 ?_
    refine go_il (pc := 46) rfl l2 ?_
    refine go_pi (pc := 47) rfl ?_
    refine go_iadd (pc := 49) rfl ?_
    refine go_il (pc := 50) rfl l3 ?_
    refine go_iadd (pc := 51) rfl ?_
    refine go_al (pc := 52) rfl l0 ?_
    obtain ⟨x4, ex4, hh⟩ := bi_bd hh
    refine go_gfR (pc := 53) rfl ex4 ?_
    refine go_il (pc := 56) rfl l3 ?_
    obtain ⟨x5, ex5, hh⟩ := bi_bd hh
    refine go_iald (pc := 57) rfl ex5 ?_
    obtain ⟨h6, eh6, hh⟩ := bi_bd hh
    refine go_iast (pc := 58) rfl eh6 ?_
    refine go_al (pc := 59) rfl l1 ?_
    refine go_il (pc := 60) rfl l2 ?_
    refine go_pi (pc := 61) rfl ?_
    refine go_iadd (pc := 63) rfl ?_
    refine go_il (pc := 64) rfl l3 ?_
    refine go_iadd (pc := 65) rfl ?_
    refine go_al (pc := 66) rfl l0 ?_
    obtain ⟨x7, ex7, hh⟩ := bi_bd hh
    refine go_gfR (pc := 67) rfl ex7 ?_
    refine go_il (pc := 70) rfl l3 ?_
    obtain ⟨x8, ex8, hh⟩ := bi_bd hh
    refine go_bald (pc := 71) rfl ex8 ?_
    refine bi_ite hh (fun hc hh => ?_) (fun hc hh => ?_)
    · refine go_ifeqT (pc := 72) rfl hc ?_
      refine go_pi (pc := 79) rfl ?_
      exact sX11_put_80 R39 l0 l1 l2 l3 hh
    · refine go_ifeqF (pc := 72) rfl hc ?_
      refine go_pi (pc := 75) rfl ?_
      refine go_goto (pc := 76) rfl ?_
      exact sX11_put_80 R39 l0 l1 l2 l3 hh
def fX11_put_39 (n : Nat) : Nat → ai_H → Nat → Nat → Int32 → Int32 → Option (Unit × ai_H)
  | 0 => fun _ _ _ _ _ => none
  | k + 1 => fun h v0 v1 v2 v3 => fX11_put_39b n (fX11_put_39 n k) h v0 v1 v2 v3
theorem sX11_put_39 {n : Nat} {q : Unit × ai_H} : ∀ (k : Nat) (h : ai_H) (v0 : Nat) (v1 : Nat) (v2 : Int32) (v3 : Int32) (lv : ai_L), ai_ld 0 lv = some (.ref v0) → ai_ld 1 lv = some (.ref v1) → ai_ld 2 lv = some (.int v2) → ai_ld 3 lv = some (.int v3) → fX11_put_39 n k h v0 v1 v2 v3 = some q → bi_go 0 tX11_put n (fV n q) 39 lv [] h
  | 0 => fun _ _ _ _ _ _ _ _ _ _ hh => by cases hh
  | k + 1 => fun h v0 v1 v2 v3 lv l0 l1 l2 l3 hh => sX11_put_39b  (sX11_put_39  k) l0 l1 l2 l3 hh
def fX11_put_2b (n : Nat) (r2 : ai_H → Nat → Nat → Int32 → Int32 → Option (Unit × ai_H)) (h : ai_H) (v0 : Nat) (v1 : Nat) (v2 : Int32) (v3 : Int32) : Option (Unit × ai_H) :=
  if (4 : Int32) ≤ v3 then (
    fX11_put_39 n bi_K h v0 v1 v2 (0 : Int32))
  else (
    (pR n h v0 11 60).bind fun x1 =>
    (gX 1 n h x1 v3).bind fun x2 =>
    (wX 1 (fun x => x) n h v1 (v2 + v3) x2).bind fun h3 =>
    (pR n h3 v0 11 61).bind fun x4 =>
    (gX 1 n h3 x4 v3).bind fun x5 =>
    (wX 1 (fun x => x) n h3 v1 ((v2 + (4 : Int32)) + v3) x5).bind fun h6 =>
    r2 h6 v0 v1 v2 (v3 + 1))
theorem sX11_put_2b {n : Nat} {r2 : ai_H → Nat → Nat → Int32 → Int32 → Option (Unit × ai_H)} {q : Unit × ai_H} {h : ai_H} {v0 : Nat} {v1 : Nat} {v2 : Int32} {v3 : Int32} {lv : ai_L} (R2 : ∀ (h : ai_H) (v0 : Nat) (v1 : Nat) (v2 : Int32) (v3 : Int32) (lv : ai_L), ai_ld 0 lv = some (.ref v0) → ai_ld 1 lv = some (.ref v1) → ai_ld 2 lv = some (.int v2) → ai_ld 3 lv = some (.int v3) → r2 h v0 v1 v2 v3 = some q → bi_go 0 tX11_put n (fV n q) 2 lv [] h) (l0 : ai_ld 0 lv = some (.ref v0)) (l1 : ai_ld 1 lv = some (.ref v1)) (l2 : ai_ld 2 lv = some (.int v2)) (l3 : ai_ld 3 lv = some (.int v3)) (hh : fX11_put_2b n r2 h v0 v1 v2 v3 = some q) : bi_go 0 tX11_put n (fV n q) 2 lv [] h := by
  unfold fX11_put_2b at hh
  refine go_il (pc := 2) rfl l3 ?_
  refine go_pi (pc := 3) rfl ?_
  refine bi_ite hh (fun hc hh => ?_) (fun hc hh => ?_)
  · refine go_cmpgeT (pc := 4) rfl hc ?_
    refine go_pi (pc := 37) rfl ?_
    refine go_is (pc := 38) rfl ?_
    exact sX11_put_39  _ _ _ _ _ _ _ (bi_k1 l0 rfl rfl) (bi_k1 l1 rfl rfl) (bi_k1 l2 rfl rfl) bi_e1 hh
  · refine go_cmpgeF (pc := 4) rfl hc ?_
    refine go_al (pc := 7) rfl l1 ?_
    refine go_il (pc := 8) rfl l2 ?_
    refine go_il (pc := 9) rfl l3 ?_
    refine go_iadd (pc := 10) rfl ?_
    refine go_al (pc := 11) rfl l0 ?_
    obtain ⟨x1, ex1, hh⟩ := bi_bd hh
    refine go_gfR (pc := 12) rfl ex1 ?_
    refine go_il (pc := 15) rfl l3 ?_
    obtain ⟨x2, ex2, hh⟩ := bi_bd hh
    refine go_iald (pc := 16) rfl ex2 ?_
    obtain ⟨h3, eh3, hh⟩ := bi_bd hh
    refine go_iast (pc := 17) rfl eh3 ?_
    refine go_al (pc := 18) rfl l1 ?_
    refine go_il (pc := 19) rfl l2 ?_
    refine go_pi (pc := 20) rfl ?_
    refine go_iadd (pc := 21) rfl ?_
    refine go_il (pc := 22) rfl l3 ?_
    refine go_iadd (pc := 23) rfl ?_
    refine go_al (pc := 24) rfl l0 ?_
    obtain ⟨x4, ex4, hh⟩ := bi_bd hh
    refine go_gfR (pc := 25) rfl ex4 ?_
    refine go_il (pc := 28) rfl l3 ?_
    obtain ⟨x5, ex5, hh⟩ := bi_bd hh
    refine go_iald (pc := 29) rfl ex5 ?_
    obtain ⟨h6, eh6, hh⟩ := bi_bd hh
    refine go_iast (pc := 30) rfl eh6 ?_
    refine go_inc (pc := 31) rfl l3 ?_
    refine go_goto (pc := 34) rfl ?_
    exact R2 _ _ _ _ _ _ (bi_k1 l0 rfl rfl) (bi_k1 l1 rfl rfl) (bi_k1 l2 rfl rfl) bi_e1 hh
def fX11_put_2 (n : Nat) : Nat → ai_H → Nat → Nat → Int32 → Int32 → Option (Unit × ai_H)
  | 0 => fun _ _ _ _ _ => none
  | k + 1 => fun h v0 v1 v2 v3 => fX11_put_2b n (fX11_put_2 n k) h v0 v1 v2 v3
theorem sX11_put_2 {n : Nat} {q : Unit × ai_H} : ∀ (k : Nat) (h : ai_H) (v0 : Nat) (v1 : Nat) (v2 : Int32) (v3 : Int32) (lv : ai_L), ai_ld 0 lv = some (.ref v0) → ai_ld 1 lv = some (.ref v1) → ai_ld 2 lv = some (.int v2) → ai_ld 3 lv = some (.int v3) → fX11_put_2 n k h v0 v1 v2 v3 = some q → bi_go 0 tX11_put n (fV n q) 2 lv [] h
  | 0 => fun _ _ _ _ _ _ _ _ _ _ hh => by cases hh
  | k + 1 => fun h v0 v1 v2 v3 lv l0 l1 l2 l3 hh => sX11_put_2b  (sX11_put_2  k) l0 l1 l2 l3 hh
def fX11_put (n : Nat) (h : ai_H) (a0 : Nat) (a1 : Nat) (a2 : Int32) : Option (Unit × ai_H) :=
  (kO n h a0 11).bind fun _ =>
  fX11_put_2 n bi_K h a0 a1 a2 (0 : Int32)
theorem gX11_put {n : Nat} {h : ai_H} {a0 : Nat} {a1 : Nat} {a2 : Int32} {q : Unit × ai_H} (hh : fX11_put n h a0 a1 a2 = some q) : kO n h a0 11 = some () := by
  obtain ⟨_, e, -⟩ := bi_bd hh
  exact e
theorem sX11_put {n : Nat} {h : ai_H} {a0 : Nat} {a1 : Nat} {a2 : Int32} {q : Unit × ai_H} (hh : fX11_put n h a0 a1 a2 = some q) : bi_sp 1 260 [.ref a0, .ref a1, .int a2] h n (fV n q) := by
  refine bi_en (D := 0) (T := tX11_put) (funext fun pc => rfl) rfl (Nat.le_of_ble_eq_true rfl) ?_
  unfold fX11_put at hh
  obtain ⟨_, eO, hh⟩ := bi_bd hh
  refine go_pi (pc := 0) rfl ?_
  refine go_is (pc := 1) rfl ?_
  exact sX11_put_2  _ _ _ _ _ _ _ (bi_k1 (rfl : ai_ld 0 (lv_args 0 [.ref a0, .ref a1, .int a2]) = some (.ref a0)) rfl rfl) (bi_k1 (rfl : ai_ld 1 (lv_args 0 [.ref a0, .ref a1, .int a2]) = some (.ref a1)) rfl rfl) (bi_k1 (rfl : ai_ld 2 (lv_args 0 [.ref a0, .ref a1, .int a2]) = some (.int a2)) rfl rfl) bi_e1 hh
