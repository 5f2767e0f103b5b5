/-! ===== methods as functions, part 1 ===== -/
def fX2_value_225 (n : Nat) (r22 : ai_H → Nat → Int32 → Int64 → Int32 → Int32 → Option (Int64 × ai_H)) (h : ai_H) (v0 : Nat) (v1 : Int32) (v2 : Int64) (v4 : Int32) (v5 : Int32) : Option (Int64 × ai_H) :=
  r22 h v0 v1 v2 v4 (v5 + 1)
theorem sX2_value_225 {n : Nat} {r22 : ai_H → Nat → Int32 → Int64 → Int32 → Int32 → Option (Int64 × ai_H)} {q : Int64 × ai_H} {h : ai_H} {v0 : Nat} {v1 : Int32} {v2 : Int64} {v4 : Int32} {v5 : Int32} {lv : ai_L} (R22 : ∀ (h : ai_H) (v0 : Nat) (v1 : Int32) (v2 : Int64) (v4 : Int32) (v5 : Int32) (lv : ai_L), ai_ld 0 lv = some (.ref v0) → ai_ld 1 lv = some (.int v1) → ai_ld 2 lv = some (.long v2) → ai_ld 4 lv = some (.int v4) → ai_ld 5 lv = some (.int v5) → r22 h v0 v1 v2 v4 v5 = some q → bi_go 1 tX2_value n (fJ n q) 22 lv [] h) (l0 : ai_ld 0 lv = some (.ref v0)) (l1 : ai_ld 1 lv = some (.int v1)) (l2 : ai_ld 2 lv = some (.long v2)) (l4 : ai_ld 4 lv = some (.int v4)) (l5 : ai_ld 5 lv = some (.int v5)) (hh : fX2_value_225 n r22 h v0 v1 v2 v4 v5 = some q) : bi_go 1 tX2_value n (fJ n q) 225 lv [] h := by
  unfold fX2_value_225 at hh
  refine go_inc (pc := 225) rfl l5 ?_
  refine go_goto (pc := 228) rfl ?_
  exact R22 _ _ _ _ _ _ _ (bi_k1 l0 rfl rfl) (bi_k1 l1 rfl rfl) (bi_k1L l2 rfl rfl) (bi_k1 l4 rfl rfl) bi_e1 hh
def fX2_value_107 (n : Nat) (r22 : ai_H → Nat → Int32 → Int64 → Int32 → Int32 → Option (Int64 × ai_H)) (h : ai_H) (v0 : Nat) (v1 : Int32) (v2 : Int64) (v4 : Int32) (v5 : Int32) (s0 : Int64) (s1 : Int32) (s2 : Nat) : Option (Int64 × ai_H) :=
  (wJ n h s2 s1 s0).bind fun h1 =>
  fX2_value_225 n r22 h1 v0 v1 v2 (v4 + 1) v5
theorem sX2_value_107 {n : Nat} {r22 : ai_H → Nat → Int32 → Int64 → Int32 → Int32 → Option (Int64 × ai_H)} {q : Int64 × ai_H} {h : ai_H} {v0 : Nat} {v1 : Int32} {v2 : Int64} {v4 : Int32} {v5 : Int32} {s0 : Int64} {s1 : Int32} {s2 : Nat} {lv : ai_L} (R22 : ∀ (h : ai_H) (v0 : Nat) (v1 : Int32) (v2 : Int64) (v4 : Int32) (v5 : Int32) (lv : ai_L), ai_ld 0 lv = some (.ref v0) → ai_ld 1 lv = some (.int v1) → ai_ld 2 lv = some (.long v2) → ai_ld 4 lv = some (.int v4) → ai_ld 5 lv = some (.int v5) → r22 h v0 v1 v2 v4 v5 = some q → bi_go 1 tX2_value n (fJ n q) 22 lv [] h) (l0 : ai_ld 0 lv = some (.ref v0)) (l1 : ai_ld 1 lv = some (.int v1)) (l2 : ai_ld 2 lv = some (.long v2)) (l4 : ai_ld 4 lv = some (.int v4)) (l5 : ai_ld 5 lv = some (.int v5)) (hh : fX2_value_107 n r22 h v0 v1 v2 v4 v5 s0 s1 s2 = some q) : bi_go 1 tX2_value n (fJ n q) 107 lv [.long s0, .int s1, .ref s2] h := by
  unfold fX2_value_107 at hh
  obtain ⟨h1, eh1, hh⟩ := bi_bd hh
  refine go_last (pc := 107) rfl eh1 ?_
  refine go_inc (pc := 108) rfl l4 ?_
  refine go_goto (pc := 111) rfl ?_
  exact sX2_value_225 R22 (bi_k1 l0 rfl rfl) (bi_k1 l1 rfl rfl) (bi_k1L l2 rfl rfl) bi_e1 (bi_k1 l5 rfl rfl) hh
def fX2_value_64 (n : Nat) (r22 : ai_H → Nat → Int32 → Int64 → Int32 → Int32 → Option (Int64 × ai_H)) (h : ai_H) (v0 : Nat) (v1 : Int32) (v2 : Int64) (v4 : Int32) (v5 : Int32) (v6 : Int32) : Option (Int64 × ai_H) :=
  if v4 < (64 : Int32) then (
    (pR n h v0 2 7).bind fun x1 =>
    if ¬ v6 = (23 : Int32) then (
      (pR n h v0 2 6).bind fun x2 =>
      (gJ n h x2 (v6 - (15 : Int32))).bind fun x3 =>
      fX2_value_107 n r22 h v0 v1 v2 v4 v5 x3 v4 x1)
    else (
      (pR n h v0 2 3).bind fun x4 =>
      (gX 1 n h x4 v5).bind fun x5 =>
      fX2_value_107 n r22 h v0 v1 v2 v4 v5 x5.toInt64 v4 x1))
  else (
    some (v2, h))
theorem sX2_value_64 {n : Nat} {r22 : ai_H → Nat → Int32 → Int64 → Int32 → Int32 → Option (Int64 × ai_H)} {q : Int64 × ai_H} {h : ai_H} {v0 : Nat} {v1 : Int32} {v2 : Int64} {v4 : Int32} {v5 : Int32} {v6 : Int32} {lv : ai_L} (R22 : ∀ (h : ai_H) (v0 : Nat) (v1 : Int32) (v2 : Int64) (v4 : Int32) (v5 : Int32) (lv : ai_L), ai_ld 0 lv = some (.ref v0) → ai_ld 1 lv = some (.int v1) → ai_ld 2 lv = some (.long v2) → ai_ld 4 lv = some (.int v4) → ai_ld 5 lv = some (.int v5) → r22 h v0 v1 v2 v4 v5 = some q → bi_go 1 tX2_value n (fJ n q) 22 lv [] h) (l0 : ai_ld 0 lv = some (.ref v0)) (l1 : ai_ld 1 lv = some (.int v1)) (l2 : ai_ld 2 lv = some (.long v2)) (l4 : ai_ld 4 lv = some (.int v4)) (l5 : ai_ld 5 lv = some (.int v5)) (l6 : ai_ld 6 lv = some (.int v6)) (hh : fX2_value_64 n r22 h v0 v1 v2 v4 v5 v6 = some q) : bi_go 1 tX2_value n (fJ n q) 64 lv [] h := by
  unfold fX2_value_64 at hh
  refine go_il (pc := 64) rfl l4 ?_
  refine go_pi (pc := 66) rfl ?_
  refine bi_ite hh (fun hc hh => ?_) (fun hc hh => ?_)
  · refine go_cmpltT (pc := 68) rfl hc ?_
    refine go_al (pc := 73) rfl l0 ?_
    obtain ⟨x1, ex1, hh⟩ := bi_bd hh
    refine go_gfR (pc := 74) rfl ex1 ?_
    refine go_il (pc := 77) rfl l4 ?_
    refine go_il (pc := 79) rfl l6 ?_
    refine go_pi (pc := 81) rfl ?_
    refine bi_ite hh (fun hc hh => ?_) (fun hc hh => ?_)
    · refine go_cmpneT (pc := 83) rfl hc ?_
      refine go_al (pc := 97) rfl l0 ?_
      obtain ⟨x2, ex2, hh⟩ := bi_bd hh
      refine go_gfR (pc := 98) rfl ex2 ?_
      refine go_il (pc := 101) rfl l6 ?_
      refine go_pi (pc := 103) rfl ?_
      refine go_isub (pc := 105) rfl ?_
      obtain ⟨x3, ex3, hh⟩ := bi_bd hh
      refine go_lald (pc := 106) rfl ex3 ?_
      exact sX2_value_107 R22 l0 l1 l2 l4 l5 hh
    · refine go_cmpneF (pc := 83) rfl hc ?_
      refine go_al (pc := 86) rfl l0 ?_
      obtain ⟨x4, ex4, hh⟩ := bi_bd hh
      refine go_gfR (pc := 87) rfl ex4 ?_
      refine go_il (pc := 90) rfl l5 ?_
      obtain ⟨x5, ex5, hh⟩ := bi_bd hh
      refine go_iald (pc := 92) rfl ex5 ?_
      refine go_i2l (pc := 93) rfl ?_
      refine go_goto (pc := 94) rfl ?_
      exact sX2_value_107 R22 l0 l1 l2 l4 l5 hh
  · refine go_cmpltF (pc := 68) rfl hc ?_
    refine go_ll (pc := 71) rfl l2 ?_
    exact go_rl (pc := 72) rfl hh
def fX2_value_156 (n : Nat) (r22 : ai_H → Nat → Int32 → Int64 → Int32 → Int32 → Option (Int64 × ai_H)) (h : ai_H) (v0 : Nat) (v1 : Int32) (v2 : Int64) (v4 : Int32) (v5 : Int32) (s0 : Int64) (s1 : Int32) (s2 : Nat) : Option (Int64 × ai_H) :=
  (wJ n h s2 s1 s0).bind fun h1 =>
  fX2_value_225 n r22 h1 v0 v1 v2 v4 v5
theorem sX2_value_156 {n : Nat} {r22 : ai_H → Nat → Int32 → Int64 → Int32 → Int32 → Option (Int64 × ai_H)} {q : Int64 × ai_H} {h : ai_H} {v0 : Nat} {v1 : Int32} {v2 : Int64} {v4 : Int32} {v5 : Int32} {s0 : Int64} {s1 : Int32} {s2 : Nat} {lv : ai_L} (R22 : ∀ (h : ai_H) (v0 : Nat) (v1 : Int32) (v2 : Int64) (v4 : Int32) (v5 : Int32) (lv : ai_L), ai_ld 0 lv = some (.ref v0) → ai_ld 1 lv = some (.int v1) → ai_ld 2 lv = some (.long v2) → ai_ld 4 lv = some (.int v4) → ai_ld 5 lv = some (.int v5) → r22 h v0 v1 v2 v4 v5 = some q → bi_go 1 tX2_value n (fJ n q) 22 lv [] h) (l0 : ai_ld 0 lv = some (.ref v0)) (l1 : ai_ld 1 lv = some (.int v1)) (l2 : ai_ld 2 lv = some (.long v2)) (l4 : ai_ld 4 lv = some (.int v4)) (l5 : ai_ld 5 lv = some (.int v5)) (hh : fX2_value_156 n r22 h v0 v1 v2 v4 v5 s0 s1 s2 = some q) : bi_go 1 tX2_value n (fJ n q) 156 lv [.long s0, .int s1, .ref s2] h := by
  unfold fX2_value_156 at hh
  obtain ⟨h1, eh1, hh⟩ := bi_bd hh
  refine go_last (pc := 156) rfl eh1 ?_
  refine go_goto (pc := 157) rfl ?_
  exact sX2_value_225 R22 l0 l1 l2 l4 l5 hh
def fX2_value_231 (n : Nat) (h : ai_H) (v0 : Nat) (v2 : Int64) (v4 : Int32) : Option (Int64 × ai_H) :=
  if ¬ v4 = (1 : Int32) then (
    some (v2, h))
  else (
    (pR n h v0 2 7).bind fun x1 =>
    (gJ n h x1 (0 : Int32)).bind fun x2 =>
    some (x2, h))
theorem sX2_value_231 {n : Nat} {q : Int64 × ai_H} {h : ai_H} {v0 : Nat} {v2 : Int64} {v4 : Int32} {lv : ai_L} (l0 : ai_ld 0 lv = some (.ref v0)) (l2 : ai_ld 2 lv = some (.long v2)) (l4 : ai_ld 4 lv = some (.int v4)) (hh : fX2_value_231 n h v0 v2 v4 = some q) : bi_go 1 tX2_value n (fJ n q) 231 lv [] h := by
  unfold fX2_value_231 at hh
  refine go_il (pc := 231) rfl l4 ?_
  refine go_pi (pc := 233) rfl ?_
  refine bi_ite hh (fun hc hh => ?_) (fun hc hh => ?_)
  · refine go_cmpneT (pc := 234) rfl hc ?_
    refine go_ll (pc := 246) rfl l2 ?_
    exact go_rl (pc := 247) rfl hh
  · refine go_cmpneF (pc := 234) rfl hc ?_
    refine go_al (pc := 237) rfl l0 ?_
    obtain ⟨x1, ex1, hh⟩ := bi_bd hh
    refine go_gfR (pc := 238) rfl ex1 ?_
    refine go_pi (pc := 241) rfl ?_
    obtain ⟨x2, ex2, hh⟩ := bi_bd hh
    refine go_lald (pc := 242) rfl ex2 ?_
    refine go_goto (pc := 243) rfl ?_
    exact go_rl (pc := 247) rfl hh
def fX2_value_22b (n : Nat) (r22 : ai_H → Nat → Int32 → Int64 → Int32 → Int32 → Option (Int64 × ai_H)) (h : ai_H) (v0 : Nat) (v1 : Int32) (v2 : Int64) (v4 : Int32) (v5 : Int32) : Option (Int64 × ai_H) :=
  (pR n h v0 2 1).bind fun x1 =>
  (gX 1 n h x1 v1).bind fun x2 =>
  if x2 ≤ v5 then (
    fX2_value_231 n h v0 v2 v4)
  else (
    if (64 : Int32) ≤ v5 then (
      fX2_value_231 n h v0 v2 v4)
    else (
      (pR n h v0 2 2).bind fun x3 =>
      (gX 1 n h x3 v5).bind fun x4 =>
      if x4 = (23 : Int32) then (
        fX2_value_64 n r22 h v0 v1 v2 v4 v5 x4)
      else (
        (fX7_isName n h x4).bind fun q5 =>
        if q5.1 = 0 then (
          if ¬ x4 = (14 : Int32) then (
            if (2 : Int32) ≤ v4 then (
              (pR n q5.2 v0 2 7).bind fun x6 =>
              (gJ n q5.2 x6 ((v4 + (-1)) - (1 : Int32))).bind fun x7 =>
              (pR n q5.2 v0 2 7).bind fun x8 =>
              (gJ n q5.2 x8 (v4 + (-1))).bind fun x9 =>
              (fX2_join n q5.2 x4 x7 x9).bind fun q10 =>
              if 0 < (lg_cmp q10.1 (1000000000000 : Int64)) then (
                some (v2, q10.2))
              else (
                if 0 ≤ (lg_cmp q10.1 (-1000000000000 : Int64)) then (
                  (pR n q10.2 v0 2 7).bind fun x11 =>
                  (wJ n q10.2 x11 ((v4 + (-1)) - (1 : Int32)) q10.1).bind fun h12 =>
                  fX2_value_225 n r22 h12 v0 v1 v2 (v4 + (-1)) v5)
                else (
                  some (v2, q10.2))))
            else (
              some (v2, q5.2)))
          else (
            if (1 : Int32) ≤ v4 then (
              (pR n q5.2 v0 2 7).bind fun x13 =>
              (pR n q5.2 v0 2 7).bind fun x14 =>
              (gJ n q5.2 x14 (v4 - (1 : Int32))).bind fun x15 =>
              if ¬ (lg_cmp x15 (0 : Int64)) = 0 then (
                fX2_value_156 n r22 q5.2 v0 v1 v2 v4 v5 (0 : Int64) (v4 - (1 : Int32)) x13)
              else (
                fX2_value_156 n r22 q5.2 v0 v1 v2 v4 v5 (1 : Int64) (v4 - (1 : Int32)) x13))
            else (
              some (v2, q5.2))))
        else (
          fX2_value_64 n r22 q5.2 v0 v1 v2 v4 v5 x4))))
theorem sX2_value_22b {n : Nat} {r22 : ai_H → Nat → Int32 → Int64 → Int32 → Int32 → Option (Int64 × ai_H)} {q : Int64 × ai_H} {h : ai_H} {v0 : Nat} {v1 : Int32} {v2 : Int64} {v4 : Int32} {v5 : Int32} {lv : ai_L} (R22 : ∀ (h : ai_H) (v0 : Nat) (v1 : Int32) (v2 : Int64) (v4 : Int32) (v5 : Int32) (lv : ai_L), ai_ld 0 lv = some (.ref v0) → ai_ld 1 lv = some (.int v1) → ai_ld 2 lv = some (.long v2) → ai_ld 4 lv = some (.int v4) → ai_ld 5 lv = some (.int v5) → r22 h v0 v1 v2 v4 v5 = some q → bi_go 1 tX2_value n (fJ n q) 22 lv [] h) (l0 : ai_ld 0 lv = some (.ref v0)) (l1 : ai_ld 1 lv = some (.int v1)) (l2 : ai_ld 2 lv = some (.long v2)) (l4 : ai_ld 4 lv = some (.int v4)) (l5 : ai_ld 5 lv = some (.int v5)) (hh : fX2_value_22b n r22 h v0 v1 v2 v4 v5 = some q) : bi_go 1 tX2_value n (fJ n q) 22 lv [] h := by
  unfold fX2_value_22b at hh
  refine go_il (pc := 22) rfl l5 ?_
  refine go_al (pc := 24) rfl l0 ?_
  obtain ⟨x1, ex1, hh⟩ := bi_bd hh
  refine go_gfR (pc := 25) rfl ex1 ?_
  refine go_il (pc := 28) rfl l1 ?_
  obtain ⟨x2, ex2, hh⟩ := bi_bd hh
  refine go_iald (pc := 29) rfl ex2 ?_
  refine bi_ite hh (fun hc hh => ?_) (fun hc hh => ?_)
  · refine go_cmpgeT (pc := 30) rfl hc ?_
    exact sX2_value_231  l0 l2 l4 hh
  · refine go_cmpgeF (pc := 30) rfl hc ?_
    refine go_il (pc := 33) rfl l5 ?_
    refine go_pi (pc := 35) rfl ?_
    refine bi_ite hh (fun hc hh => ?_) (fun hc hh => ?_)
    · refine go_cmpgeT (pc := 37) rfl hc ?_
      exact sX2_value_231  l0 l2 l4 hh
    · refine go_cmpgeF (pc := 37) rfl hc ?_
      refine go_al (pc := 40) rfl l0 ?_
      obtain ⟨x3, ex3, hh⟩ := bi_bd hh
      refine go_gfR (pc := 41) rfl ex3 ?_
      refine go_il (pc := 44) rfl l5 ?_
      obtain ⟨x4, ex4, hh⟩ := bi_bd hh
      refine go_iald (pc := 46) rfl ex4 ?_
      refine go_is (pc := 47) rfl ?_
      refine go_il (pc := 49) rfl bi_e1 ?_
      refine go_pi (pc := 51) rfl ?_
      refine bi_ite hh (fun hc hh => ?_) (fun hc hh => ?_)
      · refine go_cmpeqT (pc := 53) rfl hc ?_
        exact sX2_value_64 R22 (bi_k1 l0 rfl rfl) (bi_k1 l1 rfl rfl) (bi_k1L l2 rfl rfl) (bi_k1 l4 rfl rfl) (bi_k1 l5 rfl rfl) bi_e1 hh
      · refine go_cmpeqF (pc := 53) rfl hc ?_
        refine go_il (pc := 56) rfl bi_e1 ?_
        obtain ⟨q5, eq5, hh⟩ := bi_bd hh
        refine go_iSI (pc := 58) rfl (Nat.le_of_ble_eq_true rfl) rfl (Nat.le_of_ble_eq_true rfl) (bi_up (sX7_isName eq5) (Nat.le_of_ble_eq_true rfl)) ?_
        refine bi_ite hh (fun hc hh => ?_) (fun hc hh => ?_)
        · refine go_ifeqT (pc := 61) rfl hc ?_
          refine go_il (pc := 114) rfl bi_e1 ?_
          refine go_pi (pc := 116) rfl ?_
          refine bi_ite hh (fun hc hh => ?_) (fun hc hh => ?_)
          · refine go_cmpneT (pc := 118) rfl hc ?_
            refine go_il (pc := 160) rfl (bi_k1 l4 rfl rfl) ?_
            refine go_pi (pc := 162) rfl ?_
            refine bi_ite hh (fun hc hh => ?_) (fun hc hh => ?_)
            · refine go_cmpgeT (pc := 163) rfl hc ?_
              refine go_inc (pc := 168) rfl (bi_k1 l4 rfl rfl) ?_
              refine go_il (pc := 171) rfl (bi_k1 bi_e1 rfl rfl) ?_
              refine go_al (pc := 173) rfl (bi_k1 (bi_k1 l0 rfl rfl) rfl rfl) ?_
              obtain ⟨x6, ex6, hh⟩ := bi_bd hh
              refine go_gfR (pc := 174) rfl ex6 ?_
              refine go_il (pc := 177) rfl bi_e1 ?_
              refine go_pi (pc := 179) rfl ?_
              refine go_isub (pc := 180) rfl ?_
              obtain ⟨x7, ex7, hh⟩ := bi_bd hh
              refine go_lald (pc := 181) rfl ex7 ?_
              refine go_al (pc := 182) rfl (bi_k1 (bi_k1 l0 rfl rfl) rfl rfl) ?_
              obtain ⟨x8, ex8, hh⟩ := bi_bd hh
              refine go_gfR (pc := 183) rfl ex8 ?_
              refine go_il (pc := 186) rfl bi_e1 ?_
              obtain ⟨x9, ex9, hh⟩ := bi_bd hh
              refine go_lald (pc := 188) rfl ex9 ?_
              obtain ⟨q10, eq10, hh⟩ := bi_bd hh
              refine go_iSJ (pc := 189) rfl (Nat.le_of_ble_eq_true rfl) rfl (Nat.le_of_ble_eq_true rfl) (bi_up (sX2_join eq10) (Nat.le_of_ble_eq_true rfl)) ?_
              refine go_lst (pc := 192) rfl ?_
              refine go_ll (pc := 194) rfl bi_e2 ?_
              refine go_pl (pc := 196) rfl ?_
              refine go_lcmp (pc := 199) rfl ?_
              refine bi_ite hh (fun hc hh => ?_) (fun hc hh => ?_)
              · refine go_ifgtT (pc := 200) rfl hc ?_
                refine go_ll (pc := 212) rfl (bi_k2L (bi_k1L (bi_k1L l2 rfl rfl) rfl rfl) rfl rfl rfl) ?_
                exact go_rl (pc := 213) rfl hh
              · refine go_ifgtF (pc := 200) rfl hc ?_
                refine go_ll (pc := 203) rfl bi_e2 ?_
                refine go_pl (pc := 205) rfl ?_
                refine go_lcmp (pc := 208) rfl ?_
                refine bi_ite hh (fun hc hh => ?_) (fun hc hh => ?_)
                · refine go_ifgeT (pc := 209) rfl hc ?_
                  refine go_al (pc := 214) rfl (bi_k2 (bi_k1 (bi_k1 l0 rfl rfl) rfl rfl) rfl rfl rfl) ?_
                  obtain ⟨x11, ex11, hh⟩ := bi_bd hh
                  refine go_gfR (pc := 215) rfl ex11 ?_
                  refine go_il (pc := 218) rfl (bi_k2 bi_e1 rfl rfl rfl) ?_
                  refine go_pi (pc := 220) rfl ?_
                  refine go_isub (pc := 221) rfl ?_
                  refine go_ll (pc := 222) rfl bi_e2 ?_
                  obtain ⟨h12, eh12, hh⟩ := bi_bd hh
                  refine go_last (pc := 224) rfl eh12 ?_
                  exact sX2_value_225 R22 (bi_k2 (bi_k1 (bi_k1 l0 rfl rfl) rfl rfl) rfl rfl rfl) (bi_k2 (bi_k1 (bi_k1 l1 rfl rfl) rfl rfl) rfl rfl rfl) (bi_k2L (bi_k1L (bi_k1L l2 rfl rfl) rfl rfl) rfl rfl rfl) (bi_k2 bi_e1 rfl rfl rfl) (bi_k2 (bi_k1 (bi_k1 l5 rfl rfl) rfl rfl) rfl rfl rfl) hh
                · refine go_ifgeF (pc := 209) rfl hc ?_
                  refine go_ll (pc := 212) rfl (bi_k2L (bi_k1L (bi_k1L l2 rfl rfl) rfl rfl) rfl rfl rfl) ?_
                  exact go_rl (pc := 213) rfl hh
            · refine go_cmpgeF (pc := 163) rfl hc ?_
              refine go_ll (pc := 166) rfl (bi_k1L l2 rfl rfl) ?_
              exact go_rl (pc := 167) rfl hh
          · refine go_cmpneF (pc := 118) rfl hc ?_
            refine go_il (pc := 121) rfl (bi_k1 l4 rfl rfl) ?_
            refine go_pi (pc := 123) rfl ?_
            refine bi_ite hh (fun hc hh => ?_) (fun hc hh => ?_)
            · refine go_cmpgeT (pc := 124) rfl hc ?_
              refine go_al (pc := 129) rfl (bi_k1 l0 rfl rfl) ?_
              obtain ⟨x13, ex13, hh⟩ := bi_bd hh
              refine go_gfR (pc := 130) rfl ex13 ?_
              refine go_il (pc := 133) rfl (bi_k1 l4 rfl rfl) ?_
              refine go_pi (pc := 135) rfl ?_
              refine go_isub (pc := 136) rfl ?_
              refine go_al (pc := 137) rfl (bi_k1 l0 rfl rfl) ?_
              obtain ⟨x14, ex14, hh⟩ := bi_bd hh
              refine go_gfR (pc := 138) rfl ex14 ?_
              refine go_il (pc := 141) rfl (bi_k1 l4 rfl rfl) ?_
              refine go_pi (pc := 143) rfl ?_
              refine go_isub (pc := 144) rfl ?_
              obtain ⟨x15, ex15, hh⟩ := bi_bd hh
              refine go_lald (pc := 145) rfl ex15 ?_
              refine go_pl (pc := 146) rfl ?_
              refine go_lcmp (pc := 147) rfl ?_
              refine bi_ite hh (fun hc hh => ?_) (fun hc hh => ?_)
              · refine go_ifneT (pc := 148) rfl hc ?_
                refine go_pl (pc := 155) rfl ?_
                exact sX2_value_156 R22 (bi_k1 l0 rfl rfl) (bi_k1 l1 rfl rfl) (bi_k1L l2 rfl rfl) (bi_k1 l4 rfl rfl) (bi_k1 l5 rfl rfl) hh
              · refine go_ifneF (pc := 148) rfl hc ?_
                refine go_pl (pc := 151) rfl ?_
                refine go_goto (pc := 152) rfl ?_
                exact sX2_value_156 R22 (bi_k1 l0 rfl rfl) (bi_k1 l1 rfl rfl) (bi_k1L l2 rfl rfl) (bi_k1 l4 rfl rfl) (bi_k1 l5 rfl rfl) hh
            · refine go_cmpgeF (pc := 124) rfl hc ?_
              refine go_ll (pc := 127) rfl (bi_k1L l2 rfl rfl) ?_
              exact go_rl (pc := 128) rfl hh
        · refine go_ifeqF (pc := 61) rfl hc ?_
          exact sX2_value_64 R22 (bi_k1 l0 rfl rfl) (bi_k1 l1 rfl rfl) (bi_k1L l2 rfl rfl) (bi_k1 l4 rfl rfl) (bi_k1 l5 rfl rfl) bi_e1 hh
def fX2_value_22 (n : Nat) : Nat → ai_H → Nat → Int32 → Int64 → Int32 → Int32 → Option (Int64 × ai_H)
  | 0 => fun _ _ _ _ _ _ => none
  | k + 1 => fun h v0 v1 v2 v4 v5 => fX2_value_22b n (fX2_value_22 n k) h v0 v1 v2 v4 v5
theorem sX2_value_22 {n : Nat} {q : Int64 × ai_H} : ∀ (k : Nat) (h : ai_H) (v0 : Nat) (v1 : Int32) (v2 : Int64) (v4 : Int32) (v5 : Int32) (lv : ai_L), ai_ld 0 lv = some (.ref v0) → ai_ld 1 lv = some (.int v1) → ai_ld 2 lv = some (.long v2) → ai_ld 4 lv = some (.int v4) → ai_ld 5 lv = some (.int v5) → fX2_value_22 n k h v0 v1 v2 v4 v5 = some q → bi_go 1 tX2_value n (fJ n q) 22 lv [] h
  | 0 => fun _ _ _ _ _ _ _ _ _ _ _ _ hh => by cases hh
  | k + 1 => fun h v0 v1 v2 v4 v5 lv l0 l1 l2 l4 l5 hh => sX2_value_22b  (sX2_value_22  k) l0 l1 l2 l4 l5 hh
def fX2_value (n : Nat) (h : ai_H) (a0 : Nat) (a1 : Int32) (a2 : Int64) : Option (Int64 × ai_H) :=
  (kO n h a0 2).bind fun _ =>
  if a1 < 0 then (
    some (a2, h))
  else (
    if a1 ≤ (2 : Int32) then (
      (pR n h a0 2 0).bind fun x1 =>
      (gX 1 n h x1 a1).bind fun x2 =>
      fX2_value_22 n bi_K h a0 a1 a2 (0 : Int32) x2)
    else (
      some (a2, h)))
theorem gX2_value {n : Nat} {h : ai_H} {a0 : Nat} {a1 : Int32} {a2 : Int64} {q : Int64 × ai_H} (hh : fX2_value n h a0 a1 a2 = some q) : kO n h a0 2 = some () := by
  obtain ⟨_, e, -⟩ := bi_bd hh
  exact e
theorem sX2_value {n : Nat} {h : ai_H} {a0 : Nat} {a1 : Int32} {a2 : Int64} {q : Int64 × ai_H} (hh : fX2_value n h a0 a1 a2 = some q) : bi_sp 2 20 [.ref a0, .int a1, .long a2] h n (fJ n q) := by
  refine bi_en (D := 1) (T := tX2_value) (funext fun pc => rfl) rfl (Nat.le_of_ble_eq_true rfl) ?_
  unfold fX2_value at hh
  obtain ⟨_, eO, hh⟩ := bi_bd hh
  refine go_il (pc := 0) rfl (rfl : ai_ld 1 (lv_args 0 [.ref a0, .int a1, .long a2]) = some (.int a1)) ?_
  refine bi_ite hh (fun hc hh => ?_) (fun hc hh => ?_)
  · refine go_ifltT (pc := 1) rfl hc ?_
    refine go_ll (pc := 9) rfl (rfl : ai_ld 2 (lv_args 0 [.ref a0, .int a1, .long a2]) = some (.long a2)) ?_
    exact go_rl (pc := 10) rfl hh
  · refine go_ifltF (pc := 1) rfl hc ?_
    refine go_il (pc := 4) rfl (rfl : ai_ld 1 (lv_args 0 [.ref a0, .int a1, .long a2]) = some (.int a1)) ?_
    refine go_pi (pc := 5) rfl ?_
    refine bi_ite hh (fun hc hh => ?_) (fun hc hh => ?_)
    · refine go_cmpleT (pc := 6) rfl hc ?_
      refine go_pi (pc := 11) rfl ?_
      refine go_is (pc := 12) rfl ?_
      refine go_al (pc := 14) rfl (bi_k1 (rfl : ai_ld 0 (lv_args 0 [.ref a0, .int a1, .long a2]) = some (.ref a0)) rfl rfl) ?_
      obtain ⟨x1, ex1, hh⟩ := bi_bd hh
      refine go_gfR (pc := 15) rfl ex1 ?_
      refine go_il (pc := 18) rfl (bi_k1 (rfl : ai_ld 1 (lv_args 0 [.ref a0, .int a1, .long a2]) = some (.int a1)) rfl rfl) ?_
      obtain ⟨x2, ex2, hh⟩ := bi_bd hh
      refine go_iald (pc := 19) rfl ex2 ?_
      refine go_is (pc := 20) rfl ?_
      exact sX2_value_22  _ _ _ _ _ _ _ _ (bi_k1 (bi_k1 (rfl : ai_ld 0 (lv_args 0 [.ref a0, .int a1, .long a2]) = some (.ref a0)) rfl rfl) rfl rfl) (bi_k1 (bi_k1 (rfl : ai_ld 1 (lv_args 0 [.ref a0, .int a1, .long a2]) = some (.int a1)) rfl rfl) rfl rfl) (bi_k1L (bi_k1L (rfl : ai_ld 2 (lv_args 0 [.ref a0, .int a1, .long a2]) = some (.long a2)) rfl rfl) rfl rfl) (bi_k1 bi_e1 rfl rfl) bi_e1 hh
    · refine go_cmpleF (pc := 6) rfl hc ?_
      refine go_ll (pc := 9) rfl (rfl : ai_ld 2 (lv_args 0 [.ref a0, .int a1, .long a2]) = some (.long a2)) ?_
      exact go_rl (pc := 10) rfl hh
def fX0_costIfHeCan_113 (n : Nat) (h : ai_H) (v0 : Nat) (v1 : Int32) (v2 : Int32) (s0 : Int64) (s1 : Int32) (s2 : Nat) : Option (Int32 × ai_H) :=
  (fX2_value n h s2 s1 s0).bind fun q1 =>
  if ¬ (lg_cmp q1.1 (0 : Int64)) = 0 then (
    (pR n q1.2 v0 0 0).bind fun x2 =>
    (pR n q1.2 x2 8 5).bind fun x3 =>
    (pR n q1.2 v0 0 0).bind fun x4 =>
    (pR n q1.2 x4 8 1).bind fun x5 =>
    (fX6_cell n q1.2 x5 v2 (2 : Int32)).bind fun q6 =>
    (fX2_value n q6.2 x3 (2 : Int32) q6.1.toInt64).bind fun q7 =>
    (pR n q7.2 v0 0 1).bind fun x8 =>
    (pR n q7.2 x8 5 8).bind fun x9 =>
    (gX 1 n q7.2 x9 v1).bind fun x10 =>
    if x10 < ((if (if (99 : Int64) < q7.1 then (99 : Int64) else q7.1) < (0 : Int64) then (0 : Int64) else (if (99 : Int64) < q7.1 then (99 : Int64) else q7.1)).toInt32) then (
      some ((-1 : Int32), q7.2))
    else (
      some ((if (if (99 : Int64) < q7.1 then (99 : Int64) else q7.1) < (0 : Int64) then (0 : Int64) else (if (99 : Int64) < q7.1 then (99 : Int64) else q7.1)).toInt32, q7.2)))
  else (
    some ((-1 : Int32), q1.2))
theorem sX0_costIfHeCan_113 {n : Nat} {q : Int32 × ai_H} {h : ai_H} {v0 : Nat} {v1 : Int32} {v2 : Int32} {s0 : Int64} {s1 : Int32} {s2 : Nat} {lv : ai_L} (l0 : ai_ld 0 lv = some (.ref v0)) (l1 : ai_ld 1 lv = some (.int v1)) (l2 : ai_ld 2 lv = some (.int v2)) (hh : fX0_costIfHeCan_113 n h v0 v1 v2 s0 s1 s2 = some q) : bi_go 2 tX0_costIfHeCan n (fI n q) 113 lv [.long s0, .int s1, .ref s2] h := by
  unfold fX0_costIfHeCan_113 at hh
  obtain ⟨q1, eq1, hh⟩ := bi_bd hh
  refine go_ivJ (pc := 113) rfl rfl (gX2_value eq1) (Nat.le_of_ble_eq_true rfl) (bi_up (sX2_value eq1) (Nat.le_of_ble_eq_true rfl)) ?_
  refine go_pl (pc := 116) rfl ?_
  refine go_lcmp (pc := 117) rfl ?_
  refine bi_ite hh (fun hc hh => ?_) (fun hc hh => ?_)
  · refine go_ifneT (pc := 118) rfl hc ?_
    refine go_al (pc := 123) rfl l0 ?_
    obtain ⟨x2, ex2, hh⟩ := bi_bd hh
    refine go_gfR (pc := 124) rfl ex2 ?_
    obtain ⟨x3, ex3, hh⟩ := bi_bd hh
    refine go_gfR (pc := 127) rfl ex3 ?_
    refine go_pi (pc := 130) rfl ?_
    refine go_al (pc := 131) rfl l0 ?_
    obtain ⟨x4, ex4, hh⟩ := bi_bd hh
    refine go_gfR (pc := 132) rfl ex4 ?_
    obtain ⟨x5, ex5, hh⟩ := bi_bd hh
    refine go_gfR (pc := 135) rfl ex5 ?_
    refine go_il (pc := 138) rfl l2 ?_
    refine go_pi (pc := 139) rfl ?_
    obtain ⟨q6, eq6, hh⟩ := bi_bd hh
    refine go_ivI (pc := 140) rfl rfl (gX6_cell eq6) (Nat.le_of_ble_eq_true rfl) (bi_up (sX6_cell eq6) (Nat.le_of_ble_eq_true rfl)) ?_
    refine go_i2l (pc := 143) rfl ?_
    obtain ⟨q7, eq7, hh⟩ := bi_bd hh
    refine go_ivJ (pc := 144) rfl rfl (gX2_value eq7) (Nat.le_of_ble_eq_true rfl) (bi_up (sX2_value eq7) (Nat.le_of_ble_eq_true rfl)) ?_
    refine go_lst (pc := 147) rfl ?_
    refine go_pl (pc := 149) rfl ?_
    refine go_ll (pc := 150) rfl bi_e2 ?_
    refine go_pl (pc := 152) rfl ?_
    refine go_lmin (pc := 155) rfl (Nat.le_of_ble_eq_true rfl) ?_
    refine go_lmax (pc := 158) rfl (Nat.le_of_ble_eq_true rfl) ?_
    refine go_l2i (pc := 161) rfl ?_
    refine go_is (pc := 162) rfl ?_
    refine go_il (pc := 164) rfl bi_e1 ?_
    refine go_al (pc := 166) rfl (bi_k1 (bi_k2 l0 rfl rfl rfl) rfl rfl) ?_
    obtain ⟨x8, ex8, hh⟩ := bi_bd hh
    refine go_gfR (pc := 167) rfl ex8 ?_
    obtain ⟨x9, ex9, hh⟩ := bi_bd hh
    refine go_gfR (pc := 170) rfl ex9 ?_
    refine go_il (pc := 173) rfl (bi_k1 (bi_k2 l1 rfl rfl rfl) rfl rfl) ?_
    obtain ⟨x10, ex10, hh⟩ := bi_bd hh
    refine go_iald (pc := 174) rfl ex10 ?_
    refine bi_ite hh (fun hc hh => ?_) (fun hc hh => ?_)
    · refine go_cmpgtT (pc := 175) rfl hc ?_
      refine go_pi (pc := 183) rfl ?_
      exact go_ri (pc := 184) rfl hh
    · refine go_cmpgtF (pc := 175) rfl hc ?_
      refine go_il (pc := 178) rfl bi_e1 ?_
      refine go_goto (pc := 180) rfl ?_
      exact go_ri (pc := 184) rfl hh
  · refine go_ifneF (pc := 118) rfl hc ?_
    refine go_pi (pc := 121) rfl ?_
    exact go_ri (pc := 122) rfl hh
def fX0_costIfHeCan_95 (n : Nat) (h : ai_H) (v0 : Nat) (v1 : Int32) (v2 : Int32) (s0 : Int32) : Option (Int32 × ai_H) :=
  (pR n h v0 0 0).bind fun x1 =>
  (pR n h x1 8 5).bind fun x2 =>
  if s0 = 0 then (
    fX0_costIfHeCan_113 n h v0 v1 v2 (0 : Int64) (1 : Int32) x2)
  else (
    fX0_costIfHeCan_113 n h v0 v1 v2 (1 : Int64) (1 : Int32) x2)
theorem sX0_costIfHeCan_95 {n : Nat} {q : Int32 × ai_H} {h : ai_H} {v0 : Nat} {v1 : Int32} {v2 : Int32} {s0 : Int32} {lv : ai_L} (l0 : ai_ld 0 lv = some (.ref v0)) (l1 : ai_ld 1 lv = some (.int v1)) (l2 : ai_ld 2 lv = some (.int v2)) (hh : fX0_costIfHeCan_95 n h v0 v1 v2 s0 = some q) : bi_go 2 tX0_costIfHeCan n (fI n q) 95 lv [.int s0] h := by
  unfold fX0_costIfHeCan_95 at hh
  refine go_is (pc := 95) rfl ?_
  refine go_al (pc := 96) rfl (bi_k1 l0 rfl rfl) ?_
  obtain ⟨x1, ex1, hh⟩ := bi_bd hh
  refine go_gfR (pc := 97) rfl ex1 ?_
  obtain ⟨x2, ex2, hh⟩ := bi_bd hh
  refine go_gfR (pc := 100) rfl ex2 ?_
  refine go_pi (pc := 103) rfl ?_
  refine go_il (pc := 104) rfl bi_e1 ?_
  refine bi_ite hh (fun hc hh => ?_) (fun hc hh => ?_)
  · refine go_ifeqT (pc := 105) rfl hc ?_
    refine go_pl (pc := 112) rfl ?_
    exact sX0_costIfHeCan_113  (bi_k1 l0 rfl rfl) (bi_k1 l1 rfl rfl) (bi_k1 l2 rfl rfl) hh
  · refine go_ifeqF (pc := 105) rfl hc ?_
    refine go_pl (pc := 108) rfl ?_
    refine go_goto (pc := 109) rfl ?_
    exact sX0_costIfHeCan_113  (bi_k1 l0 rfl rfl) (bi_k1 l1 rfl rfl) (bi_k1 l2 rfl rfl) hh
def fX0_costIfHeCan_63 (n : Nat) (h : ai_H) (v0 : Nat) (v1 : Int32) (v2 : Int32) : Option (Int32 × ai_H) :=
  (fX0_lookAt n h v0 v2 v1).bind fun q1 =>
  (pR n q1.2 v0 0 0).bind fun x2 =>
  (pR n q1.2 x2 8 1).bind fun x3 =>
  (fX6_cell n q1.2 x3 v2 (3 : Int32)).bind fun q4 =>
  (pR n q4.2 v0 0 7).bind fun x5 =>
  (gX 1 n q4.2 x5 v1).bind fun x6 =>
  if x6 < q4.1 then (
    fX0_costIfHeCan_95 n q4.2 v0 v1 v2 (0 : Int32))
  else (
    fX0_costIfHeCan_95 n q4.2 v0 v1 v2 (1 : Int32))
theorem sX0_costIfHeCan_63 {n : Nat} {q : Int32 × ai_H} {h : ai_H} {v0 : Nat} {v1 : Int32} {v2 : Int32} {lv : ai_L} (l0 : ai_ld 0 lv = some (.ref v0)) (l1 : ai_ld 1 lv = some (.int v1)) (l2 : ai_ld 2 lv = some (.int v2)) (hh : fX0_costIfHeCan_63 n h v0 v1 v2 = some q) : bi_go 2 tX0_costIfHeCan n (fI n q) 63 lv [] h := by
  unfold fX0_costIfHeCan_63 at hh
  refine go_al (pc := 63) rfl l0 ?_
  refine go_il (pc := 64) rfl l2 ?_
  refine go_il (pc := 65) rfl l1 ?_
  obtain ⟨q1, eq1, hh⟩ := bi_bd hh
  refine go_ivV (pc := 66) rfl rfl (gX0_lookAt eq1) (Nat.le_of_ble_eq_true rfl) (bi_up (sX0_lookAt eq1) (Nat.le_of_ble_eq_true rfl)) ?_
  refine go_al (pc := 69) rfl l0 ?_
  obtain ⟨x2, ex2, hh⟩ := bi_bd hh
  refine go_gfR (pc := 70) rfl ex2 ?_
  obtain ⟨x3, ex3, hh⟩ := bi_bd hh
  refine go_gfR (pc := 73) rfl ex3 ?_
  refine go_il (pc := 76) rfl l2 ?_
  refine go_pi (pc := 77) rfl ?_
  obtain ⟨q4, eq4, hh⟩ := bi_bd hh
  refine go_ivI (pc := 78) rfl rfl (gX6_cell eq4) (Nat.le_of_ble_eq_true rfl) (bi_up (sX6_cell eq4) (Nat.le_of_ble_eq_true rfl)) ?_
  refine go_al (pc := 81) rfl l0 ?_
  obtain ⟨x5, ex5, hh⟩ := bi_bd hh
  refine go_gfR (pc := 82) rfl ex5 ?_
  refine go_il (pc := 85) rfl l1 ?_
  obtain ⟨x6, ex6, hh⟩ := bi_bd hh
  refine go_iald (pc := 86) rfl ex6 ?_
  refine bi_ite hh (fun hc hh => ?_) (fun hc hh => ?_)
  · refine go_cmpgtT (pc := 87) rfl hc ?_
    refine go_pi (pc := 94) rfl ?_
    exact sX0_costIfHeCan_95  l0 l1 l2 hh
  · refine go_cmpgtF (pc := 87) rfl hc ?_
    refine go_pi (pc := 90) rfl ?_
    refine go_goto (pc := 91) rfl ?_
    exact sX0_costIfHeCan_95  l0 l1 l2 hh
def fX0_costIfHeCan (n : Nat) (h : ai_H) (a0 : Nat) (a1 : Int32) (a2 : Int32) : Option (Int32 × ai_H) :=
  (kO n h a0 0).bind fun _ =>
  (pR n h a0 0 0).bind fun x1 =>
  (fX8_ends n h x1 a2).bind fun q2 =>
  (pR n q2.2 a0 0 1).bind fun x3 =>
  (pR n q2.2 x3 5 7).bind fun x4 =>
  (gX 1 n q2.2 x4 a1).bind fun x5 =>
  if ((q2.1 >>> (x5 &&& 31)) &&& (1 : Int32)) = 0 then (
    some ((-1 : Int32), q2.2))
  else (
    (pR n q2.2 a0 0 1).bind fun x6 =>
    (fX5_isKept n q2.2 x6 a2).bind fun q7 =>
    if ¬ q7.1 = 0 then (
      (pI n q7.2 a0 0 3).bind fun x8 =>
      if x8 = 0 then (
        fX0_costIfHeCan_63 n q7.2 a0 a1 a2)
      else (
        (pR n q7.2 a0 0 0).bind fun x9 =>
        (pR n q7.2 a0 0 1).bind fun x10 =>
        (pI n q7.2 x10 5 0).bind fun x11 =>
        (fX8_isBullOn n q7.2 x9 a2 x11).bind fun q12 =>
        if q12.1 = 0 then (
          fX0_costIfHeCan_63 n q12.2 a0 a1 a2)
        else (
          some ((-1 : Int32), q12.2))))
    else (
      some ((-1 : Int32), q7.2)))
theorem gX0_costIfHeCan {n : Nat} {h : ai_H} {a0 : Nat} {a1 : Int32} {a2 : Int32} {q : Int32 × ai_H} (hh : fX0_costIfHeCan n h a0 a1 a2 = some q) : kO n h a0 0 = some () := by
  obtain ⟨_, e, -⟩ := bi_bd hh
  exact e
theorem sX0_costIfHeCan {n : Nat} {h : ai_H} {a0 : Nat} {a1 : Int32} {a2 : Int32} {q : Int32 × ai_H} (hh : fX0_costIfHeCan n h a0 a1 a2 = some q) : bi_sp 3 8 [.ref a0, .int a1, .int a2] h n (fI n q) := by
  refine bi_en (D := 2) (T := tX0_costIfHeCan) (funext fun pc => rfl) rfl (Nat.le_of_ble_eq_true rfl) ?_
  unfold fX0_costIfHeCan at hh
  obtain ⟨_, eO, hh⟩ := bi_bd hh
  refine go_al (pc := 0) rfl (rfl : ai_ld 0 (lv_args 0 [.ref a0, .int a1, .int a2]) = some (.ref a0)) ?_
  obtain ⟨x1, ex1, hh⟩ := bi_bd hh
  refine go_gfR (pc := 1) rfl ex1 ?_
  refine go_il (pc := 4) rfl (rfl : ai_ld 2 (lv_args 0 [.ref a0, .int a1, .int a2]) = some (.int a2)) ?_
  obtain ⟨q2, eq2, hh⟩ := bi_bd hh
  refine go_ivI (pc := 5) rfl rfl (gX8_ends eq2) (Nat.le_of_ble_eq_true rfl) (bi_up (sX8_ends eq2) (Nat.le_of_ble_eq_true rfl)) ?_
  refine go_al (pc := 8) rfl (rfl : ai_ld 0 (lv_args 0 [.ref a0, .int a1, .int a2]) = some (.ref a0)) ?_
  obtain ⟨x3, ex3, hh⟩ := bi_bd hh
  refine go_gfR (pc := 9) rfl ex3 ?_
  obtain ⟨x4, ex4, hh⟩ := bi_bd hh
  refine go_gfR (pc := 12) rfl ex4 ?_
  refine go_il (pc := 15) rfl (rfl : ai_ld 1 (lv_args 0 [.ref a0, .int a1, .int a2]) = some (.int a1)) ?_
  obtain ⟨x5, ex5, hh⟩ := bi_bd hh
  refine go_iald (pc := 16) rfl ex5 ?_
  refine go_ishr (pc := 17) rfl ?_
  refine go_pi (pc := 18) rfl ?_
  refine go_iand (pc := 19) rfl ?_
  refine bi_ite hh (fun hc hh => ?_) (fun hc hh => ?_)
  · refine go_ifeqT (pc := 20) rfl hc ?_
    refine go_pi (pc := 34) rfl ?_
    exact go_ri (pc := 35) rfl hh
  · refine go_ifeqF (pc := 20) rfl hc ?_
    refine go_al (pc := 23) rfl (rfl : ai_ld 0 (lv_args 0 [.ref a0, .int a1, .int a2]) = some (.ref a0)) ?_
    obtain ⟨x6, ex6, hh⟩ := bi_bd hh
    refine go_gfR (pc := 24) rfl ex6 ?_
    refine go_il (pc := 27) rfl (rfl : ai_ld 2 (lv_args 0 [.ref a0, .int a1, .int a2]) = some (.int a2)) ?_
    obtain ⟨q7, eq7, hh⟩ := bi_bd hh
    refine go_ivI (pc := 28) rfl rfl (gX5_isKept eq7) (Nat.le_of_ble_eq_true rfl) (bi_up (sX5_isKept eq7) (Nat.le_of_ble_eq_true rfl)) ?_
    refine bi_ite hh (fun hc hh => ?_) (fun hc hh => ?_)
    · refine go_ifneT (pc := 31) rfl hc ?_
      refine go_al (pc := 36) rfl (rfl : ai_ld 0 (lv_args 0 [.ref a0, .int a1, .int a2]) = some (.ref a0)) ?_
      obtain ⟨x8, ex8, hh⟩ := bi_bd hh
      refine go_gfI (pc := 37) rfl ex8 ?_
      refine bi_ite hh (fun hc hh => ?_) (fun hc hh => ?_)
      · refine go_ifeqT (pc := 40) rfl hc ?_
        exact sX0_costIfHeCan_63  (rfl : ai_ld 0 (lv_args 0 [.ref a0, .int a1, .int a2]) = some (.ref a0)) (rfl : ai_ld 1 (lv_args 0 [.ref a0, .int a1, .int a2]) = some (.int a1)) (rfl : ai_ld 2 (lv_args 0 [.ref a0, .int a1, .int a2]) = some (.int a2)) hh
      · refine go_ifeqF (pc := 40) rfl hc ?_
        refine go_al (pc := 43) rfl (rfl : ai_ld 0 (lv_args 0 [.ref a0, .int a1, .int a2]) = some (.ref a0)) ?_
        obtain ⟨x9, ex9, hh⟩ := bi_bd hh
        refine go_gfR (pc := 44) rfl ex9 ?_
        refine go_il (pc := 47) rfl (rfl : ai_ld 2 (lv_args 0 [.ref a0, .int a1, .int a2]) = some (.int a2)) ?_
        refine go_al (pc := 48) rfl (rfl : ai_ld 0 (lv_args 0 [.ref a0, .int a1, .int a2]) = some (.ref a0)) ?_
        obtain ⟨x10, ex10, hh⟩ := bi_bd hh
        refine go_gfR (pc := 49) rfl ex10 ?_
        obtain ⟨x11, ex11, hh⟩ := bi_bd hh
        refine go_gfI (pc := 52) rfl ex11 ?_
        obtain ⟨q12, eq12, hh⟩ := bi_bd hh
        refine go_ivI (pc := 55) rfl rfl (gX8_isBullOn eq12) (Nat.le_of_ble_eq_true rfl) (bi_up (sX8_isBullOn eq12) (Nat.le_of_ble_eq_true rfl)) ?_
        refine bi_ite hh (fun hc hh => ?_) (fun hc hh => ?_)
        · refine go_ifeqT (pc := 58) rfl hc ?_
          exact sX0_costIfHeCan_63  (rfl : ai_ld 0 (lv_args 0 [.ref a0, .int a1, .int a2]) = some (.ref a0)) (rfl : ai_ld 1 (lv_args 0 [.ref a0, .int a1, .int a2]) = some (.int a1)) (rfl : ai_ld 2 (lv_args 0 [.ref a0, .int a1, .int a2]) = some (.int a2)) hh
        · refine go_ifeqF (pc := 58) rfl hc ?_
          refine go_pi (pc := 61) rfl ?_
          exact go_ri (pc := 62) rfl hh
    · refine go_ifneF (pc := 31) rfl hc ?_
      refine go_pi (pc := 34) rfl ?_
      exact go_ri (pc := 35) rfl hh
def fX0_goWhole_66 (n : Nat) (h : ai_H) (v0 : Nat) (v2 : Int32) (s0 : Int32) (s1 : Int32) (s2 : Nat) : Option (Unit × ai_H) :=
  (wX 1 (fun x => x) n h s2 s1 s0).bind fun h1 =>
  (pR n h1 v0 0 1).bind fun x2 =>
  (pR n h1 x2 5 5).bind fun x3 =>
  (wX 1 (fun x => x) n h1 x3 v2 (0 : Int32)).bind fun h4 =>
  (pR n h4 v0 0 1).bind fun x5 =>
  (pR n h4 x5 5 6).bind fun x6 =>
  (pR n h4 v0 0 1).bind fun x7 =>
  (pR n h4 x7 5 6).bind fun x8 =>
  (gX 1 n h4 x8 v2).bind fun x9 =>
  (wX 1 (fun x => x) n h4 x6 v2 (if (x9 + (1 : Int32)) < (999 : Int32) then (x9 + (1 : Int32)) else (999 : Int32))).bind fun h10 =>
  (pR n h10 v0 0 1).bind fun x11 =>
  (pI n h10 x11 5 2).bind fun x12 =>
  (sF n h10 x11 5 2 (.int) (.int (x12 + (1 : Int32)))).bind fun h13 =>
  some ((), h13)
theorem sX0_goWhole_66 {n : Nat} {q : Unit × ai_H} {h : ai_H} {v0 : Nat} {v2 : Int32} {s0 : Int32} {s1 : Int32} {s2 : Nat} {lv : ai_L} (l0 : ai_ld 0 lv = some (.ref v0)) (l2 : ai_ld 2 lv = some (.int v2)) (hh : fX0_goWhole_66 n h v0 v2 s0 s1 s2 = some q) : bi_go 1 tX0_goWhole n (fV n q) 66 lv [.int s0, .int s1, .ref s2] h := by
  unfold fX0_goWhole_66 at hh
  obtain ⟨h1, eh1, hh⟩ := bi_bd hh
  refine go_iast (pc := 66) rfl eh1 ?_
  refine go_al (pc := 67) rfl l0 ?_
  obtain ⟨x2, ex2, hh⟩ := bi_bd hh
  refine go_gfR (pc := 68) rfl ex2 ?_
  obtain ⟨x3, ex3, hh⟩ := bi_bd hh
  refine go_gfR (pc := 71) rfl ex3 ?_
  refine go_il (pc := 74) rfl l2 ?_
  refine go_pi (pc := 75) rfl ?_
  obtain ⟨h4, eh4, hh⟩ := bi_bd hh
  refine go_iast (pc := 76) rfl eh4 ?_
  refine go_al (pc := 77) rfl l0 ?_
  obtain ⟨x5, ex5, hh⟩ := bi_bd hh
  refine go_gfR (pc := 78) rfl ex5 ?_
  obtain ⟨x6, ex6, hh⟩ := bi_bd hh
  refine go_gfR (pc := 81) rfl ex6 ?_
  refine go_il (pc := 84) rfl l2 ?_
  refine go_pi (pc := 85) rfl ?_
  refine go_al (pc := 88) rfl l0 ?_
  obtain ⟨x7, ex7, hh⟩ := bi_bd hh
  refine go_gfR (pc := 89) rfl ex7 ?_
  obtain ⟨x8, ex8, hh⟩ := bi_bd hh
  refine go_gfR (pc := 92) rfl ex8 ?_
  refine go_il (pc := 95) rfl l2 ?_
  obtain ⟨x9, ex9, hh⟩ := bi_bd hh
  refine go_iald (pc := 96) rfl ex9 ?_
  refine go_pi (pc := 97) rfl ?_
  refine go_iadd (pc := 98) rfl ?_
  refine go_imin (pc := 99) rfl (Nat.le_of_ble_eq_true rfl) ?_
  obtain ⟨h10, eh10, hh⟩ := bi_bd hh
  refine go_iast (pc := 102) rfl eh10 ?_
  refine go_al (pc := 103) rfl l0 ?_
  obtain ⟨x11, ex11, hh⟩ := bi_bd hh
  refine go_gfR (pc := 104) rfl ex11 ?_
  refine go_dup (pc := 107) rfl rfl ?_
  obtain ⟨x12, ex12, hh⟩ := bi_bd hh
  refine go_gfI (pc := 108) rfl ex12 ?_
  refine go_pi (pc := 111) rfl ?_
  refine go_iadd (pc := 112) rfl ?_
  obtain ⟨h13, eh13, hh⟩ := bi_bd hh
  refine go_pf (pc := 113) rfl eh13 ?_
  exact go_rv (pc := 116) rfl hh
def fX0_goWhole (n : Nat) (h : ai_H) (a0 : Nat) (a1 : Int32) (a2 : Int32) (a3 : Int32) : Option (Unit × ai_H) :=
  (kO n h a0 0).bind fun _ =>
  (pR n h a0 0 1).bind fun x1 =>
  (pR n h x1 5 8).bind fun x2 =>
  (gX 1 n h x2 a1).bind fun x3 =>
  (wX 1 (fun x => x) n h x2 a1 (x3 - a3)).bind fun h4 =>
  (pR n h4 a0 0 0).bind fun x5 =>
  (pR n h4 x5 8 1).bind fun x6 =>
  (fX6_cell n h4 x6 a2 (0 : Int32)).bind fun q7 =>
  (pR n q7.2 a0 0 1).bind fun x8 =>
  (pR n q7.2 x8 5 7).bind fun x9 =>
  (pR n q7.2 a0 0 1).bind fun x10 =>
  (pR n q7.2 x10 5 7).bind fun x11 =>
  (gX 1 n q7.2 x11 a1).bind fun x12 =>
  if ¬ x12 = q7.1 then (
    fX0_goWhole_66 n q7.2 a0 a2 q7.1 a1 x9)
  else (
    (pR n q7.2 a0 0 0).bind fun x13 =>
    (pR n q7.2 x13 8 1).bind fun x14 =>
    (fX6_cell n q7.2 x14 a2 (1 : Int32)).bind fun q15 =>
    fX0_goWhole_66 n q15.2 a0 a2 q15.1 a1 x9)
theorem gX0_goWhole {n : Nat} {h : ai_H} {a0 : Nat} {a1 : Int32} {a2 : Int32} {a3 : Int32} {q : Unit × ai_H} (hh : fX0_goWhole n h a0 a1 a2 a3 = some q) : kO n h a0 0 = some () := by
  obtain ⟨_, e, -⟩ := bi_bd hh
  exact e
theorem sX0_goWhole {n : Nat} {h : ai_H} {a0 : Nat} {a1 : Int32} {a2 : Int32} {a3 : Int32} {q : Unit × ai_H} (hh : fX0_goWhole n h a0 a1 a2 a3 = some q) : bi_sp 2 9 [.ref a0, .int a1, .int a2, .int a3] h n (fV n q) := by
  refine bi_en (D := 1) (T := tX0_goWhole) (funext fun pc => rfl) rfl (Nat.le_of_ble_eq_true rfl) ?_
  unfold fX0_goWhole at hh
  obtain ⟨_, eO, hh⟩ := bi_bd hh
  refine go_al (pc := 0) rfl (rfl : ai_ld 0 (lv_args 0 [.ref a0, .int a1, .int a2, .int a3]) = some (.ref a0)) ?_
  obtain ⟨x1, ex1, hh⟩ := bi_bd hh
  refine go_gfR (pc := 1) rfl ex1 ?_
  obtain ⟨x2, ex2, hh⟩ := bi_bd hh
  refine go_gfR (pc := 4) rfl ex2 ?_
  refine go_il (pc := 7) rfl (rfl : ai_ld 1 (lv_args 0 [.ref a0, .int a1, .int a2, .int a3]) = some (.int a1)) ?_
  refine go_dup2 (pc := 8) rfl rfl rfl ?_
  obtain ⟨x3, ex3, hh⟩ := bi_bd hh
  refine go_iald (pc := 9) rfl ex3 ?_
  refine go_il (pc := 10) rfl (rfl : ai_ld 3 (lv_args 0 [.ref a0, .int a1, .int a2, .int a3]) = some (.int a3)) ?_
  refine go_isub (pc := 11) rfl ?_
  obtain ⟨h4, eh4, hh⟩ := bi_bd hh
  refine go_iast (pc := 12) rfl eh4 ?_
  refine go_al (pc := 13) rfl (rfl : ai_ld 0 (lv_args 0 [.ref a0, .int a1, .int a2, .int a3]) = some (.ref a0)) ?_
  obtain ⟨x5, ex5, hh⟩ := bi_bd hh
  refine go_gfR (pc := 14) rfl ex5 ?_
  obtain ⟨x6, ex6, hh⟩ := bi_bd hh
  refine go_gfR (pc := 17) rfl ex6 ?_
  refine go_il (pc := 20) rfl (rfl : ai_ld 2 (lv_args 0 [.ref a0, .int a1, .int a2, .int a3]) = some (.int a2)) ?_
  refine go_pi (pc := 21) rfl ?_
  obtain ⟨q7, eq7, hh⟩ := bi_bd hh
  refine go_ivI (pc := 22) rfl rfl (gX6_cell eq7) (Nat.le_of_ble_eq_true rfl) (bi_up (sX6_cell eq7) (Nat.le_of_ble_eq_true rfl)) ?_
  refine go_is (pc := 25) rfl ?_
  refine go_al (pc := 27) rfl (bi_k1 (rfl : ai_ld 0 (lv_args 0 [.ref a0, .int a1, .int a2, .int a3]) = some (.ref a0)) rfl rfl) ?_
  obtain ⟨x8, ex8, hh⟩ := bi_bd hh
  refine go_gfR (pc := 28) rfl ex8 ?_
  obtain ⟨x9, ex9, hh⟩ := bi_bd hh
  refine go_gfR (pc := 31) rfl ex9 ?_
  refine go_il (pc := 34) rfl (bi_k1 (rfl : ai_ld 1 (lv_args 0 [.ref a0, .int a1, .int a2, .int a3]) = some (.int a1)) rfl rfl) ?_
  refine go_al (pc := 35) rfl (bi_k1 (rfl : ai_ld 0 (lv_args 0 [.ref a0, .int a1, .int a2, .int a3]) = some (.ref a0)) rfl rfl) ?_
  obtain ⟨x10, ex10, hh⟩ := bi_bd hh
  refine go_gfR (pc := 36) rfl ex10 ?_
  obtain ⟨x11, ex11, hh⟩ := bi_bd hh
  refine go_gfR (pc := 39) rfl ex11 ?_
  refine go_il (pc := 42) rfl (bi_k1 (rfl : ai_ld 1 (lv_args 0 [.ref a0, .int a1, .int a2, .int a3]) = some (.int a1)) rfl rfl) ?_
  obtain ⟨x12, ex12, hh⟩ := bi_bd hh
  refine go_iald (pc := 43) rfl ex12 ?_
  refine go_il (pc := 44) rfl bi_e1 ?_
  refine bi_ite hh (fun hc hh => ?_) (fun hc hh => ?_)
  · refine go_cmpneT (pc := 46) rfl hc ?_
    refine go_il (pc := 64) rfl bi_e1 ?_
    exact sX0_goWhole_66  (bi_k1 (rfl : ai_ld 0 (lv_args 0 [.ref a0, .int a1, .int a2, .int a3]) = some (.ref a0)) rfl rfl) (bi_k1 (rfl : ai_ld 2 (lv_args 0 [.ref a0, .int a1, .int a2, .int a3]) = some (.int a2)) rfl rfl) hh
  · refine go_cmpneF (pc := 46) rfl hc ?_
    refine go_al (pc := 49) rfl (bi_k1 (rfl : ai_ld 0 (lv_args 0 [.ref a0, .int a1, .int a2, .int a3]) = some (.ref a0)) rfl rfl) ?_
    obtain ⟨x13, ex13, hh⟩ := bi_bd hh
    refine go_gfR (pc := 50) rfl ex13 ?_
    obtain ⟨x14, ex14, hh⟩ := bi_bd hh
    refine go_gfR (pc := 53) rfl ex14 ?_
    refine go_il (pc := 56) rfl (bi_k1 (rfl : ai_ld 2 (lv_args 0 [.ref a0, .int a1, .int a2, .int a3]) = some (.int a2)) rfl rfl) ?_
    refine go_pi (pc := 57) rfl ?_
    obtain ⟨q15, eq15, hh⟩ := bi_bd hh
    refine go_ivI (pc := 58) rfl rfl (gX6_cell eq15) (Nat.le_of_ble_eq_true rfl) (bi_up (sX6_cell eq15) (Nat.le_of_ble_eq_true rfl)) ?_
    refine go_goto (pc := 61) rfl ?_
    exact sX0_goWhole_66  (bi_k1 (rfl : ai_ld 0 (lv_args 0 [.ref a0, .int a1, .int a2, .int a3]) = some (.ref a0)) rfl rfl) (bi_k1 (rfl : ai_ld 2 (lv_args 0 [.ref a0, .int a1, .int a2, .int a3]) = some (.int a2)) rfl rfl) hh
def fX0_goWalks_120 (n : Nat) (r10 : ai_H → Nat → Int32 → Nat → Int32 → Option (Unit × ai_H)) (h : ai_H) (v0 : Nat) (v1 : Int32) (v2 : Nat) (v3 : Int32) : Option (Unit × ai_H) :=
  r10 h v0 v1 v2 (v3 + 1)
theorem sX0_goWalks_120 {n : Nat} {r10 : ai_H → Nat → Int32 → Nat → Int32 → Option (Unit × ai_H)} {q : Unit × ai_H} {h : ai_H} {v0 : Nat} {v1 : Int32} {v2 : Nat} {v3 : Int32} {lv : ai_L} (R10 : ∀ (h : ai_H) (v0 : Nat) (v1 : Int32) (v2 : Nat) (v3 : Int32) (lv : ai_L), ai_ld 0 lv = some (.ref v0) → ai_ld 1 lv = some (.int v1) → ai_ld 2 lv = some (.ref v2) → ai_ld 3 lv = some (.int v3) → r10 h v0 v1 v2 v3 = some q → bi_go 3 tX0_goWalks n (fV n q) 10 lv [] h) (l0 : ai_ld 0 lv = some (.ref v0)) (l1 : ai_ld 1 lv = some (.int v1)) (l2 : ai_ld 2 lv = some (.ref v2)) (l3 : ai_ld 3 lv = some (.int v3)) (hh : fX0_goWalks_120 n r10 h v0 v1 v2 v3 = some q) : bi_go 3 tX0_goWalks n (fV n q) 120 lv [] h := by
  unfold fX0_goWalks_120 at hh
  refine go_inc (pc := 120) rfl l3 ?_
  refine go_goto (pc := 123) rfl ?_
  exact R10 _ _ _ _ _ _ (bi_k1 l0 rfl rfl) (bi_k1 l1 rfl rfl) (bi_k1 l2 rfl rfl) bi_e1 hh
def fX0_goWalks_87 (n : Nat) (r10 : ai_H → Nat → Int32 → Nat → Int32 → Option (Unit × ai_H)) (h : ai_H) (v0 : Nat) (v1 : Int32) (v2 : Nat) (v3 : Int32) (v4 : Int32) (v5 : Int32) (s0 : Int32) : Option (Unit × ai_H) :=
  if s0 < 0 then (
    (pR n h v0 0 1).bind fun x1 =>
    (pI n h x1 5 3).bind fun x2 =>
    (sF n h x1 5 3 (.int) (.int (x2 + (1 : Int32)))).bind fun h3 =>
    fX0_goWalks_120 n r10 h3 v0 v1 v2 v3)
  else (
    (fX0_goWhole n h v0 v4 v5 s0).bind fun q4 =>
    fX0_goWalks_120 n r10 q4.2 v0 v1 v2 v3)
theorem sX0_goWalks_87 {n : Nat} {r10 : ai_H → Nat → Int32 → Nat → Int32 → Option (Unit × ai_H)} {q : Unit × ai_H} {h : ai_H} {v0 : Nat} {v1 : Int32} {v2 : Nat} {v3 : Int32} {v4 : Int32} {v5 : Int32} {s0 : Int32} {lv : ai_L} (R10 : ∀ (h : ai_H) (v0 : Nat) (v1 : Int32) (v2 : Nat) (v3 : Int32) (lv : ai_L), ai_ld 0 lv = some (.ref v0) → ai_ld 1 lv = some (.int v1) → ai_ld 2 lv = some (.ref v2) → ai_ld 3 lv = some (.int v3) → r10 h v0 v1 v2 v3 = some q → bi_go 3 tX0_goWalks n (fV n q) 10 lv [] h) (l0 : ai_ld 0 lv = some (.ref v0)) (l1 : ai_ld 1 lv = some (.int v1)) (l2 : ai_ld 2 lv = some (.ref v2)) (l3 : ai_ld 3 lv = some (.int v3)) (l4 : ai_ld 4 lv = some (.int v4)) (l5 : ai_ld 5 lv = some (.int v5)) (hh : fX0_goWalks_87 n r10 h v0 v1 v2 v3 v4 v5 s0 = some q) : bi_go 3 tX0_goWalks n (fV n q) 87 lv [.int s0] h := by
  unfold fX0_goWalks_87 at hh
  refine go_is (pc := 87) rfl ?_
  refine go_il (pc := 89) rfl bi_e1 ?_
  refine bi_ite hh (fun hc hh => ?_) (fun hc hh => ?_)
  · refine go_ifltT (pc := 91) rfl hc ?_
    refine go_al (pc := 107) rfl (bi_k1 l0 rfl rfl) ?_
    obtain ⟨x1, ex1, hh⟩ := bi_bd hh
    refine go_gfR (pc := 108) rfl ex1 ?_
    refine go_dup (pc := 111) rfl rfl ?_
    obtain ⟨x2, ex2, hh⟩ := bi_bd hh
    refine go_gfI (pc := 112) rfl ex2 ?_
    refine go_pi (pc := 115) rfl ?_
    refine go_iadd (pc := 116) rfl ?_
    obtain ⟨h3, eh3, hh⟩ := bi_bd hh
    refine go_pf (pc := 117) rfl eh3 ?_
    exact sX0_goWalks_120 R10 (bi_k1 l0 rfl rfl) (bi_k1 l1 rfl rfl) (bi_k1 l2 rfl rfl) (bi_k1 l3 rfl rfl) hh
  · refine go_ifltF (pc := 91) rfl hc ?_
    refine go_al (pc := 94) rfl (bi_k1 l0 rfl rfl) ?_
    refine go_il (pc := 95) rfl (bi_k1 l4 rfl rfl) ?_
    refine go_il (pc := 97) rfl (bi_k1 l5 rfl rfl) ?_
    refine go_il (pc := 99) rfl bi_e1 ?_
    obtain ⟨q4, eq4, hh⟩ := bi_bd hh
    refine go_ivV (pc := 101) rfl rfl (gX0_goWhole eq4) (Nat.le_of_ble_eq_true rfl) (bi_up (sX0_goWhole eq4) (Nat.le_of_ble_eq_true rfl)) ?_
    refine go_goto (pc := 104) rfl ?_
    exact sX0_goWalks_120 R10 (bi_k1 l0 rfl rfl) (bi_k1 l1 rfl rfl) (bi_k1 l2 rfl rfl) (bi_k1 l3 rfl rfl) hh
def fX0_goWalks_75 (n : Nat) (r10 : ai_H → Nat → Int32 → Nat → Int32 → Option (Unit × ai_H)) (h : ai_H) (v0 : Nat) (v1 : Int32) (v2 : Nat) (v3 : Int32) (v4 : Int32) (v5 : Int32) : Option (Unit × ai_H) :=
  fX0_goWalks_87 n r10 h v0 v1 v2 v3 v4 v5 (-1 : Int32)
theorem sX0_goWalks_75 {n : Nat} {r10 : ai_H → Nat → Int32 → Nat → Int32 → Option (Unit × ai_H)} {q : Unit × ai_H} {h : ai_H} {v0 : Nat} {v1 : Int32} {v2 : Nat} {v3 : Int32} {v4 : Int32} {v5 : Int32} {lv : ai_L} (R10 : ∀ (h : ai_H) (v0 : Nat) (v1 : Int32) (v2 : Nat) (v3 : Int32) (lv : ai_L), ai_ld 0 lv = some (.ref v0) → ai_ld 1 lv = some (.int v1) → ai_ld 2 lv = some (.ref v2) → ai_ld 3 lv = some (.int v3) → r10 h v0 v1 v2 v3 = some q → bi_go 3 tX0_goWalks n (fV n q) 10 lv [] h) (l0 : ai_ld 0 lv = some (.ref v0)) (l1 : ai_ld 1 lv = some (.int v1)) (l2 : ai_ld 2 lv = some (.ref v2)) (l3 : ai_ld 3 lv = some (.int v3)) (l4 : ai_ld 4 lv = some (.int v4)) (l5 : ai_ld 5 lv = some (.int v5)) (hh : fX0_goWalks_75 n r10 h v0 v1 v2 v3 v4 v5 = some q) : bi_go 3 tX0_goWalks n (fV n q) 75 lv [] h := by
  unfold fX0_goWalks_75 at hh
  refine go_pi (pc := 75) rfl ?_
  refine go_goto (pc := 76) rfl ?_
  exact sX0_goWalks_87 R10 l0 l1 l2 l3 l4 l5 hh
def fX0_goWalks_10b (n : Nat) (r10 : ai_H → Nat → Int32 → Nat → Int32 → Option (Unit × ai_H)) (h : ai_H) (v0 : Nat) (v1 : Int32) (v2 : Nat) (v3 : Int32) : Option (Unit × ai_H) :=
  (pI n h v2 6 4).bind fun x1 =>
  if x1 ≤ v3 then (
    some ((), h))
  else (
    (pR n h v0 0 1).bind fun x2 =>
    (pI n h x2 5 0).bind fun x3 =>
    if (99 : Int32) < x3 then (
      some ((), h))
    else (
      (fX6_cell n h v2 v3 (2 : Int32)).bind fun q4 =>
      (pR n q4.2 v0 0 1).bind fun x5 =>
      (pI n q4.2 x5 5 0).bind fun x6 =>
      if ¬ q4.1 = x6 then (
        fX0_goWalks_120 n r10 q4.2 v0 v1 v2 v3)
      else (
        (fX6_cell n q4.2 v2 v3 (0 : Int32)).bind fun q7 =>
        (fX6_cell n q7.2 v2 v3 (1 : Int32)).bind fun q8 =>
        if ¬ v1 = 0 then (
          fX0_goWalks_75 n r10 q8.2 v0 v1 v2 v3 q7.1 q8.1)
        else (
          (pI n q8.2 v0 0 6).bind fun x9 =>
          if ¬ q7.1 = x9 then (
            (fX0_costIfHeCan n q8.2 v0 q7.1 q8.1).bind fun q10 =>
            fX0_goWalks_87 n r10 q10.2 v0 v1 v2 v3 q7.1 q8.1 q10.1)
          else (
            fX0_goWalks_75 n r10 q8.2 v0 v1 v2 v3 q7.1 q8.1)))))
theorem sX0_goWalks_10b {n : Nat} {r10 : ai_H → Nat → Int32 → Nat → Int32 → Option (Unit × ai_H)} {q : Unit × ai_H} {h : ai_H} {v0 : Nat} {v1 : Int32} {v2 : Nat} {v3 : Int32} {lv : ai_L} (R10 : ∀ (h : ai_H) (v0 : Nat) (v1 : Int32) (v2 : Nat) (v3 : Int32) (lv : ai_L), ai_ld 0 lv = some (.ref v0) → ai_ld 1 lv = some (.int v1) → ai_ld 2 lv = some (.ref v2) → ai_ld 3 lv = some (.int v3) → r10 h v0 v1 v2 v3 = some q → bi_go 3 tX0_goWalks n (fV n q) 10 lv [] h) (l0 : ai_ld 0 lv = some (.ref v0)) (l1 : ai_ld 1 lv = some (.int v1)) (l2 : ai_ld 2 lv = some (.ref v2)) (l3 : ai_ld 3 lv = some (.int v3)) (hh : fX0_goWalks_10b n r10 h v0 v1 v2 v3 = some q) : bi_go 3 tX0_goWalks n (fV n q) 10 lv [] h := by
  unfold fX0_goWalks_10b at hh
  refine go_il (pc := 10) rfl l3 ?_
  refine go_al (pc := 11) rfl l2 ?_
  obtain ⟨x1, ex1, hh⟩ := bi_bd hh
  refine go_gfI (pc := 12) rfl ex1 ?_
  refine bi_ite hh (fun hc hh => ?_) (fun hc hh => ?_)
  · refine go_cmpgeT (pc := 15) rfl hc ?_
    exact go_rv (pc := 126) rfl hh
  · refine go_cmpgeF (pc := 15) rfl hc ?_
    refine go_al (pc := 18) rfl l0 ?_
    obtain ⟨x2, ex2, hh⟩ := bi_bd hh
    refine go_gfR (pc := 19) rfl ex2 ?_
    obtain ⟨x3, ex3, hh⟩ := bi_bd hh
    refine go_gfI (pc := 22) rfl ex3 ?_
    refine go_pi (pc := 25) rfl ?_
    refine bi_ite hh (fun hc hh => ?_) (fun hc hh => ?_)
    · refine go_cmpgtT (pc := 27) rfl hc ?_
      exact go_rv (pc := 126) rfl hh
    · refine go_cmpgtF (pc := 27) rfl hc ?_
      refine go_al (pc := 30) rfl l2 ?_
      refine go_il (pc := 31) rfl l3 ?_
      refine go_pi (pc := 32) rfl ?_
      obtain ⟨q4, eq4, hh⟩ := bi_bd hh
      refine go_ivI (pc := 33) rfl rfl (gX6_cell eq4) (Nat.le_of_ble_eq_true rfl) (bi_up (sX6_cell eq4) (Nat.le_of_ble_eq_true rfl)) ?_
      refine go_al (pc := 36) rfl l0 ?_
      obtain ⟨x5, ex5, hh⟩ := bi_bd hh
      refine go_gfR (pc := 37) rfl ex5 ?_
      obtain ⟨x6, ex6, hh⟩ := bi_bd hh
      refine go_gfI (pc := 40) rfl ex6 ?_
      refine bi_ite hh (fun hc hh => ?_) (fun hc hh => ?_)
      · refine go_cmpneT (pc := 43) rfl hc ?_
        exact sX0_goWalks_120 R10 l0 l1 l2 l3 hh
      · refine go_cmpneF (pc := 43) rfl hc ?_
        refine go_al (pc := 46) rfl l2 ?_
        refine go_il (pc := 47) rfl l3 ?_
        refine go_pi (pc := 48) rfl ?_
        obtain ⟨q7, eq7, hh⟩ := bi_bd hh
        refine go_ivI (pc := 49) rfl rfl (gX6_cell eq7) (Nat.le_of_ble_eq_true rfl) (bi_up (sX6_cell eq7) (Nat.le_of_ble_eq_true rfl)) ?_
        refine go_is (pc := 52) rfl ?_
        refine go_al (pc := 54) rfl (bi_k1 l2 rfl rfl) ?_
        refine go_il (pc := 55) rfl (bi_k1 l3 rfl rfl) ?_
        refine go_pi (pc := 56) rfl ?_
        obtain ⟨q8, eq8, hh⟩ := bi_bd hh
        refine go_ivI (pc := 57) rfl rfl (gX6_cell eq8) (Nat.le_of_ble_eq_true rfl) (bi_up (sX6_cell eq8) (Nat.le_of_ble_eq_true rfl)) ?_
        refine go_is (pc := 60) rfl ?_
        refine go_il (pc := 62) rfl (bi_k1 (bi_k1 l1 rfl rfl) rfl rfl) ?_
        refine bi_ite hh (fun hc hh => ?_) (fun hc hh => ?_)
        · refine go_ifneT (pc := 63) rfl hc ?_
          exact sX0_goWalks_75 R10 (bi_k1 (bi_k1 l0 rfl rfl) rfl rfl) (bi_k1 (bi_k1 l1 rfl rfl) rfl rfl) (bi_k1 (bi_k1 l2 rfl rfl) rfl rfl) (bi_k1 (bi_k1 l3 rfl rfl) rfl rfl) (bi_k1 bi_e1 rfl rfl) bi_e1 hh
        · refine go_ifneF (pc := 63) rfl hc ?_
          refine go_il (pc := 66) rfl (bi_k1 bi_e1 rfl rfl) ?_
          refine go_al (pc := 68) rfl (bi_k1 (bi_k1 l0 rfl rfl) rfl rfl) ?_
          obtain ⟨x9, ex9, hh⟩ := bi_bd hh
          refine go_gfI (pc := 69) rfl ex9 ?_
          refine bi_ite hh (fun hc hh => ?_) (fun hc hh => ?_)
          · refine go_cmpneT (pc := 72) rfl hc ?_
            refine go_al (pc := 79) rfl (bi_k1 (bi_k1 l0 rfl rfl) rfl rfl) ?_
            refine go_il (pc := 80) rfl (bi_k1 bi_e1 rfl rfl) ?_
            refine go_il (pc := 82) rfl bi_e1 ?_
            obtain ⟨q10, eq10, hh⟩ := bi_bd hh
            refine go_ivI (pc := 84) rfl rfl (gX0_costIfHeCan eq10) (Nat.le_of_ble_eq_true rfl) (bi_up (sX0_costIfHeCan eq10) (Nat.le_of_ble_eq_true rfl)) ?_
            exact sX0_goWalks_87 R10 (bi_k1 (bi_k1 l0 rfl rfl) rfl rfl) (bi_k1 (bi_k1 l1 rfl rfl) rfl rfl) (bi_k1 (bi_k1 l2 rfl rfl) rfl rfl) (bi_k1 (bi_k1 l3 rfl rfl) rfl rfl) (bi_k1 bi_e1 rfl rfl) bi_e1 hh
          · refine go_cmpneF (pc := 72) rfl hc ?_
            exact sX0_goWalks_75 R10 (bi_k1 (bi_k1 l0 rfl rfl) rfl rfl) (bi_k1 (bi_k1 l1 rfl rfl) rfl rfl) (bi_k1 (bi_k1 l2 rfl rfl) rfl rfl) (bi_k1 (bi_k1 l3 rfl rfl) rfl rfl) (bi_k1 bi_e1 rfl rfl) bi_e1 hh
def fX0_goWalks_10 (n : Nat) : Nat → ai_H → Nat → Int32 → Nat → Int32 → Option (Unit × ai_H)
  | 0 => fun _ _ _ _ _ => none
  | k + 1 => fun h v0 v1 v2 v3 => fX0_goWalks_10b n (fX0_goWalks_10 n k) h v0 v1 v2 v3
theorem sX0_goWalks_10 {n : Nat} {q : Unit × ai_H} : ∀ (k : Nat) (h : ai_H) (v0 : Nat) (v1 : Int32) (v2 : Nat) (v3 : Int32) (lv : ai_L), ai_ld 0 lv = some (.ref v0) → ai_ld 1 lv = some (.int v1) → ai_ld 2 lv = some (.ref v2) → ai_ld 3 lv = some (.int v3) → fX0_goWalks_10 n k h v0 v1 v2 v3 = some q → bi_go 3 tX0_goWalks n (fV n q) 10 lv [] h
  | 0 => fun _ _ _ _ _ _ _ _ _ _ hh => by cases hh
  | k + 1 => fun h v0 v1 v2 v3 lv l0 l1 l2 l3 hh => sX0_goWalks_10b  (sX0_goWalks_10  k) l0 l1 l2 l3 hh
def fX0_goWalks (n : Nat) (h : ai_H) (a0 : Nat) (a1 : Int32) : Option (Unit × ai_H) :=
  (kO n h a0 0).bind fun _ =>
  (pR n h a0 0 0).bind fun x1 =>
  (pR n h x1 8 3).bind fun x2 =>
  fX0_goWalks_10 n bi_K h a0 a1 x2 (0 : Int32)
theorem gX0_goWalks {n : Nat} {h : ai_H} {a0 : Nat} {a1 : Int32} {q : Unit × ai_H} (hh : fX0_goWalks n h a0 a1 = some q) : kO n h a0 0 = some () := by
  obtain ⟨_, e, -⟩ := bi_bd hh
  exact e
theorem sX0_goWalks {n : Nat} {h : ai_H} {a0 : Nat} {a1 : Int32} {q : Unit × ai_H} (hh : fX0_goWalks n h a0 a1 = some q) : bi_sp 4 5 [.ref a0, .int a1] h n (fV n q) := by
  refine bi_en (D := 3) (T := tX0_goWalks) (funext fun pc => rfl) rfl (Nat.le_of_ble_eq_true rfl) ?_
  unfold fX0_goWalks at hh
  obtain ⟨_, eO, hh⟩ := bi_bd hh
  refine go_al (pc := 0) rfl (rfl : ai_ld 0 (lv_args 0 [.ref a0, .int a1]) = some (.ref a0)) ?_
  obtain ⟨x1, ex1, hh⟩ := bi_bd hh
  refine go_gfR (pc := 1) rfl ex1 ?_
  obtain ⟨x2, ex2, hh⟩ := bi_bd hh
  refine go_gfR (pc := 4) rfl ex2 ?_
  refine go_as (pc := 7) rfl ?_
  refine go_pi (pc := 8) rfl ?_
  refine go_is (pc := 9) rfl ?_
  exact sX0_goWalks_10  _ _ _ _ _ _ _ (bi_k1 (bi_k1 (rfl : ai_ld 0 (lv_args 0 [.ref a0, .int a1]) = some (.ref a0)) rfl rfl) rfl rfl) (bi_k1 (bi_k1 (rfl : ai_ld 1 (lv_args 0 [.ref a0, .int a1]) = some (.int a1)) rfl rfl) rfl rfl) (bi_k1 bi_e1 rfl rfl) bi_e1 hh
def fX0_growOlder_49 (n : Nat) (h : ai_H) (v0 : Nat) (v1 : Int32) (v2 : Int64) : Option (Unit × ai_H) :=
  (pR n h v0 0 1).bind fun x1 =>
  (pR n h x1 5 5).bind fun x2 =>
  (gX 1 n h x2 v1).bind fun x3 =>
  if (lg_cmp x3.toInt64 (if (if (9999 : Int64) < v2 then (9999 : Int64) else v2) < (1 : Int64) then (1 : Int64) else (if (9999 : Int64) < v2 then (9999 : Int64) else v2))) < 0 then (
    some ((), h))
  else (
    (pR n h v0 0 1).bind fun x4 =>
    (pI n h x4 5 4).bind fun x5 =>
    (sF n h x4 5 4 (.int) (.int (x5 &&& (((1 : Int32) <<< (v1 &&& 31)) ^^^ (-1 : Int32))))).bind fun h6 =>
    some ((), h6))
theorem sX0_growOlder_49 {n : Nat} {q : Unit × ai_H} {h : ai_H} {v0 : Nat} {v1 : Int32} {v2 : Int64} {lv : ai_L} (l0 : ai_ld 0 lv = some (.ref v0)) (l1 : ai_ld 1 lv = some (.int v1)) (l2 : ai_ld 2 lv = some (.long v2)) (hh : fX0_growOlder_49 n h v0 v1 v2 = some q) : bi_go 2 tX0_growOlder n (fV n q) 49 lv [] h := by
  unfold fX0_growOlder_49 at hh
  refine go_al (pc := 49) rfl l0 ?_
  obtain ⟨x1, ex1, hh⟩ := bi_bd hh
  refine go_gfR (pc := 50) rfl ex1 ?_
  obtain ⟨x2, ex2, hh⟩ := bi_bd hh
  refine go_gfR (pc := 53) rfl ex2 ?_
  refine go_il (pc := 56) rfl l1 ?_
  obtain ⟨x3, ex3, hh⟩ := bi_bd hh
  refine go_iald (pc := 57) rfl ex3 ?_
  refine go_i2l (pc := 58) rfl ?_
  refine go_pl (pc := 59) rfl ?_
  refine go_ll (pc := 60) rfl l2 ?_
  refine go_pl (pc := 61) rfl ?_
  refine go_lmin (pc := 64) rfl (Nat.le_of_ble_eq_true rfl) ?_
  refine go_lmax (pc := 67) rfl (Nat.le_of_ble_eq_true rfl) ?_
  refine go_lcmp (pc := 70) rfl ?_
  refine bi_ite hh (fun hc hh => ?_) (fun hc hh => ?_)
  · refine go_ifltT (pc := 71) rfl hc ?_
    exact go_rv (pc := 91) rfl hh
  · refine go_ifltF (pc := 71) rfl hc ?_
    refine go_al (pc := 74) rfl l0 ?_
    obtain ⟨x4, ex4, hh⟩ := bi_bd hh
    refine go_gfR (pc := 75) rfl ex4 ?_
    refine go_dup (pc := 78) rfl rfl ?_
    obtain ⟨x5, ex5, hh⟩ := bi_bd hh
    refine go_gfI (pc := 79) rfl ex5 ?_
    refine go_pi (pc := 82) rfl ?_
    refine go_il (pc := 83) rfl l1 ?_
    refine go_ishl (pc := 84) rfl ?_
    refine go_pi (pc := 85) rfl ?_
    refine go_ixor (pc := 86) rfl ?_
    refine go_iand (pc := 87) rfl ?_
    obtain ⟨h6, eh6, hh⟩ := bi_bd hh
    refine go_pf (pc := 88) rfl eh6 ?_
    exact go_rv (pc := 91) rfl hh
def fX0_growOlder (n : Nat) (h : ai_H) (a0 : Nat) (a1 : Int32) : Option (Unit × ai_H) :=
  (kO n h a0 0).bind fun _ =>
  (pR n h a0 0 1).bind fun x1 =>
  (pR n h x1 5 5).bind fun x2 =>
  (gX 1 n h x2 a1).bind fun x3 =>
  (wX 1 (fun x => x) n h x2 a1 (x3 + (1 : Int32))).bind fun h4 =>
  (pI n h4 a0 0 5).bind fun x5 =>
  (pI n h4 a0 0 4).bind fun x6 =>
  if x6 = 0 then (
    fX0_growOlder_49 n h4 a0 a1 x5.toInt64)
  else (
    (fX0_lookAt n h4 a0 a1 (-1 : Int32)).bind fun q7 =>
    (pR n q7.2 a0 0 0).bind fun x8 =>
    (pR n q7.2 x8 8 5).bind fun x9 =>
    (pI n q7.2 a0 0 5).bind fun x10 =>
    (fX2_value n q7.2 x9 (0 : Int32) x10.toInt64).bind fun q11 =>
    fX0_growOlder_49 n q11.2 a0 a1 q11.1)
theorem gX0_growOlder {n : Nat} {h : ai_H} {a0 : Nat} {a1 : Int32} {q : Unit × ai_H} (hh : fX0_growOlder n h a0 a1 = some q) : kO n h a0 0 = some () := by
  obtain ⟨_, e, -⟩ := bi_bd hh
  exact e
theorem sX0_growOlder {n : Nat} {h : ai_H} {a0 : Nat} {a1 : Int32} {q : Unit × ai_H} (hh : fX0_growOlder n h a0 a1 = some q) : bi_sp 3 6 [.ref a0, .int a1] h n (fV n q) := by
  refine bi_en (D := 2) (T := tX0_growOlder) (funext fun pc => rfl) rfl (Nat.le_of_ble_eq_true rfl) ?_
  unfold fX0_growOlder at hh
  obtain ⟨_, eO, hh⟩ := bi_bd hh
  refine go_al (pc := 0) rfl (rfl : ai_ld 0 (lv_args 0 [.ref a0, .int a1]) = some (.ref a0)) ?_
  obtain ⟨x1, ex1, hh⟩ := bi_bd hh
  refine go_gfR (pc := 1) rfl ex1 ?_
  obtain ⟨x2, ex2, hh⟩ := bi_bd hh
  refine go_gfR (pc := 4) rfl ex2 ?_
  refine go_il (pc := 7) rfl (rfl : ai_ld 1 (lv_args 0 [.ref a0, .int a1]) = some (.int a1)) ?_
  refine go_dup2 (pc := 8) rfl rfl rfl ?_
  obtain ⟨x3, ex3, hh⟩ := bi_bd hh
  refine go_iald (pc := 9) rfl ex3 ?_
  refine go_pi (pc := 10) rfl ?_
  refine go_iadd (pc := 11) rfl ?_
  obtain ⟨h4, eh4, hh⟩ := bi_bd hh
  refine go_iast (pc := 12) rfl eh4 ?_
  refine go_al (pc := 13) rfl (rfl : ai_ld 0 (lv_args 0 [.ref a0, .int a1]) = some (.ref a0)) ?_
  obtain ⟨x5, ex5, hh⟩ := bi_bd hh
  refine go_gfI (pc := 14) rfl ex5 ?_
  refine go_i2l (pc := 17) rfl ?_
  refine go_lst (pc := 18) rfl ?_
  refine go_al (pc := 19) rfl (bi_k2 (rfl : ai_ld 0 (lv_args 0 [.ref a0, .int a1]) = some (.ref a0)) rfl rfl rfl) ?_
  obtain ⟨x6, ex6, hh⟩ := bi_bd hh
  refine go_gfI (pc := 20) rfl ex6 ?_
  refine bi_ite hh (fun hc hh => ?_) (fun hc hh => ?_)
  · refine go_ifeqT (pc := 23) rfl hc ?_
    exact sX0_growOlder_49  (bi_k2 (rfl : ai_ld 0 (lv_args 0 [.ref a0, .int a1]) = some (.ref a0)) rfl rfl rfl) (bi_k2 (rfl : ai_ld 1 (lv_args 0 [.ref a0, .int a1]) = some (.int a1)) rfl rfl rfl) bi_e2 hh
  · refine go_ifeqF (pc := 23) rfl hc ?_
    refine go_al (pc := 26) rfl (bi_k2 (rfl : ai_ld 0 (lv_args 0 [.ref a0, .int a1]) = some (.ref a0)) rfl rfl rfl) ?_
    refine go_il (pc := 27) rfl (bi_k2 (rfl : ai_ld 1 (lv_args 0 [.ref a0, .int a1]) = some (.int a1)) rfl rfl rfl) ?_
    refine go_pi (pc := 28) rfl ?_
    obtain ⟨q7, eq7, hh⟩ := bi_bd hh
    refine go_ivV (pc := 29) rfl rfl (gX0_lookAt eq7) (Nat.le_of_ble_eq_true rfl) (bi_up (sX0_lookAt eq7) (Nat.le_of_ble_eq_true rfl)) ?_
    refine go_al (pc := 32) rfl (bi_k2 (rfl : ai_ld 0 (lv_args 0 [.ref a0, .int a1]) = some (.ref a0)) rfl rfl rfl) ?_
    obtain ⟨x8, ex8, hh⟩ := bi_bd hh
    refine go_gfR (pc := 33) rfl ex8 ?_
    obtain ⟨x9, ex9, hh⟩ := bi_bd hh
    refine go_gfR (pc := 36) rfl ex9 ?_
    refine go_pi (pc := 39) rfl ?_
    refine go_al (pc := 40) rfl (bi_k2 (rfl : ai_ld 0 (lv_args 0 [.ref a0, .int a1]) = some (.ref a0)) rfl rfl rfl) ?_
    obtain ⟨x10, ex10, hh⟩ := bi_bd hh
    refine go_gfI (pc := 41) rfl ex10 ?_
    refine go_i2l (pc := 44) rfl ?_
    obtain ⟨q11, eq11, hh⟩ := bi_bd hh
    refine go_ivJ (pc := 45) rfl rfl (gX2_value eq11) (Nat.le_of_ble_eq_true rfl) (bi_up (sX2_value eq11) (Nat.le_of_ble_eq_true rfl)) ?_
    refine go_lst (pc := 48) rfl ?_
    exact sX0_growOlder_49  (bi_k2 (bi_k2 (rfl : ai_ld 0 (lv_args 0 [.ref a0, .int a1]) = some (.ref a0)) rfl rfl rfl) rfl rfl rfl) (bi_k2 (bi_k2 (rfl : ai_ld 1 (lv_args 0 [.ref a0, .int a1]) = some (.int a1)) rfl rfl rfl) rfl rfl rfl) bi_e2 hh
