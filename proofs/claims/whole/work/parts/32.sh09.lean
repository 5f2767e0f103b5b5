/-! ===== methods as functions, part 9 ===== -/
def fX10_law_67 (n : Nat) (h : ai_H) (v0 : Nat) (v1 : Int32) (s0 : Int32) (s1 : Int32) (s2 : Nat) : Option (Int64 × ai_H) :=
  (fX0_lookAt n h s2 s1 s0).bind fun q1 =>
  (pR n q1.2 v0 10 3).bind fun x2 =>
  (pR n q1.2 x2 8 5).bind fun x3 =>
  (fX2_value n q1.2 x3 v1 (-9223372036854775808 : Int64)).bind fun q4 =>
  some (q4.1, q4.2)
theorem sX10_law_67 {n : Nat} {q : Int64 × ai_H} {h : ai_H} {v0 : Nat} {v1 : Int32} {s0 : Int32} {s1 : Int32} {s2 : Nat} {lv : ai_L} (l0 : ai_ld 0 lv = some (.ref v0)) (l1 : ai_ld 1 lv = some (.int v1)) (hh : fX10_law_67 n h v0 v1 s0 s1 s2 = some q) : bi_go 2 tX10_law n (fJ n q) 67 lv [.int s0, .int s1, .ref s2] h := by
  unfold fX10_law_67 at hh
  obtain ⟨q1, eq1, hh⟩ := bi_bd hh
  refine go_ivV (pc := 67) rfl rfl (gX0_lookAt eq1) (Nat.le_of_ble_eq_true rfl) (bi_up (sX0_lookAt eq1) (Nat.le_of_ble_eq_true rfl)) ?_
  refine go_al (pc := 70) rfl l0 ?_
  obtain ⟨x2, ex2, hh⟩ := bi_bd hh
  refine go_gfR (pc := 71) rfl ex2 ?_
  obtain ⟨x3, ex3, hh⟩ := bi_bd hh
  refine go_gfR (pc := 74) rfl ex3 ?_
  refine go_il (pc := 77) rfl l1 ?_
  refine go_pl (pc := 78) rfl ?_
  obtain ⟨q4, eq4, hh⟩ := bi_bd hh
  refine go_ivJ (pc := 81) rfl rfl (gX2_value eq4) (Nat.le_of_ble_eq_true rfl) (bi_up (sX2_value eq4) (Nat.le_of_ble_eq_true rfl)) ?_
  exact go_rl (pc := 84) rfl hh
def fX10_law_37 (n : Nat) (h : ai_H) (v0 : Nat) (v1 : Int32) (v2 : Int32) (v3 : Int32) : Option (Int64 × ai_H) :=
  (pR n h v0 10 11).bind fun x1 =>
  (pR n h v0 10 3).bind fun x2 =>
  (pR n h v0 10 5).bind fun x3 =>
  (fX0_begin n h x1 x2 x3 (0 : Int32)).bind fun q4 =>
  (pR n q4.2 v0 10 11).bind fun x5 =>
  if ¬ v1 = 0 then (
    fX10_law_67 n q4.2 v0 v1 v3 v2 x5)
  else (
    fX10_law_67 n q4.2 v0 v1 (-1 : Int32) v2 x5)
theorem sX10_law_37 {n : Nat} {q : Int64 × ai_H} {h : ai_H} {v0 : Nat} {v1 : Int32} {v2 : Int32} {v3 : Int32} {lv : ai_L} (l0 : ai_ld 0 lv = some (.ref v0)) (l1 : ai_ld 1 lv = some (.int v1)) (l2 : ai_ld 2 lv = some (.int v2)) (l3 : ai_ld 3 lv = some (.int v3)) (hh : fX10_law_37 n h v0 v1 v2 v3 = some q) : bi_go 2 tX10_law n (fJ n q) 37 lv [] h := by
  unfold fX10_law_37 at hh
  refine go_al (pc := 37) rfl l0 ?_
  obtain ⟨x1, ex1, hh⟩ := bi_bd hh
  refine go_gfR (pc := 38) rfl ex1 ?_
  refine go_al (pc := 41) rfl l0 ?_
  obtain ⟨x2, ex2, hh⟩ := bi_bd hh
  refine go_gfR (pc := 42) rfl ex2 ?_
  refine go_al (pc := 45) rfl l0 ?_
  obtain ⟨x3, ex3, hh⟩ := bi_bd hh
  refine go_gfR (pc := 46) rfl ex3 ?_
  refine go_pi (pc := 49) rfl ?_
  obtain ⟨q4, eq4, hh⟩ := bi_bd hh
  refine go_ivV (pc := 50) rfl rfl (gX0_begin eq4) (Nat.le_of_ble_eq_true rfl) (bi_up (sX0_begin eq4) (Nat.le_of_ble_eq_true rfl)) ?_
  refine go_al (pc := 53) rfl l0 ?_
  obtain ⟨x5, ex5, hh⟩ := bi_bd hh
  refine go_gfR (pc := 54) rfl ex5 ?_
  refine go_il (pc := 57) rfl l2 ?_
  refine go_il (pc := 58) rfl l1 ?_
  refine bi_ite hh (fun hc hh => ?_) (fun hc hh => ?_)
  · refine go_ifneT (pc := 59) rfl hc ?_
    refine go_il (pc := 66) rfl l3 ?_
    exact sX10_law_67  l0 l1 hh
  · refine go_ifneF (pc := 59) rfl hc ?_
    refine go_pi (pc := 62) rfl ?_
    refine go_goto (pc := 63) rfl ?_
    exact sX10_law_67  l0 l1 hh
def fX10_law (n : Nat) (h : ai_H) (a0 : Nat) (a1 : Int32) (a2 : Int32) (a3 : Int32) : Option (Int64 × ai_H) :=
  (kO n h a0 10).bind fun _ =>
  (fX10_isWithin n h (0 : Int32) a1 (2 : Int32)).bind fun q1 =>
  if q1.1 = 0 then (
    some ((-9223372036854775808 : Int64), q1.2))
  else (
    (fX10_isPath n q1.2 a0 a2).bind fun q2 =>
    if ¬ q2.1 = 0 then (
      if a1 = 0 then (
        fX10_law_37 n q2.2 a0 a1 a2 a3)
      else (
        (fX10_isWalker n q2.2 a0 a3).bind fun q3 =>
        if ¬ q3.1 = 0 then (
          fX10_law_37 n q3.2 a0 a1 a2 a3)
        else (
          some ((-9223372036854775808 : Int64), q3.2))))
    else (
      some ((-9223372036854775808 : Int64), q2.2)))
theorem gX10_law {n : Nat} {h : ai_H} {a0 : Nat} {a1 : Int32} {a2 : Int32} {a3 : Int32} {q : Int64 × ai_H} (hh : fX10_law n h a0 a1 a2 a3 = some q) : kO n h a0 10 = some () := by
  obtain ⟨_, e, -⟩ := bi_bd hh
  exact e
theorem sX10_law {n : Nat} {h : ai_H} {a0 : Nat} {a1 : Int32} {a2 : Int32} {a3 : Int32} {q : Int64 × ai_H} (hh : fX10_law n h a0 a1 a2 a3 = some q) : bi_sp 3 101 [.ref a0, .int a1, .int a2, .int a3] h n (fJ n q) := by
  refine bi_en (D := 2) (T := tX10_law) (funext fun pc => rfl) rfl (Nat.le_of_ble_eq_true rfl) ?_
  unfold fX10_law at hh
  obtain ⟨_, eO, hh⟩ := bi_bd hh
  refine go_pi (pc := 0) rfl ?_
  refine go_il (pc := 1) rfl (rfl : ai_ld 1 (lv_args 0 [.ref a0, .int a1, .int a2, .int a3]) = some (.int a1)) ?_
  refine go_pi (pc := 2) rfl ?_
  obtain ⟨q1, eq1, hh⟩ := bi_bd hh
  refine go_iSI (pc := 3) rfl (Nat.le_of_ble_eq_true rfl) rfl (Nat.le_of_ble_eq_true rfl) (bi_up (sX10_isWithin eq1) (Nat.le_of_ble_eq_true rfl)) ?_
  refine bi_ite hh (fun hc hh => ?_) (fun hc hh => ?_)
  · refine go_ifeqT (pc := 6) rfl hc ?_
    refine go_pl (pc := 17) rfl ?_
    exact go_rl (pc := 20) rfl hh
  · refine go_ifeqF (pc := 6) rfl hc ?_
    refine go_al (pc := 9) rfl (rfl : ai_ld 0 (lv_args 0 [.ref a0, .int a1, .int a2, .int a3]) = some (.ref a0)) ?_
    refine go_il (pc := 10) rfl (rfl : ai_ld 2 (lv_args 0 [.ref a0, .int a1, .int a2, .int a3]) = some (.int a2)) ?_
    obtain ⟨q2, eq2, hh⟩ := bi_bd hh
    refine go_ivI (pc := 11) rfl rfl (gX10_isPath eq2) (Nat.le_of_ble_eq_true rfl) (bi_up (sX10_isPath eq2) (Nat.le_of_ble_eq_true rfl)) ?_
    refine bi_ite hh (fun hc hh => ?_) (fun hc hh => ?_)
    · refine go_ifneT (pc := 14) rfl hc ?_
      refine go_il (pc := 21) rfl (rfl : ai_ld 1 (lv_args 0 [.ref a0, .int a1, .int a2, .int a3]) = some (.int a1)) ?_
      refine bi_ite hh (fun hc hh => ?_) (fun hc hh => ?_)
      · refine go_ifeqT (pc := 22) rfl hc ?_
        exact sX10_law_37  (rfl : ai_ld 0 (lv_args 0 [.ref a0, .int a1, .int a2, .int a3]) = some (.ref a0)) (rfl : ai_ld 1 (lv_args 0 [.ref a0, .int a1, .int a2, .int a3]) = some (.int a1)) (rfl : ai_ld 2 (lv_args 0 [.ref a0, .int a1, .int a2, .int a3]) = some (.int a2)) (rfl : ai_ld 3 (lv_args 0 [.ref a0, .int a1, .int a2, .int a3]) = some (.int a3)) hh
      · refine go_ifeqF (pc := 22) rfl hc ?_
        refine go_al (pc := 25) rfl (rfl : ai_ld 0 (lv_args 0 [.ref a0, .int a1, .int a2, .int a3]) = some (.ref a0)) ?_
        refine go_il (pc := 26) rfl (rfl : ai_ld 3 (lv_args 0 [.ref a0, .int a1, .int a2, .int a3]) = some (.int a3)) ?_
        obtain ⟨q3, eq3, hh⟩ := bi_bd hh
        refine go_ivI (pc := 27) rfl rfl (gX10_isWalker eq3) (Nat.le_of_ble_eq_true rfl) (bi_up (sX10_isWalker eq3) (Nat.le_of_ble_eq_true rfl)) ?_
        refine bi_ite hh (fun hc hh => ?_) (fun hc hh => ?_)
        · refine go_ifneT (pc := 30) rfl hc ?_
          exact sX10_law_37  (rfl : ai_ld 0 (lv_args 0 [.ref a0, .int a1, .int a2, .int a3]) = some (.ref a0)) (rfl : ai_ld 1 (lv_args 0 [.ref a0, .int a1, .int a2, .int a3]) = some (.int a1)) (rfl : ai_ld 2 (lv_args 0 [.ref a0, .int a1, .int a2, .int a3]) = some (.int a2)) (rfl : ai_ld 3 (lv_args 0 [.ref a0, .int a1, .int a2, .int a3]) = some (.int a3)) hh
        · refine go_ifneF (pc := 30) rfl hc ?_
          refine go_pl (pc := 33) rfl ?_
          exact go_rl (pc := 36) rfl hh
    · refine go_ifneF (pc := 14) rfl hc ?_
      refine go_pl (pc := 17) rfl ?_
      exact go_rl (pc := 20) rfl hh
def fX10_count (n : Nat) (h : ai_H) (a0 : Nat) (a1 : Int32) : Option (Int32 × ai_H) :=
  (kO n h a0 10).bind fun _ =>
  if a1 = 0 then (
    (pR n h a0 10 3).bind fun x1 =>
    (pR n h x1 8 0).bind fun x2 =>
    (pI n h x2 6 4).bind fun x3 =>
    some (x3, h))
  else (
    if a1 = 1 then (
      (pR n h a0 10 3).bind fun x4 =>
      (pR n h x4 8 1).bind fun x5 =>
      (pI n h x5 6 4).bind fun x6 =>
      some (x6, h))
    else (
      if a1 = 2 then (
        (pR n h a0 10 3).bind fun x7 =>
        (pR n h x7 8 2).bind fun x8 =>
        (pI n h x8 6 4).bind fun x9 =>
        some (x9, h))
      else (
        if a1 = 3 then (
          (pR n h a0 10 3).bind fun x10 =>
          (pR n h x10 8 3).bind fun x11 =>
          (pI n h x11 6 4).bind fun x12 =>
          some (x12, h))
        else (
          if a1 = 4 then (
            (pR n h a0 10 3).bind fun x13 =>
            (pR n h x13 8 5).bind fun x14 =>
            (pI n h x14 2 5).bind fun x15 =>
            some (x15, h))
          else (
            if a1 = 5 then (
              (pR n h a0 10 5).bind fun x16 =>
              (pI n h x16 5 0).bind fun x17 =>
              some (x17, h))
            else (
              if a1 = 6 then (
                (pR n h a0 10 5).bind fun x18 =>
                (pI n h x18 5 4).bind fun x19 =>
                (fJ6_bitCount_0f7a4 n h x19).bind fun q20 =>
                some (q20.1, q20.2))
              else (
                if a1 = 7 then (
                  (pR n h a0 10 5).bind fun x21 =>
                  (pI n h x21 5 2).bind fun x22 =>
                  some (x22, h))
                else (
                  if a1 = 8 then (
                    (pR n h a0 10 5).bind fun x23 =>
                    (pI n h x23 5 3).bind fun x24 =>
                    some (x24, h))
                  else (
                    if a1 = 9 then (
                      (pR n h a0 10 3).bind fun x25 =>
                      (pR n h a0 10 5).bind fun x26 =>
                      (pI n h x26 5 4).bind fun x27 =>
                      (fX9_sets n h x25 x27).bind fun q28 =>
                      some (q28.1, q28.2))
                    else (
                      if a1 = 10 then (
                        (pR n h a0 10 12).bind fun x29 =>
                        (pI n h x29 4 5).bind fun x30 =>
                        some (x30, h))
                      else (
                        if a1 = 11 then (
                          (pR n h a0 10 12).bind fun x31 =>
                          (fX4_knownSize n h x31).bind fun q32 =>
                          some (q32.1, q32.2))
                        else (
                          if a1 = 12 then (
                            (pI n h a0 10 10).bind fun x33 =>
                            some (x33, h))
                          else (
                            some ((-1 : Int32), h))))))))))))))
theorem gX10_count {n : Nat} {h : ai_H} {a0 : Nat} {a1 : Int32} {q : Int32 × ai_H} (hh : fX10_count n h a0 a1 = some q) : kO n h a0 10 = some () := by
  obtain ⟨_, e, -⟩ := bi_bd hh
  exact e
theorem sX10_count {n : Nat} {h : ai_H} {a0 : Nat} {a1 : Int32} {q : Int32 × ai_H} (hh : fX10_count n h a0 a1 = some q) : bi_sp 5 102 [.ref a0, .int a1] h n (fI n q) := by
  refine bi_en (D := 4) (T := tX10_count) (funext fun pc => rfl) rfl (Nat.le_of_ble_eq_true rfl) ?_
  unfold fX10_count at hh
  obtain ⟨_, eO, hh⟩ := bi_bd hh
  refine go_il (pc := 0) rfl (rfl : ai_ld 1 (lv_args 0 [.ref a0, .int a1]) = some (.int a1)) ?_
  refine bi_ite hh (fun hc0 hh => ?_) (fun hc0 hh => ?_)
  · refine go_swc (t := 68) 0 (pc := 1) rfl hc0 (by decide) ?_
    refine go_al (pc := 68) rfl (rfl : ai_ld 0 (lv_args 0 [.ref a0, .int a1]) = some (.ref a0)) ?_
    obtain ⟨x1, ex1, hh⟩ := bi_bd hh
    refine go_gfR (pc := 69) rfl ex1 ?_
    obtain ⟨x2, ex2, hh⟩ := bi_bd hh
    refine go_gfR (pc := 72) rfl ex2 ?_
    obtain ⟨x3, ex3, hh⟩ := bi_bd hh
    refine go_gfI (pc := 75) rfl ex3 ?_
    exact go_ri (pc := 78) rfl hh
  · skip
    refine bi_ite hh (fun hc1 hh => ?_) (fun hc1 hh => ?_)
    · refine go_swc (t := 79) 1 (pc := 1) rfl hc1 (by decide) ?_
      refine go_al (pc := 79) rfl (rfl : ai_ld 0 (lv_args 0 [.ref a0, .int a1]) = some (.ref a0)) ?_
      obtain ⟨x4, ex4, hh⟩ := bi_bd hh
      refine go_gfR (pc := 80) rfl ex4 ?_
      obtain ⟨x5, ex5, hh⟩ := bi_bd hh
      refine go_gfR (pc := 83) rfl ex5 ?_
      obtain ⟨x6, ex6, hh⟩ := bi_bd hh
      refine go_gfI (pc := 86) rfl ex6 ?_
      exact go_ri (pc := 89) rfl hh
    · skip
      refine bi_ite hh (fun hc2 hh => ?_) (fun hc2 hh => ?_)
      · refine go_swc (t := 90) 2 (pc := 1) rfl hc2 (by decide) ?_
        refine go_al (pc := 90) rfl (rfl : ai_ld 0 (lv_args 0 [.ref a0, .int a1]) = some (.ref a0)) ?_
        obtain ⟨x7, ex7, hh⟩ := bi_bd hh
        refine go_gfR (pc := 91) rfl ex7 ?_
        obtain ⟨x8, ex8, hh⟩ := bi_bd hh
        refine go_gfR (pc := 94) rfl ex8 ?_
        obtain ⟨x9, ex9, hh⟩ := bi_bd hh
        refine go_gfI (pc := 97) rfl ex9 ?_
        exact go_ri (pc := 100) rfl hh
      · skip
        refine bi_ite hh (fun hc3 hh => ?_) (fun hc3 hh => ?_)
        · refine go_swc (t := 101) 3 (pc := 1) rfl hc3 (by decide) ?_
          refine go_al (pc := 101) rfl (rfl : ai_ld 0 (lv_args 0 [.ref a0, .int a1]) = some (.ref a0)) ?_
          obtain ⟨x10, ex10, hh⟩ := bi_bd hh
          refine go_gfR (pc := 102) rfl ex10 ?_
          obtain ⟨x11, ex11, hh⟩ := bi_bd hh
          refine go_gfR (pc := 105) rfl ex11 ?_
          obtain ⟨x12, ex12, hh⟩ := bi_bd hh
          refine go_gfI (pc := 108) rfl ex12 ?_
          exact go_ri (pc := 111) rfl hh
        · skip
          refine bi_ite hh (fun hc4 hh => ?_) (fun hc4 hh => ?_)
          · refine go_swc (t := 112) 4 (pc := 1) rfl hc4 (by decide) ?_
            refine go_al (pc := 112) rfl (rfl : ai_ld 0 (lv_args 0 [.ref a0, .int a1]) = some (.ref a0)) ?_
            obtain ⟨x13, ex13, hh⟩ := bi_bd hh
            refine go_gfR (pc := 113) rfl ex13 ?_
            obtain ⟨x14, ex14, hh⟩ := bi_bd hh
            refine go_gfR (pc := 116) rfl ex14 ?_
            obtain ⟨x15, ex15, hh⟩ := bi_bd hh
            refine go_gfI (pc := 119) rfl ex15 ?_
            exact go_ri (pc := 122) rfl hh
          · skip
            refine bi_ite hh (fun hc5 hh => ?_) (fun hc5 hh => ?_)
            · refine go_swc (t := 123) 5 (pc := 1) rfl hc5 (by decide) ?_
              refine go_al (pc := 123) rfl (rfl : ai_ld 0 (lv_args 0 [.ref a0, .int a1]) = some (.ref a0)) ?_
              obtain ⟨x16, ex16, hh⟩ := bi_bd hh
              refine go_gfR (pc := 124) rfl ex16 ?_
              obtain ⟨x17, ex17, hh⟩ := bi_bd hh
              refine go_gfI (pc := 127) rfl ex17 ?_
              exact go_ri (pc := 130) rfl hh
            · skip
              refine bi_ite hh (fun hc6 hh => ?_) (fun hc6 hh => ?_)
              · refine go_swc (t := 131) 6 (pc := 1) rfl hc6 (by decide) ?_
                refine go_al (pc := 131) rfl (rfl : ai_ld 0 (lv_args 0 [.ref a0, .int a1]) = some (.ref a0)) ?_
                obtain ⟨x18, ex18, hh⟩ := bi_bd hh
                refine go_gfR (pc := 132) rfl ex18 ?_
                obtain ⟨x19, ex19, hh⟩ := bi_bd hh
                refine go_gfI (pc := 135) rfl ex19 ?_
                obtain ⟨q20, eq20, hh⟩ := bi_bd hh
                refine go_iSI (pc := 138) rfl (Nat.le_of_ble_eq_true rfl) rfl (Nat.le_of_ble_eq_true rfl) (bi_up (sJ6_bitCount_0f7a4 eq20) (Nat.le_of_ble_eq_true rfl)) ?_
                exact go_ri (pc := 141) rfl hh
              · skip
                refine bi_ite hh (fun hc7 hh => ?_) (fun hc7 hh => ?_)
                · refine go_swc (t := 142) 7 (pc := 1) rfl hc7 (by decide) ?_
                  refine go_al (pc := 142) rfl (rfl : ai_ld 0 (lv_args 0 [.ref a0, .int a1]) = some (.ref a0)) ?_
                  obtain ⟨x21, ex21, hh⟩ := bi_bd hh
                  refine go_gfR (pc := 143) rfl ex21 ?_
                  obtain ⟨x22, ex22, hh⟩ := bi_bd hh
                  refine go_gfI (pc := 146) rfl ex22 ?_
                  exact go_ri (pc := 149) rfl hh
                · skip
                  refine bi_ite hh (fun hc8 hh => ?_) (fun hc8 hh => ?_)
                  · refine go_swc (t := 150) 8 (pc := 1) rfl hc8 (by decide) ?_
                    refine go_al (pc := 150) rfl (rfl : ai_ld 0 (lv_args 0 [.ref a0, .int a1]) = some (.ref a0)) ?_
                    obtain ⟨x23, ex23, hh⟩ := bi_bd hh
                    refine go_gfR (pc := 151) rfl ex23 ?_
                    obtain ⟨x24, ex24, hh⟩ := bi_bd hh
                    refine go_gfI (pc := 154) rfl ex24 ?_
                    exact go_ri (pc := 157) rfl hh
                  · skip
                    refine bi_ite hh (fun hc9 hh => ?_) (fun hc9 hh => ?_)
                    · refine go_swc (t := 158) 9 (pc := 1) rfl hc9 (by decide) ?_
                      refine go_al (pc := 158) rfl (rfl : ai_ld 0 (lv_args 0 [.ref a0, .int a1]) = some (.ref a0)) ?_
                      obtain ⟨x25, ex25, hh⟩ := bi_bd hh
                      refine go_gfR (pc := 159) rfl ex25 ?_
                      refine go_al (pc := 162) rfl (rfl : ai_ld 0 (lv_args 0 [.ref a0, .int a1]) = some (.ref a0)) ?_
                      obtain ⟨x26, ex26, hh⟩ := bi_bd hh
                      refine go_gfR (pc := 163) rfl ex26 ?_
                      obtain ⟨x27, ex27, hh⟩ := bi_bd hh
                      refine go_gfI (pc := 166) rfl ex27 ?_
                      obtain ⟨q28, eq28, hh⟩ := bi_bd hh
                      refine go_iSI (pc := 169) rfl (Nat.le_of_ble_eq_true rfl) rfl (Nat.le_of_ble_eq_true rfl) (bi_up (sX9_sets eq28) (Nat.le_of_ble_eq_true rfl)) ?_
                      exact go_ri (pc := 172) rfl hh
                    · skip
                      refine bi_ite hh (fun hc10 hh => ?_) (fun hc10 hh => ?_)
                      · refine go_swc (t := 173) 10 (pc := 1) rfl hc10 (by decide) ?_
                        refine go_al (pc := 173) rfl (rfl : ai_ld 0 (lv_args 0 [.ref a0, .int a1]) = some (.ref a0)) ?_
                        obtain ⟨x29, ex29, hh⟩ := bi_bd hh
                        refine go_gfR (pc := 174) rfl ex29 ?_
                        obtain ⟨x30, ex30, hh⟩ := bi_bd hh
                        refine go_gfI (pc := 177) rfl ex30 ?_
                        exact go_ri (pc := 180) rfl hh
                      · skip
                        refine bi_ite hh (fun hc11 hh => ?_) (fun hc11 hh => ?_)
                        · refine go_swc (t := 181) 11 (pc := 1) rfl hc11 (by decide) ?_
                          refine go_al (pc := 181) rfl (rfl : ai_ld 0 (lv_args 0 [.ref a0, .int a1]) = some (.ref a0)) ?_
                          obtain ⟨x31, ex31, hh⟩ := bi_bd hh
                          refine go_gfR (pc := 182) rfl ex31 ?_
                          obtain ⟨q32, eq32, hh⟩ := bi_bd hh
                          refine go_ivI (pc := 185) rfl rfl (gX4_knownSize eq32) (Nat.le_of_ble_eq_true rfl) (bi_up (sX4_knownSize eq32) (Nat.le_of_ble_eq_true rfl)) ?_
                          exact go_ri (pc := 188) rfl hh
                        · skip
                          refine bi_ite hh (fun hc12 hh => ?_) (fun hc12 hh => ?_)
                          · refine go_swc (t := 189) 12 (pc := 1) rfl hc12 (by decide) ?_
                            refine go_al (pc := 189) rfl (rfl : ai_ld 0 (lv_args 0 [.ref a0, .int a1]) = some (.ref a0)) ?_
                            obtain ⟨x33, ex33, hh⟩ := bi_bd hh
                            refine go_gfI (pc := 190) rfl ex33 ?_
                            exact go_ri (pc := 193) rfl hh
                          · skip
                            refine go_swd (pc := 1) rfl (fun i hi => match i, hi with | 0, _ => Or.inr (lv_neT hc0 (by decide)) | 1, _ => Or.inr (lv_neT hc1 (by decide)) | 2, _ => Or.inr (lv_neT hc2 (by decide)) | 3, _ => Or.inr (lv_neT hc3 (by decide)) | 4, _ => Or.inr (lv_neT hc4 (by decide)) | 5, _ => Or.inr (lv_neT hc5 (by decide)) | 6, _ => Or.inr (lv_neT hc6 (by decide)) | 7, _ => Or.inr (lv_neT hc7 (by decide)) | 8, _ => Or.inr (lv_neT hc8 (by decide)) | 9, _ => Or.inr (lv_neT hc9 (by decide)) | 10, _ => Or.inr (lv_neT hc10 (by decide)) | 11, _ => Or.inr (lv_neT hc11 (by decide)) | 12, _ => Or.inr (lv_neT hc12 (by decide)) | i + 13, hi => absurd hi (Nat.not_lt.mpr (Nat.le_add_left _ _))) ?_
                            refine go_pi (pc := 194) rfl ?_
                            exact go_ri (pc := 195) rfl hh
def fX10_remember_58 (n : Nat) (h : ai_H) (v0 : Nat) : Option (Unit × ai_H) :=
  (pR n h v0 10 9).bind fun x1 =>
  (pI n h v0 10 10).bind fun x2 =>
  (gR n h x1 x2).bind fun x3 =>
  (pR n h v0 10 5).bind fun x4 =>
  (fX5_copyFrom n h x3 x4).bind fun q5 =>
  (pI n q5.2 v0 10 10).bind fun x6 =>
  (sF n q5.2 v0 10 10 (.int) (.int (x6 + (1 : Int32)))).bind fun h7 =>
  some ((), h7)
theorem sX10_remember_58 {n : Nat} {q : Unit × ai_H} {h : ai_H} {v0 : Nat} {lv : ai_L} (l0 : ai_ld 0 lv = some (.ref v0)) (hh : fX10_remember_58 n h v0 = some q) : bi_go 1 tX10_remember n (fV n q) 58 lv [] h := by
  unfold fX10_remember_58 at hh
  refine go_al (pc := 58) rfl l0 ?_
  obtain ⟨x1, ex1, hh⟩ := bi_bd hh
  refine go_gfR (pc := 59) rfl ex1 ?_
  refine go_al (pc := 62) rfl l0 ?_
  obtain ⟨x2, ex2, hh⟩ := bi_bd hh
  refine go_gfI (pc := 63) rfl ex2 ?_
  obtain ⟨x3, ex3, hh⟩ := bi_bd hh
  refine go_aald (pc := 66) rfl ex3 ?_
  refine go_al (pc := 67) rfl l0 ?_
  obtain ⟨x4, ex4, hh⟩ := bi_bd hh
  refine go_gfR (pc := 68) rfl ex4 ?_
  obtain ⟨q5, eq5, hh⟩ := bi_bd hh
  refine go_ivV (pc := 71) rfl rfl (gX5_copyFrom eq5) (Nat.le_of_ble_eq_true rfl) (bi_up (sX5_copyFrom eq5) (Nat.le_of_ble_eq_true rfl)) ?_
  refine go_al (pc := 74) rfl l0 ?_
  refine go_dup (pc := 75) rfl rfl ?_
  obtain ⟨x6, ex6, hh⟩ := bi_bd hh
  refine go_gfI (pc := 76) rfl ex6 ?_
  refine go_pi (pc := 79) rfl ?_
  refine go_iadd (pc := 80) rfl ?_
  obtain ⟨h7, eh7, hh⟩ := bi_bd hh
  refine go_pf (pc := 81) rfl eh7 ?_
  exact go_rv (pc := 84) rfl hh
def fX10_remember_18b (n : Nat) (r18 : ai_H → Nat → Nat → Int32 → Option (Unit × ai_H)) (h : ai_H) (v0 : Nat) (v1 : Nat) (v2 : Int32) : Option (Unit × ai_H) :=
  if (20 : Int32) ≤ v2 then (
    (pR n h v0 10 9).bind fun x1 =>
    (wR n h x1 (19 : Int32) v1).bind fun h2 =>
    (sF n h2 v0 10 10 (.int) (.int (19 : Int32))).bind fun h3 =>
    fX10_remember_58 n h3 v0)
  else (
    (pR n h v0 10 9).bind fun x4 =>
    (pR n h v0 10 9).bind fun x5 =>
    (gR n h x5 v2).bind fun x6 =>
    (wR n h x4 (v2 - (1 : Int32)) x6).bind fun h7 =>
    r18 h7 v0 v1 (v2 + 1))
theorem sX10_remember_18b {n : Nat} {r18 : ai_H → Nat → Nat → Int32 → Option (Unit × ai_H)} {q : Unit × ai_H} {h : ai_H} {v0 : Nat} {v1 : Nat} {v2 : Int32} {lv : ai_L} (R18 : ∀ (h : ai_H) (v0 : Nat) (v1 : Nat) (v2 : Int32) (lv : ai_L), ai_ld 0 lv = some (.ref v0) → ai_ld 1 lv = some (.ref v1) → ai_ld 2 lv = some (.int v2) → r18 h v0 v1 v2 = some q → bi_go 1 tX10_remember n (fV n q) 18 lv [] h) (l0 : ai_ld 0 lv = some (.ref v0)) (l1 : ai_ld 1 lv = some (.ref v1)) (l2 : ai_ld 2 lv = some (.int v2)) (hh : fX10_remember_18b n r18 h v0 v1 v2 = some q) : bi_go 1 tX10_remember n (fV n q) 18 lv [] h := by
  unfold fX10_remember_18b at hh
  refine go_il (pc := 18) rfl l2 ?_
  refine go_pi (pc := 19) rfl ?_
  refine bi_ite hh (fun hc hh => ?_) (fun hc hh => ?_)
  · refine go_cmpgeT (pc := 21) rfl hc ?_
    refine go_al (pc := 44) rfl l0 ?_
    obtain ⟨x1, ex1, hh⟩ := bi_bd hh
    refine go_gfR (pc := 45) rfl ex1 ?_
    refine go_pi (pc := 48) rfl ?_
    refine go_al (pc := 50) rfl l1 ?_
    obtain ⟨h2, eh2, hh⟩ := bi_bd hh
    refine go_aast (pc := 51) rfl eh2 ?_
    refine go_al (pc := 52) rfl l0 ?_
    refine go_pi (pc := 53) rfl ?_
    obtain ⟨h3, eh3, hh⟩ := bi_bd hh
    refine go_pf (pc := 55) rfl eh3 ?_
    exact sX10_remember_58  l0 hh
  · refine go_cmpgeF (pc := 21) rfl hc ?_
    refine go_al (pc := 24) rfl l0 ?_
    obtain ⟨x4, ex4, hh⟩ := bi_bd hh
    refine go_gfR (pc := 25) rfl ex4 ?_
    refine go_il (pc := 28) rfl l2 ?_
    refine go_pi (pc := 29) rfl ?_
    refine go_isub (pc := 30) rfl ?_
    refine go_al (pc := 31) rfl l0 ?_
    obtain ⟨x5, ex5, hh⟩ := bi_bd hh
    refine go_gfR (pc := 32) rfl ex5 ?_
    refine go_il (pc := 35) rfl l2 ?_
    obtain ⟨x6, ex6, hh⟩ := bi_bd hh
    refine go_aald (pc := 36) rfl ex6 ?_
    obtain ⟨h7, eh7, hh⟩ := bi_bd hh
    refine go_aast (pc := 37) rfl eh7 ?_
    refine go_inc (pc := 38) rfl l2 ?_
    refine go_goto (pc := 41) rfl ?_
    exact R18 _ _ _ _ _ (bi_k1 l0 rfl rfl) (bi_k1 l1 rfl rfl) bi_e1 hh
def fX10_remember_18 (n : Nat) : Nat → ai_H → Nat → Nat → Int32 → Option (Unit × ai_H)
  | 0 => fun _ _ _ _ => none
  | k + 1 => fun h v0 v1 v2 => fX10_remember_18b n (fX10_remember_18 n k) h v0 v1 v2
theorem sX10_remember_18 {n : Nat} {q : Unit × ai_H} : ∀ (k : Nat) (h : ai_H) (v0 : Nat) (v1 : Nat) (v2 : Int32) (lv : ai_L), ai_ld 0 lv = some (.ref v0) → ai_ld 1 lv = some (.ref v1) → ai_ld 2 lv = some (.int v2) → fX10_remember_18 n k h v0 v1 v2 = some q → bi_go 1 tX10_remember n (fV n q) 18 lv [] h
  | 0 => fun _ _ _ _ _ _ _ _ hh => by cases hh
  | k + 1 => fun h v0 v1 v2 lv l0 l1 l2 hh => sX10_remember_18b  (sX10_remember_18  k) l0 l1 l2 hh
def fX10_remember (n : Nat) (h : ai_H) (a0 : Nat) : Option (Unit × ai_H) :=
  (kO n h a0 10).bind fun _ =>
  (pI n h a0 10 10).bind fun x1 =>
  if x1 < (20 : Int32) then (
    fX10_remember_58 n h a0)
  else (
    (pR n h a0 10 9).bind fun x2 =>
    (gR n h x2 (0 : Int32)).bind fun x3 =>
    fX10_remember_18 n bi_K h a0 x3 (1 : Int32))
theorem gX10_remember {n : Nat} {h : ai_H} {a0 : Nat} {q : Unit × ai_H} (hh : fX10_remember n h a0 = some q) : kO n h a0 10 = some () := by
  obtain ⟨_, e, -⟩ := bi_bd hh
  exact e
theorem sX10_remember {n : Nat} {h : ai_H} {a0 : Nat} {q : Unit × ai_H} (hh : fX10_remember n h a0 = some q) : bi_sp 2 106 [.ref a0] h n (fV n q) := by
  refine bi_en (D := 1) (T := tX10_remember) (funext fun pc => rfl) rfl (Nat.le_of_ble_eq_true rfl) ?_
  unfold fX10_remember at hh
  obtain ⟨_, eO, hh⟩ := bi_bd hh
  refine go_al (pc := 0) rfl (rfl : ai_ld 0 (lv_args 0 [.ref a0]) = some (.ref a0)) ?_
  obtain ⟨x1, ex1, hh⟩ := bi_bd hh
  refine go_gfI (pc := 1) rfl ex1 ?_
  refine go_pi (pc := 4) rfl ?_
  refine bi_ite hh (fun hc hh => ?_) (fun hc hh => ?_)
  · refine go_cmpltT (pc := 6) rfl hc ?_
    exact sX10_remember_58  (rfl : ai_ld 0 (lv_args 0 [.ref a0]) = some (.ref a0)) hh
  · refine go_cmpltF (pc := 6) rfl hc ?_
    refine go_al (pc := 9) rfl (rfl : ai_ld 0 (lv_args 0 [.ref a0]) = some (.ref a0)) ?_
    obtain ⟨x2, ex2, hh⟩ := bi_bd hh
    refine go_gfR (pc := 10) rfl ex2 ?_
    refine go_pi (pc := 13) rfl ?_
    obtain ⟨x3, ex3, hh⟩ := bi_bd hh
    refine go_aald (pc := 14) rfl ex3 ?_
    refine go_as (pc := 15) rfl ?_
    refine go_pi (pc := 16) rfl ?_
    refine go_is (pc := 17) rfl ?_
    exact sX10_remember_18  _ _ _ _ _ _ (bi_k1 (bi_k1 (rfl : ai_ld 0 (lv_args 0 [.ref a0]) = some (.ref a0)) rfl rfl) rfl rfl) (bi_k1 bi_e1 rfl rfl) bi_e1 hh
def fX10_walk (n : Nat) (h : ai_H) (a0 : Nat) (a1 : Int32) (a2 : Int32) : Option (Int32 × ai_H) :=
  (kO n h a0 10).bind fun _ =>
  (fX10_isWalker n h a0 a1).bind fun q1 =>
  if q1.1 = 0 then (
    some ((-1 : Int32), q1.2))
  else (
    (fX10_isPath n q1.2 a0 a2).bind fun q2 =>
    if ¬ q2.1 = 0 then (
      (pR n q2.2 a0 10 11).bind fun x3 =>
      (pR n q2.2 a0 10 3).bind fun x4 =>
      (pR n q2.2 a0 10 5).bind fun x5 =>
      (fX0_begin n q2.2 x3 x4 x5 (0 : Int32)).bind fun q6 =>
      (pR n q6.2 a0 10 11).bind fun x7 =>
      (fX0_costIfHeCan n q6.2 x7 a1 a2).bind fun q8 =>
      if 0 ≤ q8.1 then (
        (fX10_remember n q8.2 a0).bind fun q9 =>
        (pR n q9.2 a0 10 11).bind fun x10 =>
        (fX0_goWhole n q9.2 x10 a1 a2 q8.1).bind fun q11 =>
        (pR n q11.2 a0 10 5).bind fun x12 =>
        (pR n q11.2 x12 5 8).bind fun x13 =>
        (gX 1 n q11.2 x13 a1).bind fun x14 =>
        some (x14, q11.2))
      else (
        some ((-2 : Int32), q8.2)))
    else (
      some ((-1 : Int32), q2.2)))
theorem gX10_walk {n : Nat} {h : ai_H} {a0 : Nat} {a1 : Int32} {a2 : Int32} {q : Int32 × ai_H} (hh : fX10_walk n h a0 a1 a2 = some q) : kO n h a0 10 = some () := by
  obtain ⟨_, e, -⟩ := bi_bd hh
  exact e
theorem sX10_walk {n : Nat} {h : ai_H} {a0 : Nat} {a1 : Int32} {a2 : Int32} {q : Int32 × ai_H} (hh : fX10_walk n h a0 a1 a2 = some q) : bi_sp 4 103 [.ref a0, .int a1, .int a2] h n (fI n q) := by
  refine bi_en (D := 3) (T := tX10_walk) (funext fun pc => rfl) rfl (Nat.le_of_ble_eq_true rfl) ?_
  unfold fX10_walk at hh
  obtain ⟨_, eO, hh⟩ := bi_bd hh
  refine go_al (pc := 0) rfl (rfl : ai_ld 0 (lv_args 0 [.ref a0, .int a1, .int a2]) = some (.ref a0)) ?_
  refine go_il (pc := 1) rfl (rfl : ai_ld 1 (lv_args 0 [.ref a0, .int a1, .int a2]) = some (.int a1)) ?_
  obtain ⟨q1, eq1, hh⟩ := bi_bd hh
  refine go_ivI (pc := 2) rfl rfl (gX10_isWalker eq1) (Nat.le_of_ble_eq_true rfl) (bi_up (sX10_isWalker eq1) (Nat.le_of_ble_eq_true rfl)) ?_
  refine bi_ite hh (fun hc hh => ?_) (fun hc hh => ?_)
  · refine go_ifeqT (pc := 5) rfl hc ?_
    refine go_pi (pc := 16) rfl ?_
    exact go_ri (pc := 17) rfl hh
  · refine go_ifeqF (pc := 5) rfl hc ?_
    refine go_al (pc := 8) rfl (rfl : ai_ld 0 (lv_args 0 [.ref a0, .int a1, .int a2]) = some (.ref a0)) ?_
    refine go_il (pc := 9) rfl (rfl : ai_ld 2 (lv_args 0 [.ref a0, .int a1, .int a2]) = some (.int a2)) ?_
    obtain ⟨q2, eq2, hh⟩ := bi_bd hh
    refine go_ivI (pc := 10) rfl rfl (gX10_isPath eq2) (Nat.le_of_ble_eq_true rfl) (bi_up (sX10_isPath eq2) (Nat.le_of_ble_eq_true rfl)) ?_
    refine bi_ite hh (fun hc hh => ?_) (fun hc hh => ?_)
    · refine go_ifneT (pc := 13) rfl hc ?_
      refine go_al (pc := 18) rfl (rfl : ai_ld 0 (lv_args 0 [.ref a0, .int a1, .int a2]) = some (.ref a0)) ?_
      obtain ⟨x3, ex3, hh⟩ := bi_bd hh
      refine go_gfR (pc := 19) rfl ex3 ?_
      refine go_al (pc := 22) rfl (rfl : ai_ld 0 (lv_args 0 [.ref a0, .int a1, .int a2]) = some (.ref a0)) ?_
      obtain ⟨x4, ex4, hh⟩ := bi_bd hh
      refine go_gfR (pc := 23) rfl ex4 ?_
      refine go_al (pc := 26) rfl (rfl : ai_ld 0 (lv_args 0 [.ref a0, .int a1, .int a2]) = some (.ref a0)) ?_
      obtain ⟨x5, ex5, hh⟩ := bi_bd hh
      refine go_gfR (pc := 27) rfl ex5 ?_
      refine go_pi (pc := 30) rfl ?_
      obtain ⟨q6, eq6, hh⟩ := bi_bd hh
      refine go_ivV (pc := 31) rfl rfl (gX0_begin eq6) (Nat.le_of_ble_eq_true rfl) (bi_up (sX0_begin eq6) (Nat.le_of_ble_eq_true rfl)) ?_
      refine go_al (pc := 34) rfl (rfl : ai_ld 0 (lv_args 0 [.ref a0, .int a1, .int a2]) = some (.ref a0)) ?_
      obtain ⟨x7, ex7, hh⟩ := bi_bd hh
      refine go_gfR (pc := 35) rfl ex7 ?_
      refine go_il (pc := 38) rfl (rfl : ai_ld 1 (lv_args 0 [.ref a0, .int a1, .int a2]) = some (.int a1)) ?_
      refine go_il (pc := 39) rfl (rfl : ai_ld 2 (lv_args 0 [.ref a0, .int a1, .int a2]) = some (.int a2)) ?_
      obtain ⟨q8, eq8, hh⟩ := bi_bd hh
      refine go_ivI (pc := 40) rfl rfl (gX0_costIfHeCan eq8) (Nat.le_of_ble_eq_true rfl) (bi_up (sX0_costIfHeCan eq8) (Nat.le_of_ble_eq_true rfl)) ?_
      refine go_is (pc := 43) rfl ?_
      refine go_il (pc := 44) rfl bi_e1 ?_
      refine bi_ite hh (fun hc hh => ?_) (fun hc hh => ?_)
      · refine go_ifgeT (pc := 45) rfl hc ?_
        refine go_al (pc := 51) rfl (bi_k1 (rfl : ai_ld 0 (lv_args 0 [.ref a0, .int a1, .int a2]) = some (.ref a0)) rfl rfl) ?_
        obtain ⟨q9, eq9, hh⟩ := bi_bd hh
        refine go_ivV (pc := 52) rfl rfl (gX10_remember eq9) (Nat.le_of_ble_eq_true rfl) (bi_up (sX10_remember eq9) (Nat.le_of_ble_eq_true rfl)) ?_
        refine go_al (pc := 55) rfl (bi_k1 (rfl : ai_ld 0 (lv_args 0 [.ref a0, .int a1, .int a2]) = some (.ref a0)) rfl rfl) ?_
        obtain ⟨x10, ex10, hh⟩ := bi_bd hh
        refine go_gfR (pc := 56) rfl ex10 ?_
        refine go_il (pc := 59) rfl (bi_k1 (rfl : ai_ld 1 (lv_args 0 [.ref a0, .int a1, .int a2]) = some (.int a1)) rfl rfl) ?_
        refine go_il (pc := 60) rfl (bi_k1 (rfl : ai_ld 2 (lv_args 0 [.ref a0, .int a1, .int a2]) = some (.int a2)) rfl rfl) ?_
        refine go_il (pc := 61) rfl bi_e1 ?_
        obtain ⟨q11, eq11, hh⟩ := bi_bd hh
        refine go_ivV (pc := 62) rfl rfl (gX0_goWhole eq11) (Nat.le_of_ble_eq_true rfl) (bi_up (sX0_goWhole eq11) (Nat.le_of_ble_eq_true rfl)) ?_
        refine go_al (pc := 65) rfl (bi_k1 (rfl : ai_ld 0 (lv_args 0 [.ref a0, .int a1, .int a2]) = some (.ref a0)) rfl rfl) ?_
        obtain ⟨x12, ex12, hh⟩ := bi_bd hh
        refine go_gfR (pc := 66) rfl ex12 ?_
        obtain ⟨x13, ex13, hh⟩ := bi_bd hh
        refine go_gfR (pc := 69) rfl ex13 ?_
        refine go_il (pc := 72) rfl (bi_k1 (rfl : ai_ld 1 (lv_args 0 [.ref a0, .int a1, .int a2]) = some (.int a1)) rfl rfl) ?_
        obtain ⟨x14, ex14, hh⟩ := bi_bd hh
        refine go_iald (pc := 73) rfl ex14 ?_
        exact go_ri (pc := 74) rfl hh
      · refine go_ifgeF (pc := 45) rfl hc ?_
        refine go_pi (pc := 48) rfl ?_
        exact go_ri (pc := 50) rfl hh
    · refine go_ifneF (pc := 13) rfl hc ?_
      refine go_pi (pc := 16) rfl ?_
      exact go_ri (pc := 17) rfl hh
def fX10_mow_33 (n : Nat) (h : ai_H) (v0 : Nat) (v1 : Int32) : Option (Int32 × ai_H) :=
  (fX10_remember n h v0).bind fun q1 =>
  (pR n q1.2 v0 10 5).bind fun x2 =>
  (pI n q1.2 x2 5 4).bind fun x3 =>
  (sF n q1.2 x2 5 4 (.int) (.int (x3 ||| ((1 : Int32) <<< (v1 &&& 31))))).bind fun h4 =>
  (pR n h4 v0 10 5).bind fun x5 =>
  (pR n h4 x5 5 5).bind fun x6 =>
  (wX 1 (fun x => x) n h4 x6 v1 (0 : Int32)).bind fun h7 =>
  some ((1 : Int32), h7)
theorem sX10_mow_33 {n : Nat} {q : Int32 × ai_H} {h : ai_H} {v0 : Nat} {v1 : Int32} {lv : ai_L} (l0 : ai_ld 0 lv = some (.ref v0)) (l1 : ai_ld 1 lv = some (.int v1)) (hh : fX10_mow_33 n h v0 v1 = some q) : bi_go 2 tX10_mow n (fI n q) 33 lv [] h := by
  unfold fX10_mow_33 at hh
  refine go_al (pc := 33) rfl l0 ?_
  obtain ⟨q1, eq1, hh⟩ := bi_bd hh
  refine go_ivV (pc := 34) rfl rfl (gX10_remember eq1) (Nat.le_of_ble_eq_true rfl) (bi_up (sX10_remember eq1) (Nat.le_of_ble_eq_true rfl)) ?_
  refine go_al (pc := 37) rfl l0 ?_
  obtain ⟨x2, ex2, hh⟩ := bi_bd hh
  refine go_gfR (pc := 38) rfl ex2 ?_
  refine go_dup (pc := 41) rfl rfl ?_
  obtain ⟨x3, ex3, hh⟩ := bi_bd hh
  refine go_gfI (pc := 42) rfl ex3 ?_
  refine go_pi (pc := 45) rfl ?_
  refine go_il (pc := 46) rfl l1 ?_
  refine go_ishl (pc := 47) rfl ?_
  refine go_ior (pc := 48) rfl ?_
  obtain ⟨h4, eh4, hh⟩ := bi_bd hh
  refine go_pf (pc := 49) rfl eh4 ?_
  refine go_al (pc := 52) rfl l0 ?_
  obtain ⟨x5, ex5, hh⟩ := bi_bd hh
  refine go_gfR (pc := 53) rfl ex5 ?_
  obtain ⟨x6, ex6, hh⟩ := bi_bd hh
  refine go_gfR (pc := 56) rfl ex6 ?_
  refine go_il (pc := 59) rfl l1 ?_
  refine go_pi (pc := 60) rfl ?_
  obtain ⟨h7, eh7, hh⟩ := bi_bd hh
  refine go_iast (pc := 61) rfl eh7 ?_
  refine go_pi (pc := 62) rfl ?_
  exact go_rz (pc := 63) rfl bi_z1 hh
def fX10_mow (n : Nat) (h : ai_H) (a0 : Nat) (a1 : Int32) : Option (Int32 × ai_H) :=
  (kO n h a0 10).bind fun _ =>
  (fX10_isPath n h a0 a1).bind fun q1 =>
  if q1.1 = 0 then (
    some ((0 : Int32), q1.2))
  else (
    (pR n q1.2 a0 10 5).bind fun x2 =>
    (fX5_isKept n q1.2 x2 a1).bind fun q3 =>
    if q3.1 = 0 then (
      fX10_mow_33 n q3.2 a0 a1)
    else (
      (pR n q3.2 a0 10 5).bind fun x4 =>
      (pR n q3.2 x4 5 5).bind fun x5 =>
      (gX 1 n q3.2 x5 a1).bind fun x6 =>
      if ¬ x6 = 0 then (
        fX10_mow_33 n q3.2 a0 a1)
      else (
        some ((0 : Int32), q3.2))))
theorem gX10_mow {n : Nat} {h : ai_H} {a0 : Nat} {a1 : Int32} {q : Int32 × ai_H} (hh : fX10_mow n h a0 a1 = some q) : kO n h a0 10 = some () := by
  obtain ⟨_, e, -⟩ := bi_bd hh
  exact e
theorem sX10_mow {n : Nat} {h : ai_H} {a0 : Nat} {a1 : Int32} {q : Int32 × ai_H} (hh : fX10_mow n h a0 a1 = some q) : bi_sp 3 104 [.ref a0, .int a1] h n (fI n q) := by
  refine bi_en (D := 2) (T := tX10_mow) (funext fun pc => rfl) rfl (Nat.le_of_ble_eq_true rfl) ?_
  unfold fX10_mow at hh
  obtain ⟨_, eO, hh⟩ := bi_bd hh
  refine go_al (pc := 0) rfl (rfl : ai_ld 0 (lv_args 0 [.ref a0, .int a1]) = some (.ref a0)) ?_
  refine go_il (pc := 1) rfl (rfl : ai_ld 1 (lv_args 0 [.ref a0, .int a1]) = some (.int a1)) ?_
  obtain ⟨q1, eq1, hh⟩ := bi_bd hh
  refine go_ivI (pc := 2) rfl rfl (gX10_isPath eq1) (Nat.le_of_ble_eq_true rfl) (bi_up (sX10_isPath eq1) (Nat.le_of_ble_eq_true rfl)) ?_
  refine bi_ite hh (fun hc hh => ?_) (fun hc hh => ?_)
  · refine go_ifeqT (pc := 5) rfl hc ?_
    refine go_pi (pc := 31) rfl ?_
    exact go_rz (pc := 32) rfl bi_z0 hh
  · refine go_ifeqF (pc := 5) rfl hc ?_
    refine go_al (pc := 8) rfl (rfl : ai_ld 0 (lv_args 0 [.ref a0, .int a1]) = some (.ref a0)) ?_
    obtain ⟨x2, ex2, hh⟩ := bi_bd hh
    refine go_gfR (pc := 9) rfl ex2 ?_
    refine go_il (pc := 12) rfl (rfl : ai_ld 1 (lv_args 0 [.ref a0, .int a1]) = some (.int a1)) ?_
    obtain ⟨q3, eq3, hh⟩ := bi_bd hh
    refine go_ivI (pc := 13) rfl rfl (gX5_isKept eq3) (Nat.le_of_ble_eq_true rfl) (bi_up (sX5_isKept eq3) (Nat.le_of_ble_eq_true rfl)) ?_
    refine bi_ite hh (fun hc hh => ?_) (fun hc hh => ?_)
    · refine go_ifeqT (pc := 16) rfl hc ?_
      exact sX10_mow_33  (rfl : ai_ld 0 (lv_args 0 [.ref a0, .int a1]) = some (.ref a0)) (rfl : ai_ld 1 (lv_args 0 [.ref a0, .int a1]) = some (.int a1)) hh
    · refine go_ifeqF (pc := 16) rfl hc ?_
      refine go_al (pc := 19) rfl (rfl : ai_ld 0 (lv_args 0 [.ref a0, .int a1]) = some (.ref a0)) ?_
      obtain ⟨x4, ex4, hh⟩ := bi_bd hh
      refine go_gfR (pc := 20) rfl ex4 ?_
      obtain ⟨x5, ex5, hh⟩ := bi_bd hh
      refine go_gfR (pc := 23) rfl ex5 ?_
      refine go_il (pc := 26) rfl (rfl : ai_ld 1 (lv_args 0 [.ref a0, .int a1]) = some (.int a1)) ?_
      obtain ⟨x6, ex6, hh⟩ := bi_bd hh
      refine go_iald (pc := 27) rfl ex6 ?_
      refine bi_ite hh (fun hc hh => ?_) (fun hc hh => ?_)
      · refine go_ifneT (pc := 28) rfl hc ?_
        exact sX10_mow_33  (rfl : ai_ld 0 (lv_args 0 [.ref a0, .int a1]) = some (.ref a0)) (rfl : ai_ld 1 (lv_args 0 [.ref a0, .int a1]) = some (.int a1)) hh
      · refine go_ifneF (pc := 28) rfl hc ?_
        refine go_pi (pc := 31) rfl ?_
        exact go_rz (pc := 32) rfl bi_z0 hh
def fX10_carry (n : Nat) (h : ai_H) (a0 : Nat) (a1 : Int32) (a2 : Int32) : Option (Int32 × ai_H) :=
  (kO n h a0 10).bind fun _ =>
  (fX10_isWalker n h a0 a1).bind fun q1 =>
  if q1.1 = 0 then (
    some ((0 : Int32), q1.2))
  else (
    (fX10_isPlace n q1.2 a0 a2).bind fun q2 =>
    if q2.1 = 0 then (
      some ((0 : Int32), q2.2))
    else (
      (pR n q2.2 a0 10 5).bind fun x3 =>
      (pR n q2.2 x3 5 7).bind fun x4 =>
      (gX 1 n q2.2 x4 a1).bind fun x5 =>
      if ¬ x5 = a2 then (
        (fX10_remember n q2.2 a0).bind fun q6 =>
        (pR n q6.2 a0 10 5).bind fun x7 =>
        (pR n q6.2 x7 5 7).bind fun x8 =>
        (wX 1 (fun x => x) n q6.2 x8 a1 a2).bind fun h9 =>
        some ((1 : Int32), h9))
      else (
        some ((0 : Int32), q2.2))))
theorem gX10_carry {n : Nat} {h : ai_H} {a0 : Nat} {a1 : Int32} {a2 : Int32} {q : Int32 × ai_H} (hh : fX10_carry n h a0 a1 a2 = some q) : kO n h a0 10 = some () := by
  obtain ⟨_, e, -⟩ := bi_bd hh
  exact e
theorem sX10_carry {n : Nat} {h : ai_H} {a0 : Nat} {a1 : Int32} {a2 : Int32} {q : Int32 × ai_H} (hh : fX10_carry n h a0 a1 a2 = some q) : bi_sp 3 105 [.ref a0, .int a1, .int a2] h n (fI n q) := by
  refine bi_en (D := 2) (T := tX10_carry) (funext fun pc => rfl) rfl (Nat.le_of_ble_eq_true rfl) ?_
  unfold fX10_carry at hh
  obtain ⟨_, eO, hh⟩ := bi_bd hh
  refine go_al (pc := 0) rfl (rfl : ai_ld 0 (lv_args 0 [.ref a0, .int a1, .int a2]) = some (.ref a0)) ?_
  refine go_il (pc := 1) rfl (rfl : ai_ld 1 (lv_args 0 [.ref a0, .int a1, .int a2]) = some (.int a1)) ?_
  obtain ⟨q1, eq1, hh⟩ := bi_bd hh
  refine go_ivI (pc := 2) rfl rfl (gX10_isWalker eq1) (Nat.le_of_ble_eq_true rfl) (bi_up (sX10_isWalker eq1) (Nat.le_of_ble_eq_true rfl)) ?_
  refine bi_ite hh (fun hc hh => ?_) (fun hc hh => ?_)
  · refine go_ifeqT (pc := 5) rfl hc ?_
    refine go_pi (pc := 29) rfl ?_
    exact go_rz (pc := 30) rfl bi_z0 hh
  · refine go_ifeqF (pc := 5) rfl hc ?_
    refine go_al (pc := 8) rfl (rfl : ai_ld 0 (lv_args 0 [.ref a0, .int a1, .int a2]) = some (.ref a0)) ?_
    refine go_il (pc := 9) rfl (rfl : ai_ld 2 (lv_args 0 [.ref a0, .int a1, .int a2]) = some (.int a2)) ?_
    obtain ⟨q2, eq2, hh⟩ := bi_bd hh
    refine go_ivI (pc := 10) rfl rfl (gX10_isPlace eq2) (Nat.le_of_ble_eq_true rfl) (bi_up (sX10_isPlace eq2) (Nat.le_of_ble_eq_true rfl)) ?_
    refine bi_ite hh (fun hc hh => ?_) (fun hc hh => ?_)
    · refine go_ifeqT (pc := 13) rfl hc ?_
      refine go_pi (pc := 29) rfl ?_
      exact go_rz (pc := 30) rfl bi_z0 hh
    · refine go_ifeqF (pc := 13) rfl hc ?_
      refine go_al (pc := 16) rfl (rfl : ai_ld 0 (lv_args 0 [.ref a0, .int a1, .int a2]) = some (.ref a0)) ?_
      obtain ⟨x3, ex3, hh⟩ := bi_bd hh
      refine go_gfR (pc := 17) rfl ex3 ?_
      obtain ⟨x4, ex4, hh⟩ := bi_bd hh
      refine go_gfR (pc := 20) rfl ex4 ?_
      refine go_il (pc := 23) rfl (rfl : ai_ld 1 (lv_args 0 [.ref a0, .int a1, .int a2]) = some (.int a1)) ?_
      obtain ⟨x5, ex5, hh⟩ := bi_bd hh
      refine go_iald (pc := 24) rfl ex5 ?_
      refine go_il (pc := 25) rfl (rfl : ai_ld 2 (lv_args 0 [.ref a0, .int a1, .int a2]) = some (.int a2)) ?_
      refine bi_ite hh (fun hc hh => ?_) (fun hc hh => ?_)
      · refine go_cmpneT (pc := 26) rfl hc ?_
        refine go_al (pc := 31) rfl (rfl : ai_ld 0 (lv_args 0 [.ref a0, .int a1, .int a2]) = some (.ref a0)) ?_
        obtain ⟨q6, eq6, hh⟩ := bi_bd hh
        refine go_ivV (pc := 32) rfl rfl (gX10_remember eq6) (Nat.le_of_ble_eq_true rfl) (bi_up (sX10_remember eq6) (Nat.le_of_ble_eq_true rfl)) ?_
        refine go_al (pc := 35) rfl (rfl : ai_ld 0 (lv_args 0 [.ref a0, .int a1, .int a2]) = some (.ref a0)) ?_
        obtain ⟨x7, ex7, hh⟩ := bi_bd hh
        refine go_gfR (pc := 36) rfl ex7 ?_
        obtain ⟨x8, ex8, hh⟩ := bi_bd hh
        refine go_gfR (pc := 39) rfl ex8 ?_
        refine go_il (pc := 42) rfl (rfl : ai_ld 1 (lv_args 0 [.ref a0, .int a1, .int a2]) = some (.int a1)) ?_
        refine go_il (pc := 43) rfl (rfl : ai_ld 2 (lv_args 0 [.ref a0, .int a1, .int a2]) = some (.int a2)) ?_
        obtain ⟨h9, eh9, hh⟩ := bi_bd hh
        refine go_iast (pc := 44) rfl eh9 ?_
        refine go_pi (pc := 45) rfl ?_
        exact go_rz (pc := 46) rfl bi_z1 hh
      · refine go_cmpneF (pc := 26) rfl hc ?_
        refine go_pi (pc := 29) rfl ?_
        exact go_rz (pc := 30) rfl bi_z0 hh
def fX10_undo (n : Nat) (h : ai_H) (a0 : Nat) : Option (Int32 × ai_H) :=
  (kO n h a0 10).bind fun _ =>
  (pI n h a0 10 10).bind fun x1 =>
  if 0 < x1 then (
    (pI n h a0 10 10).bind fun x2 =>
    (sF n h a0 10 10 (.int) (.int (x2 - (1 : Int32)))).bind fun h3 =>
    (pR n h3 a0 10 5).bind fun x4 =>
    (pR n h3 a0 10 9).bind fun x5 =>
    (pI n h3 a0 10 10).bind fun x6 =>
    (gR n h3 x5 x6).bind fun x7 =>
    (fX5_copyFrom n h3 x4 x7).bind fun q8 =>
    (pI n q8.2 a0 10 10).bind fun x9 =>
    some (x9, q8.2))
  else (
    some ((-1 : Int32), h))
theorem gX10_undo {n : Nat} {h : ai_H} {a0 : Nat} {q : Int32 × ai_H} (hh : fX10_undo n h a0 = some q) : kO n h a0 10 = some () := by
  obtain ⟨_, e, -⟩ := bi_bd hh
  exact e
theorem sX10_undo {n : Nat} {h : ai_H} {a0 : Nat} {q : Int32 × ai_H} (hh : fX10_undo n h a0 = some q) : bi_sp 2 107 [.ref a0] h n (fI n q) := by
  refine bi_en (D := 1) (T := tX10_undo) (funext fun pc => rfl) rfl (Nat.le_of_ble_eq_true rfl) ?_
  unfold fX10_undo at hh
  obtain ⟨_, eO, hh⟩ := bi_bd hh
  refine go_al (pc := 0) rfl (rfl : ai_ld 0 (lv_args 0 [.ref a0]) = some (.ref a0)) ?_
  obtain ⟨x1, ex1, hh⟩ := bi_bd hh
  refine go_gfI (pc := 1) rfl ex1 ?_
  refine bi_ite hh (fun hc hh => ?_) (fun hc hh => ?_)
  · refine go_ifgtT (pc := 4) rfl hc ?_
    refine go_al (pc := 9) rfl (rfl : ai_ld 0 (lv_args 0 [.ref a0]) = some (.ref a0)) ?_
    refine go_dup (pc := 10) rfl rfl ?_
    obtain ⟨x2, ex2, hh⟩ := bi_bd hh
    refine go_gfI (pc := 11) rfl ex2 ?_
    refine go_pi (pc := 14) rfl ?_
    refine go_isub (pc := 15) rfl ?_
    obtain ⟨h3, eh3, hh⟩ := bi_bd hh
    refine go_pf (pc := 16) rfl eh3 ?_
    refine go_al (pc := 19) rfl (rfl : ai_ld 0 (lv_args 0 [.ref a0]) = some (.ref a0)) ?_
    obtain ⟨x4, ex4, hh⟩ := bi_bd hh
    refine go_gfR (pc := 20) rfl ex4 ?_
    refine go_al (pc := 23) rfl (rfl : ai_ld 0 (lv_args 0 [.ref a0]) = some (.ref a0)) ?_
    obtain ⟨x5, ex5, hh⟩ := bi_bd hh
    refine go_gfR (pc := 24) rfl ex5 ?_
    refine go_al (pc := 27) rfl (rfl : ai_ld 0 (lv_args 0 [.ref a0]) = some (.ref a0)) ?_
    obtain ⟨x6, ex6, hh⟩ := bi_bd hh
    refine go_gfI (pc := 28) rfl ex6 ?_
    obtain ⟨x7, ex7, hh⟩ := bi_bd hh
    refine go_aald (pc := 31) rfl ex7 ?_
    obtain ⟨q8, eq8, hh⟩ := bi_bd hh
    refine go_ivV (pc := 32) rfl rfl (gX5_copyFrom eq8) (Nat.le_of_ble_eq_true rfl) (bi_up (sX5_copyFrom eq8) (Nat.le_of_ble_eq_true rfl)) ?_
    refine go_al (pc := 35) rfl (rfl : ai_ld 0 (lv_args 0 [.ref a0]) = some (.ref a0)) ?_
    obtain ⟨x9, ex9, hh⟩ := bi_bd hh
    refine go_gfI (pc := 36) rfl ex9 ?_
    exact go_ri (pc := 39) rfl hh
  · refine go_ifgtF (pc := 4) rfl hc ?_
    refine go_pi (pc := 7) rfl ?_
    exact go_ri (pc := 8) rfl hh
def fX10_keep (n : Nat) (h : ai_H) (a0 : Nat) : Option (Int32 × ai_H) :=
  (kO n h a0 10).bind fun _ =>
  (pR n h a0 10 7).bind fun x1 =>
  (pR n h a0 10 5).bind fun x2 =>
  (fX5_copyFrom n h x1 x2).bind fun q3 =>
  (sF n q3.2 a0 10 8 (.boolean) (.int (1 : Int32))).bind fun h4 =>
  (pR n h4 a0 10 5).bind fun x5 =>
  (pI n h4 x5 5 0).bind fun x6 =>
  some (x6, h4)
theorem gX10_keep {n : Nat} {h : ai_H} {a0 : Nat} {q : Int32 × ai_H} (hh : fX10_keep n h a0 = some q) : kO n h a0 10 = some () := by
  obtain ⟨_, e, -⟩ := bi_bd hh
  exact e
theorem sX10_keep {n : Nat} {h : ai_H} {a0 : Nat} {q : Int32 × ai_H} (hh : fX10_keep n h a0 = some q) : bi_sp 2 108 [.ref a0] h n (fI n q) := by
  refine bi_en (D := 1) (T := tX10_keep) (funext fun pc => rfl) rfl (Nat.le_of_ble_eq_true rfl) ?_
  unfold fX10_keep at hh
  obtain ⟨_, eO, hh⟩ := bi_bd hh
  refine go_al (pc := 0) rfl (rfl : ai_ld 0 (lv_args 0 [.ref a0]) = some (.ref a0)) ?_
  obtain ⟨x1, ex1, hh⟩ := bi_bd hh
  refine go_gfR (pc := 1) rfl ex1 ?_
  refine go_al (pc := 4) rfl (rfl : ai_ld 0 (lv_args 0 [.ref a0]) = some (.ref a0)) ?_
  obtain ⟨x2, ex2, hh⟩ := bi_bd hh
  refine go_gfR (pc := 5) rfl ex2 ?_
  obtain ⟨q3, eq3, hh⟩ := bi_bd hh
  refine go_ivV (pc := 8) rfl rfl (gX5_copyFrom eq3) (Nat.le_of_ble_eq_true rfl) (bi_up (sX5_copyFrom eq3) (Nat.le_of_ble_eq_true rfl)) ?_
  refine go_al (pc := 11) rfl (rfl : ai_ld 0 (lv_args 0 [.ref a0]) = some (.ref a0)) ?_
  refine go_pi (pc := 12) rfl ?_
  obtain ⟨h4, eh4, hh⟩ := bi_bd hh
  refine go_pf (pc := 13) rfl eh4 ?_
  refine go_al (pc := 16) rfl (rfl : ai_ld 0 (lv_args 0 [.ref a0]) = some (.ref a0)) ?_
  obtain ⟨x5, ex5, hh⟩ := bi_bd hh
  refine go_gfR (pc := 17) rfl ex5 ?_
  obtain ⟨x6, ex6, hh⟩ := bi_bd hh
  refine go_gfI (pc := 20) rfl ex6 ?_
  exact go_ri (pc := 23) rfl hh
def fX10_back (n : Nat) (h : ai_H) (a0 : Nat) : Option (Int32 × ai_H) :=
  (kO n h a0 10).bind fun _ =>
  (pI n h a0 10 8).bind fun x1 =>
  if ¬ x1 = 0 then (
    (pR n h a0 10 5).bind fun x2 =>
    (pR n h a0 10 7).bind fun x3 =>
    (fX5_copyFrom n h x2 x3).bind fun q4 =>
    (sF n q4.2 a0 10 10 (.int) (.int (0 : Int32))).bind fun h5 =>
    (pR n h5 a0 10 5).bind fun x6 =>
    (pI n h5 x6 5 0).bind fun x7 =>
    some (x7, h5))
  else (
    some ((-1 : Int32), h))
theorem gX10_back {n : Nat} {h : ai_H} {a0 : Nat} {q : Int32 × ai_H} (hh : fX10_back n h a0 = some q) : kO n h a0 10 = some () := by
  obtain ⟨_, e, -⟩ := bi_bd hh
  exact e
theorem sX10_back {n : Nat} {h : ai_H} {a0 : Nat} {q : Int32 × ai_H} (hh : fX10_back n h a0 = some q) : bi_sp 2 109 [.ref a0] h n (fI n q) := by
  refine bi_en (D := 1) (T := tX10_back) (funext fun pc => rfl) rfl (Nat.le_of_ble_eq_true rfl) ?_
  unfold fX10_back at hh
  obtain ⟨_, eO, hh⟩ := bi_bd hh
  refine go_al (pc := 0) rfl (rfl : ai_ld 0 (lv_args 0 [.ref a0]) = some (.ref a0)) ?_
  obtain ⟨x1, ex1, hh⟩ := bi_bd hh
  refine go_gfI (pc := 1) rfl ex1 ?_
  refine bi_ite hh (fun hc hh => ?_) (fun hc hh => ?_)
  · refine go_ifneT (pc := 4) rfl hc ?_
    refine go_al (pc := 9) rfl (rfl : ai_ld 0 (lv_args 0 [.ref a0]) = some (.ref a0)) ?_
    obtain ⟨x2, ex2, hh⟩ := bi_bd hh
    refine go_gfR (pc := 10) rfl ex2 ?_
    refine go_al (pc := 13) rfl (rfl : ai_ld 0 (lv_args 0 [.ref a0]) = some (.ref a0)) ?_
    obtain ⟨x3, ex3, hh⟩ := bi_bd hh
    refine go_gfR (pc := 14) rfl ex3 ?_
    obtain ⟨q4, eq4, hh⟩ := bi_bd hh
    refine go_ivV (pc := 17) rfl rfl (gX5_copyFrom eq4) (Nat.le_of_ble_eq_true rfl) (bi_up (sX5_copyFrom eq4) (Nat.le_of_ble_eq_true rfl)) ?_
    refine go_al (pc := 20) rfl (rfl : ai_ld 0 (lv_args 0 [.ref a0]) = some (.ref a0)) ?_
    refine go_pi (pc := 21) rfl ?_
    obtain ⟨h5, eh5, hh⟩ := bi_bd hh
    refine go_pf (pc := 22) rfl eh5 ?_
    refine go_al (pc := 25) rfl (rfl : ai_ld 0 (lv_args 0 [.ref a0]) = some (.ref a0)) ?_
    obtain ⟨x6, ex6, hh⟩ := bi_bd hh
    refine go_gfR (pc := 26) rfl ex6 ?_
    obtain ⟨x7, ex7, hh⟩ := bi_bd hh
    refine go_gfI (pc := 29) rfl ex7 ?_
    exact go_ri (pc := 32) rfl hh
  · refine go_ifneF (pc := 4) rfl hc ?_
    refine go_pi (pc := 7) rfl ?_
    exact go_ri (pc := 8) rfl hh
def fX10_go_46b (n : Nat) (r46 : ai_H → Nat → Int32 → Int32 → Option (Int32 × ai_H)) (h : ai_H) (v0 : Nat) (v1 : Int32) (v2 : Int32) : Option (Int32 × ai_H) :=
  if v1 ≤ v2 then (
    if v1 ≤ 0 then (
      (pR n h v0 10 5).bind fun x1 =>
      (pI n h x1 5 0).bind fun x2 =>
      some (x2, h))
    else (
      (sF n h v0 10 10 (.int) (.int (0 : Int32))).bind fun h3 =>
      (pR n h3 v0 10 5).bind fun x4 =>
      (pI n h3 x4 5 0).bind fun x5 =>
      some (x5, h3)))
  else (
    (pR n h v0 10 11).bind fun x6 =>
    (fX0_pass n h x6).bind fun q7 =>
    r46 q7.2 v0 v1 (v2 + 1))
theorem sX10_go_46b {n : Nat} {r46 : ai_H → Nat → Int32 → Int32 → Option (Int32 × ai_H)} {q : Int32 × ai_H} {h : ai_H} {v0 : Nat} {v1 : Int32} {v2 : Int32} {lv : ai_L} (R46 : ∀ (h : ai_H) (v0 : Nat) (v1 : Int32) (v2 : Int32) (lv : ai_L), ai_ld 0 lv = some (.ref v0) → ai_ld 1 lv = some (.int v1) → ai_ld 2 lv = some (.int v2) → r46 h v0 v1 v2 = some q → bi_go 5 tX10_go n (fI n q) 46 lv [] h) (l0 : ai_ld 0 lv = some (.ref v0)) (l1 : ai_ld 1 lv = some (.int v1)) (l2 : ai_ld 2 lv = some (.int v2)) (hh : fX10_go_46b n r46 h v0 v1 v2 = some q) : bi_go 5 tX10_go n (fI n q) 46 lv [] h := by
  unfold fX10_go_46b at hh
  refine go_il (pc := 46) rfl l2 ?_
  refine go_il (pc := 47) rfl l1 ?_
  refine bi_ite hh (fun hc hh => ?_) (fun hc hh => ?_)
  · refine go_cmpgeT (pc := 48) rfl hc ?_
    refine go_il (pc := 64) rfl l1 ?_
    refine bi_ite hh (fun hc hh => ?_) (fun hc hh => ?_)
    · refine go_ifleT (pc := 65) rfl hc ?_
      refine go_al (pc := 73) rfl l0 ?_
      obtain ⟨x1, ex1, hh⟩ := bi_bd hh
      refine go_gfR (pc := 74) rfl ex1 ?_
      obtain ⟨x2, ex2, hh⟩ := bi_bd hh
      refine go_gfI (pc := 77) rfl ex2 ?_
      exact go_ri (pc := 80) rfl hh
    · refine go_ifleF (pc := 65) rfl hc ?_
      refine go_al (pc := 68) rfl l0 ?_
      refine go_pi (pc := 69) rfl ?_
      obtain ⟨h3, eh3, hh⟩ := bi_bd hh
      refine go_pf (pc := 70) rfl eh3 ?_
      refine go_al (pc := 73) rfl l0 ?_
      obtain ⟨x4, ex4, hh⟩ := bi_bd hh
      refine go_gfR (pc := 74) rfl ex4 ?_
      obtain ⟨x5, ex5, hh⟩ := bi_bd hh
      refine go_gfI (pc := 77) rfl ex5 ?_
      exact go_ri (pc := 80) rfl hh
  · refine go_cmpgeF (pc := 48) rfl hc ?_
    refine go_al (pc := 51) rfl l0 ?_
    obtain ⟨x6, ex6, hh⟩ := bi_bd hh
    refine go_gfR (pc := 52) rfl ex6 ?_
    obtain ⟨q7, eq7, hh⟩ := bi_bd hh
    refine go_ivV (pc := 55) rfl rfl (gX0_pass eq7) (Nat.le_of_ble_eq_true rfl) (bi_up (sX0_pass eq7) (Nat.le_of_ble_eq_true rfl)) ?_
    refine go_inc (pc := 58) rfl l2 ?_
    refine go_goto (pc := 61) rfl ?_
    exact R46 _ _ _ _ _ (bi_k1 l0 rfl rfl) (bi_k1 l1 rfl rfl) bi_e1 hh
def fX10_go_46 (n : Nat) : Nat → ai_H → Nat → Int32 → Int32 → Option (Int32 × ai_H)
  | 0 => fun _ _ _ _ => none
  | k + 1 => fun h v0 v1 v2 => fX10_go_46b n (fX10_go_46 n k) h v0 v1 v2
theorem sX10_go_46 {n : Nat} {q : Int32 × ai_H} : ∀ (k : Nat) (h : ai_H) (v0 : Nat) (v1 : Int32) (v2 : Int32) (lv : ai_L), ai_ld 0 lv = some (.ref v0) → ai_ld 1 lv = some (.int v1) → ai_ld 2 lv = some (.int v2) → fX10_go_46 n k h v0 v1 v2 = some q → bi_go 5 tX10_go n (fI n q) 46 lv [] h
  | 0 => fun _ _ _ _ _ _ _ _ hh => by cases hh
  | k + 1 => fun h v0 v1 v2 lv l0 l1 l2 hh => sX10_go_46b  (sX10_go_46  k) l0 l1 l2 hh
def fX10_go (n : Nat) (h : ai_H) (a0 : Nat) (a1 : Int32) : Option (Int32 × ai_H) :=
  (kO n h a0 10).bind fun _ =>
  (fX10_isWithin n h (0 : Int32) a1 (400 : Int32)).bind fun q1 =>
  if q1.1 = 0 then (
    some ((-1 : Int32), q1.2))
  else (
    (pR n q1.2 a0 10 5).bind fun x2 =>
    (pI n q1.2 x2 5 0).bind fun x3 =>
    if (x3 + a1) ≤ (9000 : Int32) then (
      (pR n q1.2 a0 10 11).bind fun x4 =>
      (pR n q1.2 a0 10 3).bind fun x5 =>
      (pR n q1.2 a0 10 5).bind fun x6 =>
      (fX0_begin n q1.2 x4 x5 x6 (0 : Int32)).bind fun q7 =>
      fX10_go_46 n bi_K q7.2 a0 a1 (0 : Int32))
    else (
      some ((-1 : Int32), q1.2)))
theorem gX10_go {n : Nat} {h : ai_H} {a0 : Nat} {a1 : Int32} {q : Int32 × ai_H} (hh : fX10_go n h a0 a1 = some q) : kO n h a0 10 = some () := by
  obtain ⟨_, e, -⟩ := bi_bd hh
  exact e
theorem sX10_go {n : Nat} {h : ai_H} {a0 : Nat} {a1 : Int32} {q : Int32 × ai_H} (hh : fX10_go n h a0 a1 = some q) : bi_sp 6 110 [.ref a0, .int a1] h n (fI n q) := by
  refine bi_en (D := 5) (T := tX10_go) (funext fun pc => rfl) rfl (Nat.le_of_ble_eq_true rfl) ?_
  unfold fX10_go at hh
  obtain ⟨_, eO, hh⟩ := bi_bd hh
  refine go_pi (pc := 0) rfl ?_
  refine go_il (pc := 1) rfl (rfl : ai_ld 1 (lv_args 0 [.ref a0, .int a1]) = some (.int a1)) ?_
  refine go_pi (pc := 2) rfl ?_
  obtain ⟨q1, eq1, hh⟩ := bi_bd hh
  refine go_iSI (pc := 5) rfl (Nat.le_of_ble_eq_true rfl) rfl (Nat.le_of_ble_eq_true rfl) (bi_up (sX10_isWithin eq1) (Nat.le_of_ble_eq_true rfl)) ?_
  refine bi_ite hh (fun hc hh => ?_) (fun hc hh => ?_)
  · refine go_ifeqT (pc := 8) rfl hc ?_
    refine go_pi (pc := 26) rfl ?_
    exact go_ri (pc := 27) rfl hh
  · refine go_ifeqF (pc := 8) rfl hc ?_
    refine go_al (pc := 11) rfl (rfl : ai_ld 0 (lv_args 0 [.ref a0, .int a1]) = some (.ref a0)) ?_
    obtain ⟨x2, ex2, hh⟩ := bi_bd hh
    refine go_gfR (pc := 12) rfl ex2 ?_
    obtain ⟨x3, ex3, hh⟩ := bi_bd hh
    refine go_gfI (pc := 15) rfl ex3 ?_
    refine go_il (pc := 18) rfl (rfl : ai_ld 1 (lv_args 0 [.ref a0, .int a1]) = some (.int a1)) ?_
    refine go_iadd (pc := 19) rfl ?_
    refine go_pi (pc := 20) rfl ?_
    refine bi_ite hh (fun hc hh => ?_) (fun hc hh => ?_)
    · refine go_cmpleT (pc := 23) rfl hc ?_
      refine go_al (pc := 28) rfl (rfl : ai_ld 0 (lv_args 0 [.ref a0, .int a1]) = some (.ref a0)) ?_
      obtain ⟨x4, ex4, hh⟩ := bi_bd hh
      refine go_gfR (pc := 29) rfl ex4 ?_
      refine go_al (pc := 32) rfl (rfl : ai_ld 0 (lv_args 0 [.ref a0, .int a1]) = some (.ref a0)) ?_
      obtain ⟨x5, ex5, hh⟩ := bi_bd hh
      refine go_gfR (pc := 33) rfl ex5 ?_
      refine go_al (pc := 36) rfl (rfl : ai_ld 0 (lv_args 0 [.ref a0, .int a1]) = some (.ref a0)) ?_
      obtain ⟨x6, ex6, hh⟩ := bi_bd hh
      refine go_gfR (pc := 37) rfl ex6 ?_
      refine go_pi (pc := 40) rfl ?_
      obtain ⟨q7, eq7, hh⟩ := bi_bd hh
      refine go_ivV (pc := 41) rfl rfl (gX0_begin eq7) (Nat.le_of_ble_eq_true rfl) (bi_up (sX0_begin eq7) (Nat.le_of_ble_eq_true rfl)) ?_
      refine go_pi (pc := 44) rfl ?_
      refine go_is (pc := 45) rfl ?_
      exact sX10_go_46  _ _ _ _ _ _ (bi_k1 (rfl : ai_ld 0 (lv_args 0 [.ref a0, .int a1]) = some (.ref a0)) rfl rfl) (bi_k1 (rfl : ai_ld 1 (lv_args 0 [.ref a0, .int a1]) = some (.int a1)) rfl rfl) bi_e1 hh
    · refine go_cmpleF (pc := 23) rfl hc ?_
      refine go_pi (pc := 26) rfl ?_
      exact go_ri (pc := 27) rfl hh
def fX10_beginAhead (n : Nat) (h : ai_H) (a0 : Nat) : Option (Unit × ai_H) :=
  (kO n h a0 10).bind fun _ =>
  (pR n h a0 10 6).bind fun x1 =>
  (pR n h a0 10 5).bind fun x2 =>
  (fX5_copyFrom n h x1 x2).bind fun q3 =>
  (pR n q3.2 a0 10 11).bind fun x4 =>
  (pR n q3.2 a0 10 3).bind fun x5 =>
  (pR n q3.2 a0 10 6).bind fun x6 =>
  (fX0_begin n q3.2 x4 x5 x6 (1 : Int32)).bind fun q7 =>
  some ((), q7.2)
theorem gX10_beginAhead {n : Nat} {h : ai_H} {a0 : Nat} {q : Unit × ai_H} (hh : fX10_beginAhead n h a0 = some q) : kO n h a0 10 = some () := by
  obtain ⟨_, e, -⟩ := bi_bd hh
  exact e
theorem sX10_beginAhead {n : Nat} {h : ai_H} {a0 : Nat} {q : Unit × ai_H} (hh : fX10_beginAhead n h a0 = some q) : bi_sp 3 111 [.ref a0] h n (fV n q) := by
  refine bi_en (D := 2) (T := tX10_beginAhead) (funext fun pc => rfl) rfl (Nat.le_of_ble_eq_true rfl) ?_
  unfold fX10_beginAhead at hh
  obtain ⟨_, eO, hh⟩ := bi_bd hh
  refine go_al (pc := 0) rfl (rfl : ai_ld 0 (lv_args 0 [.ref a0]) = some (.ref a0)) ?_
  obtain ⟨x1, ex1, hh⟩ := bi_bd hh
  refine go_gfR (pc := 1) rfl ex1 ?_
  refine go_al (pc := 4) rfl (rfl : ai_ld 0 (lv_args 0 [.ref a0]) = some (.ref a0)) ?_
  obtain ⟨x2, ex2, hh⟩ := bi_bd hh
  refine go_gfR (pc := 5) rfl ex2 ?_
  obtain ⟨q3, eq3, hh⟩ := bi_bd hh
  refine go_ivV (pc := 8) rfl rfl (gX5_copyFrom eq3) (Nat.le_of_ble_eq_true rfl) (bi_up (sX5_copyFrom eq3) (Nat.le_of_ble_eq_true rfl)) ?_
  refine go_al (pc := 11) rfl (rfl : ai_ld 0 (lv_args 0 [.ref a0]) = some (.ref a0)) ?_
  obtain ⟨x4, ex4, hh⟩ := bi_bd hh
  refine go_gfR (pc := 12) rfl ex4 ?_
  refine go_al (pc := 15) rfl (rfl : ai_ld 0 (lv_args 0 [.ref a0]) = some (.ref a0)) ?_
  obtain ⟨x5, ex5, hh⟩ := bi_bd hh
  refine go_gfR (pc := 16) rfl ex5 ?_
  refine go_al (pc := 19) rfl (rfl : ai_ld 0 (lv_args 0 [.ref a0]) = some (.ref a0)) ?_
  obtain ⟨x6, ex6, hh⟩ := bi_bd hh
  refine go_gfR (pc := 20) rfl ex6 ?_
  refine go_pi (pc := 23) rfl ?_
  obtain ⟨q7, eq7, hh⟩ := bi_bd hh
  refine go_ivV (pc := 24) rfl rfl (gX0_begin eq7) (Nat.le_of_ble_eq_true rfl) (bi_up (sX0_begin eq7) (Nat.le_of_ble_eq_true rfl)) ?_
  exact go_rv (pc := 27) rfl hh
def fX10_isAsked (n : Nat) (h : ai_H) (a0 : Nat) (a1 : Int32) (a2 : Int32) : Option (Int32 × ai_H) :=
  (kO n h a0 10).bind fun _ =>
  if a1 = 0 then (
    some ((1 : Int32), h))
  else (
    if a1 = 1 then (
      some ((1 : Int32), h))
    else (
      if a1 = 2 then (
        some ((1 : Int32), h))
      else (
        if a1 = 3 then (
          (fX10_isWalker n h a0 a2).bind fun q1 =>
          (gZ q1.1).bind fun _ =>
          some (q1.1, q1.2))
        else (
          if a1 = 4 then (
            (fX10_isPath n h a0 a2).bind fun q2 =>
            (gZ q2.1).bind fun _ =>
            some (q2.1, q2.2))
          else (
            some ((0 : Int32), h))))))
theorem gX10_isAsked {n : Nat} {h : ai_H} {a0 : Nat} {a1 : Int32} {a2 : Int32} {q : Int32 × ai_H} (hh : fX10_isAsked n h a0 a1 a2 = some q) : kO n h a0 10 = some () := by
  obtain ⟨_, e, -⟩ := bi_bd hh
  exact e
theorem sX10_isAsked {n : Nat} {h : ai_H} {a0 : Nat} {a1 : Int32} {a2 : Int32} {q : Int32 × ai_H} (hh : fX10_isAsked n h a0 a1 a2 = some q) : bi_sp 2 113 [.ref a0, .int a1, .int a2] h n (fI n q) := by
  refine bi_en (D := 1) (T := tX10_isAsked) (funext fun pc => rfl) rfl (Nat.le_of_ble_eq_true rfl) ?_
  unfold fX10_isAsked at hh
  obtain ⟨_, eO, hh⟩ := bi_bd hh
  refine go_il (pc := 0) rfl (rfl : ai_ld 1 (lv_args 0 [.ref a0, .int a1, .int a2]) = some (.int a1)) ?_
  refine bi_ite hh (fun hc0 hh => ?_) (fun hc0 hh => ?_)
  · refine go_swc (t := 36) 0 (pc := 1) rfl hc0 (by decide) ?_
    refine go_pi (pc := 36) rfl ?_
    exact go_rz (pc := 37) rfl bi_z1 hh
  · skip
    refine bi_ite hh (fun hc1 hh => ?_) (fun hc1 hh => ?_)
    · refine go_swc (t := 36) 1 (pc := 1) rfl hc1 (by decide) ?_
      refine go_pi (pc := 36) rfl ?_
      exact go_rz (pc := 37) rfl bi_z1 hh
    · skip
      refine bi_ite hh (fun hc2 hh => ?_) (fun hc2 hh => ?_)
      · refine go_swc (t := 36) 2 (pc := 1) rfl hc2 (by decide) ?_
        refine go_pi (pc := 36) rfl ?_
        exact go_rz (pc := 37) rfl bi_z1 hh
      · skip
        refine bi_ite hh (fun hc3 hh => ?_) (fun hc3 hh => ?_)
        · refine go_swc (t := 38) 3 (pc := 1) rfl hc3 (by decide) ?_
          refine go_al (pc := 38) rfl (rfl : ai_ld 0 (lv_args 0 [.ref a0, .int a1, .int a2]) = some (.ref a0)) ?_
          refine go_il (pc := 39) rfl (rfl : ai_ld 2 (lv_args 0 [.ref a0, .int a1, .int a2]) = some (.int a2)) ?_
          obtain ⟨q1, eq1, hh⟩ := bi_bd hh
          refine go_ivI (pc := 40) rfl rfl (gX10_isWalker eq1) (Nat.le_of_ble_eq_true rfl) (bi_up (sX10_isWalker eq1) (Nat.le_of_ble_eq_true rfl)) ?_
          obtain ⟨_, ez, hh⟩ := bi_bd hh
          exact go_rz (pc := 43) rfl ez hh
        · skip
          refine bi_ite hh (fun hc4 hh => ?_) (fun hc4 hh => ?_)
          · refine go_swc (t := 44) 4 (pc := 1) rfl hc4 (by decide) ?_
            refine go_al (pc := 44) rfl (rfl : ai_ld 0 (lv_args 0 [.ref a0, .int a1, .int a2]) = some (.ref a0)) ?_
            refine go_il (pc := 45) rfl (rfl : ai_ld 2 (lv_args 0 [.ref a0, .int a1, .int a2]) = some (.int a2)) ?_
            obtain ⟨q2, eq2, hh⟩ := bi_bd hh
            refine go_ivI (pc := 46) rfl rfl (gX10_isPath eq2) (Nat.le_of_ble_eq_true rfl) (bi_up (sX10_isPath eq2) (Nat.le_of_ble_eq_true rfl)) ?_
            obtain ⟨_, ez, hh⟩ := bi_bd hh
            exact go_rz (pc := 49) rfl ez hh
          · skip
            refine go_swd (pc := 1) rfl (fun i hi => match i, hi with | 0, _ => Or.inr (lv_neT hc0 (by decide)) | 1, _ => Or.inr (lv_neT hc1 (by decide)) | 2, _ => Or.inr (lv_neT hc2 (by decide)) | 3, _ => Or.inr (lv_neT hc3 (by decide)) | 4, _ => Or.inr (lv_neT hc4 (by decide)) | i + 5, hi => absurd hi (Nat.not_lt.mpr (Nat.le_add_left _ _))) ?_
            refine go_pi (pc := 50) rfl ?_
            exact go_rz (pc := 51) rfl bi_z0 hh
def fX10_ahead_29b (n : Nat) (r29 : ai_H → Nat → Int32 → Int32 → Int32 → Int32 → Option (Int32 × ai_H)) (h : ai_H) (v0 : Nat) (v1 : Int32) (v2 : Int32) (v3 : Int32) (v4 : Int32) : Option (Int32 × ai_H) :=
  if v1 ≤ v4 then (
    if v2 = 0 then (
      (pR n h v0 10 6).bind fun x1 =>
      (pI n h x1 5 4).bind fun x2 =>
      (fJ6_bitCount_0f7a4 n h x2).bind fun q3 =>
      some (q3.1, q3.2))
    else (
      if v2 = 1 then (
        (pR n h v0 10 6).bind fun x4 =>
        (pI n h x4 5 2).bind fun x5 =>
        (pR n h v0 10 5).bind fun x6 =>
        (pI n h x6 5 2).bind fun x7 =>
        some (x5 - x7, h))
      else (
        if v2 = 2 then (
          (pR n h v0 10 6).bind fun x8 =>
          (pI n h x8 5 3).bind fun x9 =>
          (pR n h v0 10 5).bind fun x10 =>
          (pI n h x10 5 3).bind fun x11 =>
          some (x9 - x11, h))
        else (
          if v2 = 3 then (
            (pR n h v0 10 6).bind fun x12 =>
            (pR n h x12 5 7).bind fun x13 =>
            (gX 1 n h x13 v3).bind fun x14 =>
            some (x14, h))
          else (
            (pR n h v0 10 6).bind fun x15 =>
            (pR n h x15 5 5).bind fun x16 =>
            (gX 1 n h x16 v3).bind fun x17 =>
            some (x17, h))))))
  else (
    (pR n h v0 10 11).bind fun x18 =>
    (fX0_pass n h x18).bind fun q19 =>
    r29 q19.2 v0 v1 v2 v3 (v4 + 1))
theorem sX10_ahead_29b {n : Nat} {r29 : ai_H → Nat → Int32 → Int32 → Int32 → Int32 → Option (Int32 × ai_H)} {q : Int32 × ai_H} {h : ai_H} {v0 : Nat} {v1 : Int32} {v2 : Int32} {v3 : Int32} {v4 : Int32} {lv : ai_L} (R29 : ∀ (h : ai_H) (v0 : Nat) (v1 : Int32) (v2 : Int32) (v3 : Int32) (v4 : Int32) (lv : ai_L), ai_ld 0 lv = some (.ref v0) → ai_ld 1 lv = some (.int v1) → ai_ld 2 lv = some (.int v2) → ai_ld 3 lv = some (.int v3) → ai_ld 4 lv = some (.int v4) → r29 h v0 v1 v2 v3 v4 = some q → bi_go 5 tX10_ahead n (fI n q) 29 lv [] h) (l0 : ai_ld 0 lv = some (.ref v0)) (l1 : ai_ld 1 lv = some (.int v1)) (l2 : ai_ld 2 lv = some (.int v2)) (l3 : ai_ld 3 lv = some (.int v3)) (l4 : ai_ld 4 lv = some (.int v4)) (hh : fX10_ahead_29b n r29 h v0 v1 v2 v3 v4 = some q) : bi_go 5 tX10_ahead n (fI n q) 29 lv [] h := by
  unfold fX10_ahead_29b at hh
  refine go_il (pc := 29) rfl l4 ?_
  refine go_il (pc := 31) rfl l1 ?_
  refine bi_ite hh (fun hc hh => ?_) (fun hc hh => ?_)
  · refine go_cmpgeT (pc := 32) rfl hc ?_
    refine go_il (pc := 48) rfl l2 ?_
    refine bi_ite hh (fun hc0 hh => ?_) (fun hc0 hh => ?_)
    · refine go_swc (t := 80) 0 (pc := 49) rfl hc0 (by decide) ?_
      refine go_al (pc := 80) rfl l0 ?_
      obtain ⟨x1, ex1, hh⟩ := bi_bd hh
      refine go_gfR (pc := 81) rfl ex1 ?_
      obtain ⟨x2, ex2, hh⟩ := bi_bd hh
      refine go_gfI (pc := 84) rfl ex2 ?_
      obtain ⟨q3, eq3, hh⟩ := bi_bd hh
      refine go_iSI (pc := 87) rfl (Nat.le_of_ble_eq_true rfl) rfl (Nat.le_of_ble_eq_true rfl) (bi_up (sJ6_bitCount_0f7a4 eq3) (Nat.le_of_ble_eq_true rfl)) ?_
      exact go_ri (pc := 90) rfl hh
    · skip
      refine bi_ite hh (fun hc1 hh => ?_) (fun hc1 hh => ?_)
      · refine go_swc (t := 91) 1 (pc := 49) rfl hc1 (by decide) ?_
        refine go_al (pc := 91) rfl l0 ?_
        obtain ⟨x4, ex4, hh⟩ := bi_bd hh
        refine go_gfR (pc := 92) rfl ex4 ?_
        obtain ⟨x5, ex5, hh⟩ := bi_bd hh
        refine go_gfI (pc := 95) rfl ex5 ?_
        refine go_al (pc := 98) rfl l0 ?_
        obtain ⟨x6, ex6, hh⟩ := bi_bd hh
        refine go_gfR (pc := 99) rfl ex6 ?_
        obtain ⟨x7, ex7, hh⟩ := bi_bd hh
        refine go_gfI (pc := 102) rfl ex7 ?_
        refine go_isub (pc := 105) rfl ?_
        exact go_ri (pc := 106) rfl hh
      · skip
        refine bi_ite hh (fun hc2 hh => ?_) (fun hc2 hh => ?_)
        · refine go_swc (t := 107) 2 (pc := 49) rfl hc2 (by decide) ?_
          refine go_al (pc := 107) rfl l0 ?_
          obtain ⟨x8, ex8, hh⟩ := bi_bd hh
          refine go_gfR (pc := 108) rfl ex8 ?_
          obtain ⟨x9, ex9, hh⟩ := bi_bd hh
          refine go_gfI (pc := 111) rfl ex9 ?_
          refine go_al (pc := 114) rfl l0 ?_
          obtain ⟨x10, ex10, hh⟩ := bi_bd hh
          refine go_gfR (pc := 115) rfl ex10 ?_
          obtain ⟨x11, ex11, hh⟩ := bi_bd hh
          refine go_gfI (pc := 118) rfl ex11 ?_
          refine go_isub (pc := 121) rfl ?_
          exact go_ri (pc := 122) rfl hh
        · skip
          refine bi_ite hh (fun hc3 hh => ?_) (fun hc3 hh => ?_)
          · refine go_swc (t := 123) 3 (pc := 49) rfl hc3 (by decide) ?_
            refine go_al (pc := 123) rfl l0 ?_
            obtain ⟨x12, ex12, hh⟩ := bi_bd hh
            refine go_gfR (pc := 124) rfl ex12 ?_
            obtain ⟨x13, ex13, hh⟩ := bi_bd hh
            refine go_gfR (pc := 127) rfl ex13 ?_
            refine go_il (pc := 130) rfl l3 ?_
            obtain ⟨x14, ex14, hh⟩ := bi_bd hh
            refine go_iald (pc := 131) rfl ex14 ?_
            exact go_ri (pc := 132) rfl hh
          · skip
            refine go_swd (pc := 49) rfl (fun i hi => match i, hi with | 0, _ => Or.inr (lv_neT hc0 (by decide)) | 1, _ => Or.inr (lv_neT hc1 (by decide)) | 2, _ => Or.inr (lv_neT hc2 (by decide)) | 3, _ => Or.inr (lv_neT hc3 (by decide)) | i + 4, hi => absurd hi (Nat.not_lt.mpr (Nat.le_add_left _ _))) ?_
            refine go_al (pc := 133) rfl l0 ?_
            obtain ⟨x15, ex15, hh⟩ := bi_bd hh
            refine go_gfR (pc := 134) rfl ex15 ?_
            obtain ⟨x16, ex16, hh⟩ := bi_bd hh
            refine go_gfR (pc := 137) rfl ex16 ?_
            refine go_il (pc := 140) rfl l3 ?_
            obtain ⟨x17, ex17, hh⟩ := bi_bd hh
            refine go_iald (pc := 141) rfl ex17 ?_
            exact go_ri (pc := 142) rfl hh
  · refine go_cmpgeF (pc := 32) rfl hc ?_
    refine go_al (pc := 35) rfl l0 ?_
    obtain ⟨x18, ex18, hh⟩ := bi_bd hh
    refine go_gfR (pc := 36) rfl ex18 ?_
    obtain ⟨q19, eq19, hh⟩ := bi_bd hh
    refine go_ivV (pc := 39) rfl rfl (gX0_pass eq19) (Nat.le_of_ble_eq_true rfl) (bi_up (sX0_pass eq19) (Nat.le_of_ble_eq_true rfl)) ?_
    refine go_inc (pc := 42) rfl l4 ?_
    refine go_goto (pc := 45) rfl ?_
    exact R29 _ _ _ _ _ _ _ (bi_k1 l0 rfl rfl) (bi_k1 l1 rfl rfl) (bi_k1 l2 rfl rfl) (bi_k1 l3 rfl rfl) bi_e1 hh
def fX10_ahead_29 (n : Nat) : Nat → ai_H → Nat → Int32 → Int32 → Int32 → Int32 → Option (Int32 × ai_H)
  | 0 => fun _ _ _ _ _ _ => none
  | k + 1 => fun h v0 v1 v2 v3 v4 => fX10_ahead_29b n (fX10_ahead_29 n k) h v0 v1 v2 v3 v4
theorem sX10_ahead_29 {n : Nat} {q : Int32 × ai_H} : ∀ (k : Nat) (h : ai_H) (v0 : Nat) (v1 : Int32) (v2 : Int32) (v3 : Int32) (v4 : Int32) (lv : ai_L), ai_ld 0 lv = some (.ref v0) → ai_ld 1 lv = some (.int v1) → ai_ld 2 lv = some (.int v2) → ai_ld 3 lv = some (.int v3) → ai_ld 4 lv = some (.int v4) → fX10_ahead_29 n k h v0 v1 v2 v3 v4 = some q → bi_go 5 tX10_ahead n (fI n q) 29 lv [] h
  | 0 => fun _ _ _ _ _ _ _ _ _ _ _ _ hh => by cases hh
  | k + 1 => fun h v0 v1 v2 v3 v4 lv l0 l1 l2 l3 l4 hh => sX10_ahead_29b  (sX10_ahead_29  k) l0 l1 l2 l3 l4 hh
def fX10_ahead (n : Nat) (h : ai_H) (a0 : Nat) (a1 : Int32) (a2 : Int32) (a3 : Int32) : Option (Int32 × ai_H) :=
  (kO n h a0 10).bind fun _ =>
  (fX10_isWithin n h (0 : Int32) a1 (400 : Int32)).bind fun q1 =>
  if q1.1 = 0 then (
    some ((-1 : Int32), q1.2))
  else (
    (fX10_isAsked n q1.2 a0 a2 a3).bind fun q2 =>
    if ¬ q2.1 = 0 then (
      (fX10_beginAhead n q2.2 a0).bind fun q3 =>
      fX10_ahead_29 n bi_K q3.2 a0 a1 a2 a3 (0 : Int32))
    else (
      some ((-1 : Int32), q2.2)))
theorem gX10_ahead {n : Nat} {h : ai_H} {a0 : Nat} {a1 : Int32} {a2 : Int32} {a3 : Int32} {q : Int32 × ai_H} (hh : fX10_ahead n h a0 a1 a2 a3 = some q) : kO n h a0 10 = some () := by
  obtain ⟨_, e, -⟩ := bi_bd hh
  exact e
theorem sX10_ahead {n : Nat} {h : ai_H} {a0 : Nat} {a1 : Int32} {a2 : Int32} {a3 : Int32} {q : Int32 × ai_H} (hh : fX10_ahead n h a0 a1 a2 a3 = some q) : bi_sp 6 112 [.ref a0, .int a1, .int a2, .int a3] h n (fI n q) := by
  refine bi_en (D := 5) (T := tX10_ahead) (funext fun pc => rfl) rfl (Nat.le_of_ble_eq_true rfl) ?_
  unfold fX10_ahead at hh
  obtain ⟨_, eO, hh⟩ := bi_bd hh
  refine go_pi (pc := 0) rfl ?_
  refine go_il (pc := 1) rfl (rfl : ai_ld 1 (lv_args 0 [.ref a0, .int a1, .int a2, .int a3]) = some (.int a1)) ?_
  refine go_pi (pc := 2) rfl ?_
  obtain ⟨q1, eq1, hh⟩ := bi_bd hh
  refine go_iSI (pc := 5) rfl (Nat.le_of_ble_eq_true rfl) rfl (Nat.le_of_ble_eq_true rfl) (bi_up (sX10_isWithin eq1) (Nat.le_of_ble_eq_true rfl)) ?_
  refine bi_ite hh (fun hc hh => ?_) (fun hc hh => ?_)
  · refine go_ifeqT (pc := 8) rfl hc ?_
    refine go_pi (pc := 20) rfl ?_
    exact go_ri (pc := 21) rfl hh
  · refine go_ifeqF (pc := 8) rfl hc ?_
    refine go_al (pc := 11) rfl (rfl : ai_ld 0 (lv_args 0 [.ref a0, .int a1, .int a2, .int a3]) = some (.ref a0)) ?_
    refine go_il (pc := 12) rfl (rfl : ai_ld 2 (lv_args 0 [.ref a0, .int a1, .int a2, .int a3]) = some (.int a2)) ?_
    refine go_il (pc := 13) rfl (rfl : ai_ld 3 (lv_args 0 [.ref a0, .int a1, .int a2, .int a3]) = some (.int a3)) ?_
    obtain ⟨q2, eq2, hh⟩ := bi_bd hh
    refine go_ivI (pc := 14) rfl rfl (gX10_isAsked eq2) (Nat.le_of_ble_eq_true rfl) (bi_up (sX10_isAsked eq2) (Nat.le_of_ble_eq_true rfl)) ?_
    refine bi_ite hh (fun hc hh => ?_) (fun hc hh => ?_)
    · refine go_ifneT (pc := 17) rfl hc ?_
      refine go_al (pc := 22) rfl (rfl : ai_ld 0 (lv_args 0 [.ref a0, .int a1, .int a2, .int a3]) = some (.ref a0)) ?_
      obtain ⟨q3, eq3, hh⟩ := bi_bd hh
      refine go_ivV (pc := 23) rfl rfl (gX10_beginAhead eq3) (Nat.le_of_ble_eq_true rfl) (bi_up (sX10_beginAhead eq3) (Nat.le_of_ble_eq_true rfl)) ?_
      refine go_pi (pc := 26) rfl ?_
      refine go_is (pc := 27) rfl ?_
      exact sX10_ahead_29  _ _ _ _ _ _ _ _ (bi_k1 (rfl : ai_ld 0 (lv_args 0 [.ref a0, .int a1, .int a2, .int a3]) = some (.ref a0)) rfl rfl) (bi_k1 (rfl : ai_ld 1 (lv_args 0 [.ref a0, .int a1, .int a2, .int a3]) = some (.int a1)) rfl rfl) (bi_k1 (rfl : ai_ld 2 (lv_args 0 [.ref a0, .int a1, .int a2, .int a3]) = some (.int a2)) rfl rfl) (bi_k1 (rfl : ai_ld 3 (lv_args 0 [.ref a0, .int a1, .int a2, .int a3]) = some (.int a3)) rfl rfl) bi_e1 hh
    · refine go_ifneF (pc := 17) rfl hc ?_
      refine go_pi (pc := 20) rfl ?_
      exact go_ri (pc := 21) rfl hh
