/-! ===== methods as functions, part 8 ===== -/
def fX10_named (n : Nat) (h : ai_H) (a0 : Nat) (a1 : Int32) (a2 : Int32) : Option (Int32 × ai_H) :=
  (kO n h a0 10).bind fun _ =>
  if a1 = 0 then (
    (pR n h a0 10 3).bind fun x1 =>
    (pR n h x1 8 0).bind fun x2 =>
    (fX6_find n h x2 a2).bind fun q3 =>
    some (q3.1, q3.2))
  else (
    if a1 = 1 then (
      (pR n h a0 10 3).bind fun x4 =>
      (pR n h x4 8 1).bind fun x5 =>
      (fX6_find n h x5 a2).bind fun q6 =>
      some (q6.1, q6.2))
    else (
      if a1 = 2 then (
        (pR n h a0 10 3).bind fun x7 =>
        (pR n h x7 8 2).bind fun x8 =>
        (fX6_find n h x8 a2).bind fun q9 =>
        some (q9.1, q9.2))
      else (
        some ((-1 : Int32), h))))
theorem gX10_named {n : Nat} {h : ai_H} {a0 : Nat} {a1 : Int32} {a2 : Int32} {q : Int32 × ai_H} (hh : fX10_named n h a0 a1 a2 = some q) : kO n h a0 10 = some () := by
  obtain ⟨_, e, -⟩ := bi_bd hh
  exact e
theorem sX10_named {n : Nat} {h : ai_H} {a0 : Nat} {a1 : Int32} {a2 : Int32} {q : Int32 × ai_H} (hh : fX10_named n h a0 a1 a2 = some q) : bi_sp 2 93 [.ref a0, .int a1, .int a2] h n (fI n q) := by
  refine bi_en (D := 1) (T := tX10_named) (funext fun pc => rfl) rfl (Nat.le_of_ble_eq_true rfl) ?_
  unfold fX10_named at hh
  obtain ⟨_, eO, hh⟩ := bi_bd hh
  refine go_il (pc := 0) rfl (rfl : ai_ld 1 (lv_args 0 [.ref a0, .int a1, .int a2]) = some (.int a1)) ?_
  refine bi_ite hh (fun hc0 hh => ?_) (fun hc0 hh => ?_)
  · refine go_swc (t := 28) 0 (pc := 1) rfl hc0 (by decide) ?_
    refine go_al (pc := 28) rfl (rfl : ai_ld 0 (lv_args 0 [.ref a0, .int a1, .int a2]) = some (.ref a0)) ?_
    obtain ⟨x1, ex1, hh⟩ := bi_bd hh
    refine go_gfR (pc := 29) rfl ex1 ?_
    obtain ⟨x2, ex2, hh⟩ := bi_bd hh
    refine go_gfR (pc := 32) rfl ex2 ?_
    refine go_il (pc := 35) rfl (rfl : ai_ld 2 (lv_args 0 [.ref a0, .int a1, .int a2]) = some (.int a2)) ?_
    obtain ⟨q3, eq3, hh⟩ := bi_bd hh
    refine go_ivI (pc := 36) rfl rfl (gX6_find eq3) (Nat.le_of_ble_eq_true rfl) (bi_up (sX6_find eq3) (Nat.le_of_ble_eq_true rfl)) ?_
    exact go_ri (pc := 39) rfl hh
  · skip
    refine bi_ite hh (fun hc1 hh => ?_) (fun hc1 hh => ?_)
    · refine go_swc (t := 40) 1 (pc := 1) rfl hc1 (by decide) ?_
      refine go_al (pc := 40) rfl (rfl : ai_ld 0 (lv_args 0 [.ref a0, .int a1, .int a2]) = some (.ref a0)) ?_
      obtain ⟨x4, ex4, hh⟩ := bi_bd hh
      refine go_gfR (pc := 41) rfl ex4 ?_
      obtain ⟨x5, ex5, hh⟩ := bi_bd hh
      refine go_gfR (pc := 44) rfl ex5 ?_
      refine go_il (pc := 47) rfl (rfl : ai_ld 2 (lv_args 0 [.ref a0, .int a1, .int a2]) = some (.int a2)) ?_
      obtain ⟨q6, eq6, hh⟩ := bi_bd hh
      refine go_ivI (pc := 48) rfl rfl (gX6_find eq6) (Nat.le_of_ble_eq_true rfl) (bi_up (sX6_find eq6) (Nat.le_of_ble_eq_true rfl)) ?_
      exact go_ri (pc := 51) rfl hh
    · skip
      refine bi_ite hh (fun hc2 hh => ?_) (fun hc2 hh => ?_)
      · refine go_swc (t := 52) 2 (pc := 1) rfl hc2 (by decide) ?_
        refine go_al (pc := 52) rfl (rfl : ai_ld 0 (lv_args 0 [.ref a0, .int a1, .int a2]) = some (.ref a0)) ?_
        obtain ⟨x7, ex7, hh⟩ := bi_bd hh
        refine go_gfR (pc := 53) rfl ex7 ?_
        obtain ⟨x8, ex8, hh⟩ := bi_bd hh
        refine go_gfR (pc := 56) rfl ex8 ?_
        refine go_il (pc := 59) rfl (rfl : ai_ld 2 (lv_args 0 [.ref a0, .int a1, .int a2]) = some (.int a2)) ?_
        obtain ⟨q9, eq9, hh⟩ := bi_bd hh
        refine go_ivI (pc := 60) rfl rfl (gX6_find eq9) (Nat.le_of_ble_eq_true rfl) (bi_up (sX6_find eq9) (Nat.le_of_ble_eq_true rfl)) ?_
        exact go_ri (pc := 63) rfl hh
      · skip
        refine go_swd (pc := 1) rfl (fun i hi => match i, hi with | 0, _ => Or.inr (lv_neT hc0 (by decide)) | 1, _ => Or.inr (lv_neT hc1 (by decide)) | 2, _ => Or.inr (lv_neT hc2 (by decide)) | i + 3, hi => absurd hi (Nat.not_lt.mpr (Nat.le_add_left _ _))) ?_
        refine go_pi (pc := 64) rfl ?_
        exact go_ri (pc := 65) rfl hh
def fX10_isPlace (n : Nat) (h : ai_H) (a0 : Nat) (a1 : Int32) : Option (Int32 × ai_H) :=
  (kO n h a0 10).bind fun _ =>
  if a1 < 0 then (
    some ((0 : Int32), h))
  else (
    (pR n h a0 10 3).bind fun x1 =>
    (pR n h x1 8 0).bind fun x2 =>
    (pI n h x2 6 4).bind fun x3 =>
    if x3 ≤ a1 then (
      some ((0 : Int32), h))
    else (
      some ((1 : Int32), h)))
theorem gX10_isPlace {n : Nat} {h : ai_H} {a0 : Nat} {a1 : Int32} {q : Int32 × ai_H} (hh : fX10_isPlace n h a0 a1 = some q) : kO n h a0 10 = some () := by
  obtain ⟨_, e, -⟩ := bi_bd hh
  exact e
theorem sX10_isPlace {n : Nat} {h : ai_H} {a0 : Nat} {a1 : Int32} {q : Int32 × ai_H} (hh : fX10_isPlace n h a0 a1 = some q) : bi_sp 1 94 [.ref a0, .int a1] h n (fI n q) := by
  refine bi_en (D := 0) (T := tX10_isPlace) (funext fun pc => rfl) rfl (Nat.le_of_ble_eq_true rfl) ?_
  unfold fX10_isPlace at hh
  obtain ⟨_, eO, hh⟩ := bi_bd hh
  refine go_il (pc := 0) rfl (rfl : ai_ld 1 (lv_args 0 [.ref a0, .int a1]) = some (.int a1)) ?_
  refine bi_ite hh (fun hc hh => ?_) (fun hc hh => ?_)
  · refine go_ifltT (pc := 1) rfl hc ?_
    refine go_pi (pc := 22) rfl ?_
    exact go_rz (pc := 23) rfl bi_z0 hh
  · refine go_ifltF (pc := 1) rfl hc ?_
    refine go_il (pc := 4) rfl (rfl : ai_ld 1 (lv_args 0 [.ref a0, .int a1]) = some (.int a1)) ?_
    refine go_al (pc := 5) rfl (rfl : ai_ld 0 (lv_args 0 [.ref a0, .int a1]) = some (.ref a0)) ?_
    obtain ⟨x1, ex1, hh⟩ := bi_bd hh
    refine go_gfR (pc := 6) rfl ex1 ?_
    obtain ⟨x2, ex2, hh⟩ := bi_bd hh
    refine go_gfR (pc := 9) rfl ex2 ?_
    obtain ⟨x3, ex3, hh⟩ := bi_bd hh
    refine go_gfI (pc := 12) rfl ex3 ?_
    refine bi_ite hh (fun hc hh => ?_) (fun hc hh => ?_)
    · refine go_cmpgeT (pc := 15) rfl hc ?_
      refine go_pi (pc := 22) rfl ?_
      exact go_rz (pc := 23) rfl bi_z0 hh
    · refine go_cmpgeF (pc := 15) rfl hc ?_
      refine go_pi (pc := 18) rfl ?_
      refine go_goto (pc := 19) rfl ?_
      exact go_rz (pc := 23) rfl bi_z1 hh
def fX10_isPath (n : Nat) (h : ai_H) (a0 : Nat) (a1 : Int32) : Option (Int32 × ai_H) :=
  (kO n h a0 10).bind fun _ =>
  if a1 < 0 then (
    some ((0 : Int32), h))
  else (
    (pR n h a0 10 3).bind fun x1 =>
    (pR n h x1 8 1).bind fun x2 =>
    (pI n h x2 6 4).bind fun x3 =>
    if x3 ≤ a1 then (
      some ((0 : Int32), h))
    else (
      some ((1 : Int32), h)))
theorem gX10_isPath {n : Nat} {h : ai_H} {a0 : Nat} {a1 : Int32} {q : Int32 × ai_H} (hh : fX10_isPath n h a0 a1 = some q) : kO n h a0 10 = some () := by
  obtain ⟨_, e, -⟩ := bi_bd hh
  exact e
theorem sX10_isPath {n : Nat} {h : ai_H} {a0 : Nat} {a1 : Int32} {q : Int32 × ai_H} (hh : fX10_isPath n h a0 a1 = some q) : bi_sp 1 95 [.ref a0, .int a1] h n (fI n q) := by
  refine bi_en (D := 0) (T := tX10_isPath) (funext fun pc => rfl) rfl (Nat.le_of_ble_eq_true rfl) ?_
  unfold fX10_isPath at hh
  obtain ⟨_, eO, hh⟩ := bi_bd hh
  refine go_il (pc := 0) rfl (rfl : ai_ld 1 (lv_args 0 [.ref a0, .int a1]) = some (.int a1)) ?_
  refine bi_ite hh (fun hc hh => ?_) (fun hc hh => ?_)
  · refine go_ifltT (pc := 1) rfl hc ?_
    refine go_pi (pc := 22) rfl ?_
    exact go_rz (pc := 23) rfl bi_z0 hh
  · refine go_ifltF (pc := 1) rfl hc ?_
    refine go_il (pc := 4) rfl (rfl : ai_ld 1 (lv_args 0 [.ref a0, .int a1]) = some (.int a1)) ?_
    refine go_al (pc := 5) rfl (rfl : ai_ld 0 (lv_args 0 [.ref a0, .int a1]) = some (.ref a0)) ?_
    obtain ⟨x1, ex1, hh⟩ := bi_bd hh
    refine go_gfR (pc := 6) rfl ex1 ?_
    obtain ⟨x2, ex2, hh⟩ := bi_bd hh
    refine go_gfR (pc := 9) rfl ex2 ?_
    obtain ⟨x3, ex3, hh⟩ := bi_bd hh
    refine go_gfI (pc := 12) rfl ex3 ?_
    refine bi_ite hh (fun hc hh => ?_) (fun hc hh => ?_)
    · refine go_cmpgeT (pc := 15) rfl hc ?_
      refine go_pi (pc := 22) rfl ?_
      exact go_rz (pc := 23) rfl bi_z0 hh
    · refine go_cmpgeF (pc := 15) rfl hc ?_
      refine go_pi (pc := 18) rfl ?_
      refine go_goto (pc := 19) rfl ?_
      exact go_rz (pc := 23) rfl bi_z1 hh
def fX10_isWalker (n : Nat) (h : ai_H) (a0 : Nat) (a1 : Int32) : Option (Int32 × ai_H) :=
  (kO n h a0 10).bind fun _ =>
  if a1 < 0 then (
    some ((0 : Int32), h))
  else (
    (pR n h a0 10 3).bind fun x1 =>
    (pR n h x1 8 2).bind fun x2 =>
    (pI n h x2 6 4).bind fun x3 =>
    if x3 ≤ a1 then (
      some ((0 : Int32), h))
    else (
      some ((1 : Int32), h)))
theorem gX10_isWalker {n : Nat} {h : ai_H} {a0 : Nat} {a1 : Int32} {q : Int32 × ai_H} (hh : fX10_isWalker n h a0 a1 = some q) : kO n h a0 10 = some () := by
  obtain ⟨_, e, -⟩ := bi_bd hh
  exact e
theorem sX10_isWalker {n : Nat} {h : ai_H} {a0 : Nat} {a1 : Int32} {q : Int32 × ai_H} (hh : fX10_isWalker n h a0 a1 = some q) : bi_sp 1 96 [.ref a0, .int a1] h n (fI n q) := by
  refine bi_en (D := 0) (T := tX10_isWalker) (funext fun pc => rfl) rfl (Nat.le_of_ble_eq_true rfl) ?_
  unfold fX10_isWalker at hh
  obtain ⟨_, eO, hh⟩ := bi_bd hh
  refine go_il (pc := 0) rfl (rfl : ai_ld 1 (lv_args 0 [.ref a0, .int a1]) = some (.int a1)) ?_
  refine bi_ite hh (fun hc hh => ?_) (fun hc hh => ?_)
  · refine go_ifltT (pc := 1) rfl hc ?_
    refine go_pi (pc := 22) rfl ?_
    exact go_rz (pc := 23) rfl bi_z0 hh
  · refine go_ifltF (pc := 1) rfl hc ?_
    refine go_il (pc := 4) rfl (rfl : ai_ld 1 (lv_args 0 [.ref a0, .int a1]) = some (.int a1)) ?_
    refine go_al (pc := 5) rfl (rfl : ai_ld 0 (lv_args 0 [.ref a0, .int a1]) = some (.ref a0)) ?_
    obtain ⟨x1, ex1, hh⟩ := bi_bd hh
    refine go_gfR (pc := 6) rfl ex1 ?_
    obtain ⟨x2, ex2, hh⟩ := bi_bd hh
    refine go_gfR (pc := 9) rfl ex2 ?_
    obtain ⟨x3, ex3, hh⟩ := bi_bd hh
    refine go_gfI (pc := 12) rfl ex3 ?_
    refine bi_ite hh (fun hc hh => ?_) (fun hc hh => ?_)
    · refine go_cmpgeT (pc := 15) rfl hc ?_
      refine go_pi (pc := 22) rfl ?_
      exact go_rz (pc := 23) rfl bi_z0 hh
    · refine go_cmpgeF (pc := 15) rfl hc ?_
      refine go_pi (pc := 18) rfl ?_
      refine go_goto (pc := 19) rfl ?_
      exact go_rz (pc := 23) rfl bi_z1 hh
def fX10_path (n : Nat) (h : ai_H) (a0 : Nat) (a1 : Int32) (a2 : Int32) : Option ((Int32 ⊕ Nat) × ai_H) :=
  (kO n h a0 10).bind fun _ =>
  (fX10_isPath n h a0 a1).bind fun q1 =>
  if ¬ q1.1 = 0 then (
    if a2 = 0 then (
      (pR n q1.2 a0 10 3).bind fun x2 =>
      (pR n q1.2 x2 8 1).bind fun x3 =>
      (fX6_cell n q1.2 x3 a1 (0 : Int32)).bind fun q4 =>
      some (.inl q4.1, q4.2))
    else (
      if a2 = 1 then (
        (pR n q1.2 a0 10 3).bind fun x5 =>
        (pR n q1.2 x5 8 1).bind fun x6 =>
        (fX6_cell n q1.2 x6 a1 (1 : Int32)).bind fun q7 =>
        some (.inl q7.1, q7.2))
      else (
        if a2 = 2 then (
          (pR n q1.2 a0 10 3).bind fun x8 =>
          (pR n q1.2 x8 8 1).bind fun x9 =>
          (fX6_cell n q1.2 x9 a1 (2 : Int32)).bind fun q10 =>
          some (.inl q10.1, q10.2))
        else (
          if a2 = 3 then (
            (pR n q1.2 a0 10 3).bind fun x11 =>
            (pR n q1.2 x11 8 1).bind fun x12 =>
            (fX6_cell n q1.2 x12 a1 (3 : Int32)).bind fun q13 =>
            some (.inl q13.1, q13.2))
          else (
            if a2 = 4 then (
              (pR n q1.2 a0 10 5).bind fun x14 =>
              (pR n q1.2 x14 5 5).bind fun x15 =>
              (gX 1 n q1.2 x15 a1).bind fun x16 =>
              some (.inl x16, q1.2))
            else (
              if a2 = 5 then (
                (pR n q1.2 a0 10 5).bind fun x17 =>
                (fX5_isKept n q1.2 x17 a1).bind fun q18 =>
                if q18.1 = 0 then (
                  some (.inl (0 : Int32), q18.2))
                else (
                  some (.inl (1 : Int32), q18.2)))
              else (
                if a2 = 6 then (
                  (pR n q1.2 a0 10 5).bind fun x19 =>
                  (pR n q1.2 x19 5 6).bind fun x20 =>
                  (gX 1 n q1.2 x20 a1).bind fun x21 =>
                  some (.inl x21, q1.2))
                else (
                  if a2 = 7 then (
                    (pR n q1.2 a0 10 3).bind fun x22 =>
                    (pR n q1.2 a0 10 5).bind fun x23 =>
                    (pI n q1.2 x23 5 0).bind fun x24 =>
                    (fX8_isBullOn n q1.2 x22 a1 x24).bind fun q25 =>
                    if q25.1 = 0 then (
                      some (.inl (0 : Int32), q25.2))
                    else (
                      some (.inl (1 : Int32), q25.2)))
                  else (
                    some (.inr 2, q1.2))))))))))
  else (
    some (.inr 1, q1.2))
theorem gX10_path {n : Nat} {h : ai_H} {a0 : Nat} {a1 : Int32} {a2 : Int32} {q : (Int32 ⊕ Nat) × ai_H} (hh : fX10_path n h a0 a1 a2 = some q) : kO n h a0 10 = some () := by
  obtain ⟨_, e, -⟩ := bi_bd hh
  exact e
theorem sX10_path {n : Nat} {h : ai_H} {a0 : Nat} {a1 : Int32} {a2 : Int32} {q : (Int32 ⊕ Nat) × ai_H} (hh : fX10_path n h a0 a1 a2 = some q) : bi_sp 3 98 [.ref a0, .int a1, .int a2] h n (tI n q) := by
  refine bi_en (D := 2) (T := tX10_path) (funext fun pc => rfl) rfl (Nat.le_of_ble_eq_true rfl) ?_
  unfold fX10_path at hh
  obtain ⟨_, eO, hh⟩ := bi_bd hh
  refine go_al (pc := 0) rfl (rfl : ai_ld 0 (lv_args 0 [.ref a0, .int a1, .int a2]) = some (.ref a0)) ?_
  refine go_il (pc := 1) rfl (rfl : ai_ld 1 (lv_args 0 [.ref a0, .int a1, .int a2]) = some (.int a1)) ?_
  obtain ⟨q1, eq1, hh⟩ := bi_bd hh
  refine go_ivI (pc := 2) rfl rfl (gX10_isPath eq1) (Nat.le_of_ble_eq_true rfl) (bi_up (sX10_isPath eq1) (Nat.le_of_ble_eq_true rfl)) ?_
  refine bi_ite hh (fun hc hh => ?_) (fun hc hh => ?_)
  · refine go_ifneT (pc := 5) rfl hc ?_
    refine go_il (pc := 18) rfl (rfl : ai_ld 2 (lv_args 0 [.ref a0, .int a1, .int a2]) = some (.int a2)) ?_
    refine bi_ite hh (fun hc0 hh => ?_) (fun hc0 hh => ?_)
    · refine go_swc (t := 64) 0 (pc := 19) rfl hc0 (by decide) ?_
      refine go_al (pc := 64) rfl (rfl : ai_ld 0 (lv_args 0 [.ref a0, .int a1, .int a2]) = some (.ref a0)) ?_
      obtain ⟨x2, ex2, hh⟩ := bi_bd hh
      refine go_gfR (pc := 65) rfl ex2 ?_
      obtain ⟨x3, ex3, hh⟩ := bi_bd hh
      refine go_gfR (pc := 68) rfl ex3 ?_
      refine go_il (pc := 71) rfl (rfl : ai_ld 1 (lv_args 0 [.ref a0, .int a1, .int a2]) = some (.int a1)) ?_
      refine go_pi (pc := 72) rfl ?_
      obtain ⟨q4, eq4, hh⟩ := bi_bd hh
      refine go_ivI (pc := 73) rfl rfl (gX6_cell eq4) (Nat.le_of_ble_eq_true rfl) (bi_up (sX6_cell eq4) (Nat.le_of_ble_eq_true rfl)) ?_
      exact go_tri (pc := 76) rfl hh
    · skip
      refine bi_ite hh (fun hc1 hh => ?_) (fun hc1 hh => ?_)
      · refine go_swc (t := 77) 1 (pc := 19) rfl hc1 (by decide) ?_
        refine go_al (pc := 77) rfl (rfl : ai_ld 0 (lv_args 0 [.ref a0, .int a1, .int a2]) = some (.ref a0)) ?_
        obtain ⟨x5, ex5, hh⟩ := bi_bd hh
        refine go_gfR (pc := 78) rfl ex5 ?_
        obtain ⟨x6, ex6, hh⟩ := bi_bd hh
        refine go_gfR (pc := 81) rfl ex6 ?_
        refine go_il (pc := 84) rfl (rfl : ai_ld 1 (lv_args 0 [.ref a0, .int a1, .int a2]) = some (.int a1)) ?_
        refine go_pi (pc := 85) rfl ?_
        obtain ⟨q7, eq7, hh⟩ := bi_bd hh
        refine go_ivI (pc := 86) rfl rfl (gX6_cell eq7) (Nat.le_of_ble_eq_true rfl) (bi_up (sX6_cell eq7) (Nat.le_of_ble_eq_true rfl)) ?_
        exact go_tri (pc := 89) rfl hh
      · skip
        refine bi_ite hh (fun hc2 hh => ?_) (fun hc2 hh => ?_)
        · refine go_swc (t := 90) 2 (pc := 19) rfl hc2 (by decide) ?_
          refine go_al (pc := 90) rfl (rfl : ai_ld 0 (lv_args 0 [.ref a0, .int a1, .int a2]) = some (.ref a0)) ?_
          obtain ⟨x8, ex8, hh⟩ := bi_bd hh
          refine go_gfR (pc := 91) rfl ex8 ?_
          obtain ⟨x9, ex9, hh⟩ := bi_bd hh
          refine go_gfR (pc := 94) rfl ex9 ?_
          refine go_il (pc := 97) rfl (rfl : ai_ld 1 (lv_args 0 [.ref a0, .int a1, .int a2]) = some (.int a1)) ?_
          refine go_pi (pc := 98) rfl ?_
          obtain ⟨q10, eq10, hh⟩ := bi_bd hh
          refine go_ivI (pc := 99) rfl rfl (gX6_cell eq10) (Nat.le_of_ble_eq_true rfl) (bi_up (sX6_cell eq10) (Nat.le_of_ble_eq_true rfl)) ?_
          exact go_tri (pc := 102) rfl hh
        · skip
          refine bi_ite hh (fun hc3 hh => ?_) (fun hc3 hh => ?_)
          · refine go_swc (t := 103) 3 (pc := 19) rfl hc3 (by decide) ?_
            refine go_al (pc := 103) rfl (rfl : ai_ld 0 (lv_args 0 [.ref a0, .int a1, .int a2]) = some (.ref a0)) ?_
            obtain ⟨x11, ex11, hh⟩ := bi_bd hh
            refine go_gfR (pc := 104) rfl ex11 ?_
            obtain ⟨x12, ex12, hh⟩ := bi_bd hh
            refine go_gfR (pc := 107) rfl ex12 ?_
            refine go_il (pc := 110) rfl (rfl : ai_ld 1 (lv_args 0 [.ref a0, .int a1, .int a2]) = some (.int a1)) ?_
            refine go_pi (pc := 111) rfl ?_
            obtain ⟨q13, eq13, hh⟩ := bi_bd hh
            refine go_ivI (pc := 112) rfl rfl (gX6_cell eq13) (Nat.le_of_ble_eq_true rfl) (bi_up (sX6_cell eq13) (Nat.le_of_ble_eq_true rfl)) ?_
            exact go_tri (pc := 115) rfl hh
          · skip
            refine bi_ite hh (fun hc4 hh => ?_) (fun hc4 hh => ?_)
            · refine go_swc (t := 116) 4 (pc := 19) rfl hc4 (by decide) ?_
              refine go_al (pc := 116) rfl (rfl : ai_ld 0 (lv_args 0 [.ref a0, .int a1, .int a2]) = some (.ref a0)) ?_
              obtain ⟨x14, ex14, hh⟩ := bi_bd hh
              refine go_gfR (pc := 117) rfl ex14 ?_
              obtain ⟨x15, ex15, hh⟩ := bi_bd hh
              refine go_gfR (pc := 120) rfl ex15 ?_
              refine go_il (pc := 123) rfl (rfl : ai_ld 1 (lv_args 0 [.ref a0, .int a1, .int a2]) = some (.int a1)) ?_
              obtain ⟨x16, ex16, hh⟩ := bi_bd hh
              refine go_iald (pc := 124) rfl ex16 ?_
              exact go_tri (pc := 125) rfl hh
            · skip
              refine bi_ite hh (fun hc5 hh => ?_) (fun hc5 hh => ?_)
              · refine go_swc (t := 126) 5 (pc := 19) rfl hc5 (by decide) ?_
                refine go_al (pc := 126) rfl (rfl : ai_ld 0 (lv_args 0 [.ref a0, .int a1, .int a2]) = some (.ref a0)) ?_
                obtain ⟨x17, ex17, hh⟩ := bi_bd hh
                refine go_gfR (pc := 127) rfl ex17 ?_
                refine go_il (pc := 130) rfl (rfl : ai_ld 1 (lv_args 0 [.ref a0, .int a1, .int a2]) = some (.int a1)) ?_
                obtain ⟨q18, eq18, hh⟩ := bi_bd hh
                refine go_ivI (pc := 131) rfl rfl (gX5_isKept eq18) (Nat.le_of_ble_eq_true rfl) (bi_up (sX5_isKept eq18) (Nat.le_of_ble_eq_true rfl)) ?_
                refine bi_ite hh (fun hc hh => ?_) (fun hc hh => ?_)
                · refine go_ifeqT (pc := 134) rfl hc ?_
                  refine go_pi (pc := 141) rfl ?_
                  exact go_tri (pc := 142) rfl hh
                · refine go_ifeqF (pc := 134) rfl hc ?_
                  refine go_pi (pc := 137) rfl ?_
                  refine go_goto (pc := 138) rfl ?_
                  exact go_tri (pc := 142) rfl hh
              · skip
                refine bi_ite hh (fun hc6 hh => ?_) (fun hc6 hh => ?_)
                · refine go_swc (t := 143) 6 (pc := 19) rfl hc6 (by decide) ?_
                  refine go_al (pc := 143) rfl (rfl : ai_ld 0 (lv_args 0 [.ref a0, .int a1, .int a2]) = some (.ref a0)) ?_
                  obtain ⟨x19, ex19, hh⟩ := bi_bd hh
                  refine go_gfR (pc := 144) rfl ex19 ?_
                  obtain ⟨x20, ex20, hh⟩ := bi_bd hh
                  refine go_gfR (pc := 147) rfl ex20 ?_
                  refine go_il (pc := 150) rfl (rfl : ai_ld 1 (lv_args 0 [.ref a0, .int a1, .int a2]) = some (.int a1)) ?_
                  obtain ⟨x21, ex21, hh⟩ := bi_bd hh
                  refine go_iald (pc := 151) rfl ex21 ?_
                  exact go_tri (pc := 152) rfl hh
                · skip
                  refine bi_ite hh (fun hc7 hh => ?_) (fun hc7 hh => ?_)
                  · refine go_swc (t := 153) 7 (pc := 19) rfl hc7 (by decide) ?_
                    refine go_al (pc := 153) rfl (rfl : ai_ld 0 (lv_args 0 [.ref a0, .int a1, .int a2]) = some (.ref a0)) ?_
                    obtain ⟨x22, ex22, hh⟩ := bi_bd hh
                    refine go_gfR (pc := 154) rfl ex22 ?_
                    refine go_il (pc := 157) rfl (rfl : ai_ld 1 (lv_args 0 [.ref a0, .int a1, .int a2]) = some (.int a1)) ?_
                    refine go_al (pc := 158) rfl (rfl : ai_ld 0 (lv_args 0 [.ref a0, .int a1, .int a2]) = some (.ref a0)) ?_
                    obtain ⟨x23, ex23, hh⟩ := bi_bd hh
                    refine go_gfR (pc := 159) rfl ex23 ?_
                    obtain ⟨x24, ex24, hh⟩ := bi_bd hh
                    refine go_gfI (pc := 162) rfl ex24 ?_
                    obtain ⟨q25, eq25, hh⟩ := bi_bd hh
                    refine go_ivI (pc := 165) rfl rfl (gX8_isBullOn eq25) (Nat.le_of_ble_eq_true rfl) (bi_up (sX8_isBullOn eq25) (Nat.le_of_ble_eq_true rfl)) ?_
                    refine bi_ite hh (fun hc hh => ?_) (fun hc hh => ?_)
                    · refine go_ifeqT (pc := 168) rfl hc ?_
                      refine go_pi (pc := 175) rfl ?_
                      exact go_tri (pc := 176) rfl hh
                    · refine go_ifeqF (pc := 168) rfl hc ?_
                      refine go_pi (pc := 171) rfl ?_
                      refine go_goto (pc := 172) rfl ?_
                      exact go_tri (pc := 176) rfl hh
                  · skip
                    refine go_swd (pc := 19) rfl (fun i hi => match i, hi with | 0, _ => Or.inr (lv_neT hc0 (by decide)) | 1, _ => Or.inr (lv_neT hc1 (by decide)) | 2, _ => Or.inr (lv_neT hc2 (by decide)) | 3, _ => Or.inr (lv_neT hc3 (by decide)) | 4, _ => Or.inr (lv_neT hc4 (by decide)) | 5, _ => Or.inr (lv_neT hc5 (by decide)) | 6, _ => Or.inr (lv_neT hc6 (by decide)) | 7, _ => Or.inr (lv_neT hc7 (by decide)) | i + 8, hi => absurd hi (Nat.not_lt.mpr (Nat.le_add_left _ _))) ?_
                    exact go_th (pc := 177) rfl (Nat.le_of_ble_eq_true rfl) (bi_xI hh)
  · refine go_ifneF (pc := 5) rfl hc ?_
    exact go_th (pc := 8) rfl (Nat.le_of_ble_eq_true rfl) (bi_xI hh)
def fX10_pathsHeCanGo_52 (n : Nat) (r20 : ai_H → Nat → Int32 → Int32 → Int32 → Option (Int32 × ai_H)) (h : ai_H) (v0 : Nat) (v1 : Int32) (v2 : Int32) (v3 : Int32) : Option (Int32 × ai_H) :=
  r20 h v0 v1 v2 (v3 + 1)
theorem sX10_pathsHeCanGo_52 {n : Nat} {r20 : ai_H → Nat → Int32 → Int32 → Int32 → Option (Int32 × ai_H)} {q : Int32 × ai_H} {h : ai_H} {v0 : Nat} {v1 : Int32} {v2 : Int32} {v3 : Int32} {lv : ai_L} (R20 : ∀ (h : ai_H) (v0 : Nat) (v1 : Int32) (v2 : Int32) (v3 : Int32) (lv : ai_L), ai_ld 0 lv = some (.ref v0) → ai_ld 1 lv = some (.int v1) → ai_ld 2 lv = some (.int v2) → ai_ld 3 lv = some (.int v3) → r20 h v0 v1 v2 v3 = some q → bi_go 3 tX10_pathsHeCanGo n (fI n q) 20 lv [] h) (l0 : ai_ld 0 lv = some (.ref v0)) (l1 : ai_ld 1 lv = some (.int v1)) (l2 : ai_ld 2 lv = some (.int v2)) (l3 : ai_ld 3 lv = some (.int v3)) (hh : fX10_pathsHeCanGo_52 n r20 h v0 v1 v2 v3 = some q) : bi_go 3 tX10_pathsHeCanGo n (fI n q) 52 lv [] h := by
  unfold fX10_pathsHeCanGo_52 at hh
  refine go_inc (pc := 52) rfl l3 ?_
  refine go_goto (pc := 55) rfl ?_
  exact R20 _ _ _ _ _ _ (bi_k1 l0 rfl rfl) (bi_k1 l1 rfl rfl) (bi_k1 l2 rfl rfl) bi_e1 hh
def fX10_pathsHeCanGo_20b (n : Nat) (r20 : ai_H → Nat → Int32 → Int32 → Int32 → Option (Int32 × ai_H)) (h : ai_H) (v0 : Nat) (v1 : Int32) (v2 : Int32) (v3 : Int32) : Option (Int32 × ai_H) :=
  (pR n h v0 10 3).bind fun x1 =>
  (pR n h x1 8 1).bind fun x2 =>
  (pI n h x2 6 4).bind fun x3 =>
  if x3 ≤ v3 then (
    some (v2, h))
  else (
    (pR n h v0 10 11).bind fun x4 =>
    (fX0_costIfHeCan n h x4 v1 v3).bind fun q5 =>
    if q5.1 < 0 then (
      fX10_pathsHeCanGo_52 n r20 q5.2 v0 v1 v2 v3)
    else (
      fX10_pathsHeCanGo_52 n r20 q5.2 v0 v1 (v2 ||| ((1 : Int32) <<< (v3 &&& 31))) v3))
theorem sX10_pathsHeCanGo_20b {n : Nat} {r20 : ai_H → Nat → Int32 → Int32 → Int32 → Option (Int32 × ai_H)} {q : Int32 × ai_H} {h : ai_H} {v0 : Nat} {v1 : Int32} {v2 : Int32} {v3 : Int32} {lv : ai_L} (R20 : ∀ (h : ai_H) (v0 : Nat) (v1 : Int32) (v2 : Int32) (v3 : Int32) (lv : ai_L), ai_ld 0 lv = some (.ref v0) → ai_ld 1 lv = some (.int v1) → ai_ld 2 lv = some (.int v2) → ai_ld 3 lv = some (.int v3) → r20 h v0 v1 v2 v3 = some q → bi_go 3 tX10_pathsHeCanGo n (fI n q) 20 lv [] h) (l0 : ai_ld 0 lv = some (.ref v0)) (l1 : ai_ld 1 lv = some (.int v1)) (l2 : ai_ld 2 lv = some (.int v2)) (l3 : ai_ld 3 lv = some (.int v3)) (hh : fX10_pathsHeCanGo_20b n r20 h v0 v1 v2 v3 = some q) : bi_go 3 tX10_pathsHeCanGo n (fI n q) 20 lv [] h := by
  unfold fX10_pathsHeCanGo_20b at hh
  refine go_il (pc := 20) rfl l3 ?_
  refine go_al (pc := 21) rfl l0 ?_
  obtain ⟨x1, ex1, hh⟩ := bi_bd hh
  refine go_gfR (pc := 22) rfl ex1 ?_
  obtain ⟨x2, ex2, hh⟩ := bi_bd hh
  refine go_gfR (pc := 25) rfl ex2 ?_
  obtain ⟨x3, ex3, hh⟩ := bi_bd hh
  refine go_gfI (pc := 28) rfl ex3 ?_
  refine bi_ite hh (fun hc hh => ?_) (fun hc hh => ?_)
  · refine go_cmpgeT (pc := 31) rfl hc ?_
    refine go_il (pc := 58) rfl l2 ?_
    exact go_ri (pc := 59) rfl hh
  · refine go_cmpgeF (pc := 31) rfl hc ?_
    refine go_al (pc := 34) rfl l0 ?_
    obtain ⟨x4, ex4, hh⟩ := bi_bd hh
    refine go_gfR (pc := 35) rfl ex4 ?_
    refine go_il (pc := 38) rfl l1 ?_
    refine go_il (pc := 39) rfl l3 ?_
    obtain ⟨q5, eq5, hh⟩ := bi_bd hh
    refine go_ivI (pc := 40) rfl rfl (gX0_costIfHeCan eq5) (Nat.le_of_ble_eq_true rfl) (bi_up (sX0_costIfHeCan eq5) (Nat.le_of_ble_eq_true rfl)) ?_
    refine bi_ite hh (fun hc hh => ?_) (fun hc hh => ?_)
    · refine go_ifltT (pc := 43) rfl hc ?_
      exact sX10_pathsHeCanGo_52 R20 l0 l1 l2 l3 hh
    · refine go_ifltF (pc := 43) rfl hc ?_
      refine go_il (pc := 46) rfl l2 ?_
      refine go_pi (pc := 47) rfl ?_
      refine go_il (pc := 48) rfl l3 ?_
      refine go_ishl (pc := 49) rfl ?_
      refine go_ior (pc := 50) rfl ?_
      refine go_is (pc := 51) rfl ?_
      exact sX10_pathsHeCanGo_52 R20 (bi_k1 l0 rfl rfl) (bi_k1 l1 rfl rfl) bi_e1 (bi_k1 l3 rfl rfl) hh
def fX10_pathsHeCanGo_20 (n : Nat) : Nat → ai_H → Nat → Int32 → Int32 → Int32 → Option (Int32 × ai_H)
  | 0 => fun _ _ _ _ _ => none
  | k + 1 => fun h v0 v1 v2 v3 => fX10_pathsHeCanGo_20b n (fX10_pathsHeCanGo_20 n k) h v0 v1 v2 v3
theorem sX10_pathsHeCanGo_20 {n : Nat} {q : Int32 × ai_H} : ∀ (k : Nat) (h : ai_H) (v0 : Nat) (v1 : Int32) (v2 : Int32) (v3 : Int32) (lv : ai_L), ai_ld 0 lv = some (.ref v0) → ai_ld 1 lv = some (.int v1) → ai_ld 2 lv = some (.int v2) → ai_ld 3 lv = some (.int v3) → fX10_pathsHeCanGo_20 n k h v0 v1 v2 v3 = some q → bi_go 3 tX10_pathsHeCanGo n (fI n q) 20 lv [] h
  | 0 => fun _ _ _ _ _ _ _ _ _ _ hh => by cases hh
  | k + 1 => fun h v0 v1 v2 v3 lv l0 l1 l2 l3 hh => sX10_pathsHeCanGo_20b  (sX10_pathsHeCanGo_20  k) l0 l1 l2 l3 hh
def fX10_pathsHeCanGo (n : Nat) (h : ai_H) (a0 : Nat) (a1 : Int32) : Option (Int32 × ai_H) :=
  (kO n h a0 10).bind fun _ =>
  (pR n h a0 10 11).bind fun x1 =>
  (pR n h a0 10 3).bind fun x2 =>
  (pR n h a0 10 5).bind fun x3 =>
  (fX0_begin n h x1 x2 x3 (0 : Int32)).bind fun q4 =>
  fX10_pathsHeCanGo_20 n bi_K q4.2 a0 a1 (0 : Int32) (0 : Int32)
theorem gX10_pathsHeCanGo {n : Nat} {h : ai_H} {a0 : Nat} {a1 : Int32} {q : Int32 × ai_H} (hh : fX10_pathsHeCanGo n h a0 a1 = some q) : kO n h a0 10 = some () := by
  obtain ⟨_, e, -⟩ := bi_bd hh
  exact e
theorem sX10_pathsHeCanGo {n : Nat} {h : ai_H} {a0 : Nat} {a1 : Int32} {q : Int32 × ai_H} (hh : fX10_pathsHeCanGo n h a0 a1 = some q) : bi_sp 4 100 [.ref a0, .int a1] h n (fI n q) := by
  refine bi_en (D := 3) (T := tX10_pathsHeCanGo) (funext fun pc => rfl) rfl (Nat.le_of_ble_eq_true rfl) ?_
  unfold fX10_pathsHeCanGo at hh
  obtain ⟨_, eO, hh⟩ := bi_bd hh
  refine go_al (pc := 0) rfl (rfl : ai_ld 0 (lv_args 0 [.ref a0, .int a1]) = some (.ref a0)) ?_
  obtain ⟨x1, ex1, hh⟩ := bi_bd hh
  refine go_gfR (pc := 1) rfl ex1 ?_
  refine go_al (pc := 4) rfl (rfl : ai_ld 0 (lv_args 0 [.ref a0, .int a1]) = some (.ref a0)) ?_
  obtain ⟨x2, ex2, hh⟩ := bi_bd hh
  refine go_gfR (pc := 5) rfl ex2 ?_
  refine go_al (pc := 8) rfl (rfl : ai_ld 0 (lv_args 0 [.ref a0, .int a1]) = some (.ref a0)) ?_
  obtain ⟨x3, ex3, hh⟩ := bi_bd hh
  refine go_gfR (pc := 9) rfl ex3 ?_
  refine go_pi (pc := 12) rfl ?_
  obtain ⟨q4, eq4, hh⟩ := bi_bd hh
  refine go_ivV (pc := 13) rfl rfl (gX0_begin eq4) (Nat.le_of_ble_eq_true rfl) (bi_up (sX0_begin eq4) (Nat.le_of_ble_eq_true rfl)) ?_
  refine go_pi (pc := 16) rfl ?_
  refine go_is (pc := 17) rfl ?_
  refine go_pi (pc := 18) rfl ?_
  refine go_is (pc := 19) rfl ?_
  exact sX10_pathsHeCanGo_20  _ _ _ _ _ _ _ (bi_k1 (bi_k1 (rfl : ai_ld 0 (lv_args 0 [.ref a0, .int a1]) = some (.ref a0)) rfl rfl) rfl rfl) (bi_k1 (bi_k1 (rfl : ai_ld 1 (lv_args 0 [.ref a0, .int a1]) = some (.int a1)) rfl rfl) rfl rfl) (bi_k1 bi_e1 rfl rfl) bi_e1 hh
def fX10_walker (n : Nat) (h : ai_H) (a0 : Nat) (a1 : Int32) (a2 : Int32) : Option (Int32 × ai_H) :=
  (kO n h a0 10).bind fun _ =>
  (fX10_isWalker n h a0 a1).bind fun q1 =>
  if ¬ q1.1 = 0 then (
    if a2 = 0 then (
      (pR n q1.2 a0 10 5).bind fun x2 =>
      (pR n q1.2 x2 5 7).bind fun x3 =>
      (gX 1 n q1.2 x3 a1).bind fun x4 =>
      some (x4, q1.2))
    else (
      if a2 = 1 then (
        (pR n q1.2 a0 10 3).bind fun x5 =>
        (pR n q1.2 x5 8 2).bind fun x6 =>
        (fX6_cell n q1.2 x6 a1 (1 : Int32)).bind fun q7 =>
        some (q7.1, q7.2))
      else (
        if a2 = 2 then (
          (pR n q1.2 a0 10 3).bind fun x8 =>
          (pR n q1.2 x8 8 2).bind fun x9 =>
          (fX6_cell n q1.2 x9 a1 (2 : Int32)).bind fun q10 =>
          some (q10.1, q10.2))
        else (
          if a2 = 3 then (
            (pR n q1.2 a0 10 5).bind fun x11 =>
            (pR n q1.2 x11 5 8).bind fun x12 =>
            (gX 1 n q1.2 x12 a1).bind fun x13 =>
            some (x13, q1.2))
          else (
            if a2 = 4 then (
              (fX10_pathsHeCanGo n q1.2 a0 a1).bind fun q14 =>
              some (q14.1, q14.2))
            else (
              some ((-1 : Int32), q1.2)))))))
  else (
    some ((-1 : Int32), q1.2))
theorem gX10_walker {n : Nat} {h : ai_H} {a0 : Nat} {a1 : Int32} {a2 : Int32} {q : Int32 × ai_H} (hh : fX10_walker n h a0 a1 a2 = some q) : kO n h a0 10 = some () := by
  obtain ⟨_, e, -⟩ := bi_bd hh
  exact e
theorem sX10_walker {n : Nat} {h : ai_H} {a0 : Nat} {a1 : Int32} {a2 : Int32} {q : Int32 × ai_H} (hh : fX10_walker n h a0 a1 a2 = some q) : bi_sp 5 99 [.ref a0, .int a1, .int a2] h n (fI n q) := by
  refine bi_en (D := 4) (T := tX10_walker) (funext fun pc => rfl) rfl (Nat.le_of_ble_eq_true rfl) ?_
  unfold fX10_walker at hh
  obtain ⟨_, eO, hh⟩ := bi_bd hh
  refine go_al (pc := 0) rfl (rfl : ai_ld 0 (lv_args 0 [.ref a0, .int a1, .int a2]) = some (.ref a0)) ?_
  refine go_il (pc := 1) rfl (rfl : ai_ld 1 (lv_args 0 [.ref a0, .int a1, .int a2]) = some (.int a1)) ?_
  obtain ⟨q1, eq1, hh⟩ := bi_bd hh
  refine go_ivI (pc := 2) rfl rfl (gX10_isWalker eq1) (Nat.le_of_ble_eq_true rfl) (bi_up (sX10_isWalker eq1) (Nat.le_of_ble_eq_true rfl)) ?_
  refine bi_ite hh (fun hc hh => ?_) (fun hc hh => ?_)
  · refine go_ifneT (pc := 5) rfl hc ?_
    refine go_il (pc := 10) rfl (rfl : ai_ld 2 (lv_args 0 [.ref a0, .int a1, .int a2]) = some (.int a2)) ?_
    refine bi_ite hh (fun hc0 hh => ?_) (fun hc0 hh => ?_)
    · refine go_swc (t := 44) 0 (pc := 11) rfl hc0 (by decide) ?_
      refine go_al (pc := 44) rfl (rfl : ai_ld 0 (lv_args 0 [.ref a0, .int a1, .int a2]) = some (.ref a0)) ?_
      obtain ⟨x2, ex2, hh⟩ := bi_bd hh
      refine go_gfR (pc := 45) rfl ex2 ?_
      obtain ⟨x3, ex3, hh⟩ := bi_bd hh
      refine go_gfR (pc := 48) rfl ex3 ?_
      refine go_il (pc := 51) rfl (rfl : ai_ld 1 (lv_args 0 [.ref a0, .int a1, .int a2]) = some (.int a1)) ?_
      obtain ⟨x4, ex4, hh⟩ := bi_bd hh
      refine go_iald (pc := 52) rfl ex4 ?_
      exact go_ri (pc := 53) rfl hh
    · skip
      refine bi_ite hh (fun hc1 hh => ?_) (fun hc1 hh => ?_)
      · refine go_swc (t := 54) 1 (pc := 11) rfl hc1 (by decide) ?_
        refine go_al (pc := 54) rfl (rfl : ai_ld 0 (lv_args 0 [.ref a0, .int a1, .int a2]) = some (.ref a0)) ?_
        obtain ⟨x5, ex5, hh⟩ := bi_bd hh
        refine go_gfR (pc := 55) rfl ex5 ?_
        obtain ⟨x6, ex6, hh⟩ := bi_bd hh
        refine go_gfR (pc := 58) rfl ex6 ?_
        refine go_il (pc := 61) rfl (rfl : ai_ld 1 (lv_args 0 [.ref a0, .int a1, .int a2]) = some (.int a1)) ?_
        refine go_pi (pc := 62) rfl ?_
        obtain ⟨q7, eq7, hh⟩ := bi_bd hh
        refine go_ivI (pc := 63) rfl rfl (gX6_cell eq7) (Nat.le_of_ble_eq_true rfl) (bi_up (sX6_cell eq7) (Nat.le_of_ble_eq_true rfl)) ?_
        exact go_ri (pc := 66) rfl hh
      · skip
        refine bi_ite hh (fun hc2 hh => ?_) (fun hc2 hh => ?_)
        · refine go_swc (t := 67) 2 (pc := 11) rfl hc2 (by decide) ?_
          refine go_al (pc := 67) rfl (rfl : ai_ld 0 (lv_args 0 [.ref a0, .int a1, .int a2]) = some (.ref a0)) ?_
          obtain ⟨x8, ex8, hh⟩ := bi_bd hh
          refine go_gfR (pc := 68) rfl ex8 ?_
          obtain ⟨x9, ex9, hh⟩ := bi_bd hh
          refine go_gfR (pc := 71) rfl ex9 ?_
          refine go_il (pc := 74) rfl (rfl : ai_ld 1 (lv_args 0 [.ref a0, .int a1, .int a2]) = some (.int a1)) ?_
          refine go_pi (pc := 75) rfl ?_
          obtain ⟨q10, eq10, hh⟩ := bi_bd hh
          refine go_ivI (pc := 76) rfl rfl (gX6_cell eq10) (Nat.le_of_ble_eq_true rfl) (bi_up (sX6_cell eq10) (Nat.le_of_ble_eq_true rfl)) ?_
          exact go_ri (pc := 79) rfl hh
        · skip
          refine bi_ite hh (fun hc3 hh => ?_) (fun hc3 hh => ?_)
          · refine go_swc (t := 80) 3 (pc := 11) rfl hc3 (by decide) ?_
            refine go_al (pc := 80) rfl (rfl : ai_ld 0 (lv_args 0 [.ref a0, .int a1, .int a2]) = some (.ref a0)) ?_
            obtain ⟨x11, ex11, hh⟩ := bi_bd hh
            refine go_gfR (pc := 81) rfl ex11 ?_
            obtain ⟨x12, ex12, hh⟩ := bi_bd hh
            refine go_gfR (pc := 84) rfl ex12 ?_
            refine go_il (pc := 87) rfl (rfl : ai_ld 1 (lv_args 0 [.ref a0, .int a1, .int a2]) = some (.int a1)) ?_
            obtain ⟨x13, ex13, hh⟩ := bi_bd hh
            refine go_iald (pc := 88) rfl ex13 ?_
            exact go_ri (pc := 89) rfl hh
          · skip
            refine bi_ite hh (fun hc4 hh => ?_) (fun hc4 hh => ?_)
            · refine go_swc (t := 90) 4 (pc := 11) rfl hc4 (by decide) ?_
              refine go_al (pc := 90) rfl (rfl : ai_ld 0 (lv_args 0 [.ref a0, .int a1, .int a2]) = some (.ref a0)) ?_
              refine go_il (pc := 91) rfl (rfl : ai_ld 1 (lv_args 0 [.ref a0, .int a1, .int a2]) = some (.int a1)) ?_
              obtain ⟨q14, eq14, hh⟩ := bi_bd hh
              refine go_ivI (pc := 92) rfl rfl (gX10_pathsHeCanGo eq14) (Nat.le_of_ble_eq_true rfl) (bi_up (sX10_pathsHeCanGo eq14) (Nat.le_of_ble_eq_true rfl)) ?_
              exact go_ri (pc := 95) rfl hh
            · skip
              refine go_swd (pc := 11) rfl (fun i hi => match i, hi with | 0, _ => Or.inr (lv_neT hc0 (by decide)) | 1, _ => Or.inr (lv_neT hc1 (by decide)) | 2, _ => Or.inr (lv_neT hc2 (by decide)) | 3, _ => Or.inr (lv_neT hc3 (by decide)) | 4, _ => Or.inr (lv_neT hc4 (by decide)) | i + 5, hi => absurd hi (Nat.not_lt.mpr (Nat.le_add_left _ _))) ?_
              refine go_pi (pc := 96) rfl ?_
              exact go_ri (pc := 97) rfl hh
  · refine go_ifneF (pc := 5) rfl hc ?_
    refine go_pi (pc := 8) rfl ?_
    exact go_ri (pc := 9) rfl hh
def fX10_law_67 (n : Nat) (h : ai_H) (v0 : Nat) (v1 : Int32) (s0 : Int32) (s1 : Int32) (s2 : Nat) : Option (Int64 × ai_H) :=
  (fX0_lookAt n h s2 s1 s0).bind fun q1 =>
  (pR n q1.2 v0 10 3).bind fun x2 =>
  (pR n q1.2 x2 8 5).bind fun x3 =>
  (fX2_value n q1.2 x3 v1 (-9223372036854775808 : Int64)).bind fun q4 =>
  some (q4.1, q4.2)
theorem sX10_law_67 {n : Nat} {q : Int64 × ai_H} {h : ai_H} {v0 : Nat} {v1 : Int32} {s0 : Int32} {s1 : Int32} {s2 : Nat} {lv : ai_L} (l0 : ai_ld 0 lv = some (.ref v0)) (l1 : ai_ld 1 lv = some (.int v1)) (hh : fX10_law_67 n h v0 v1 s0 s1 s2 = some q) : bi_go 2 tX10_law n (fJ n q) 67 lv [.int s0, .int s1, .ref s2] h := by
  unfold fX10_law_67 at hh
  obtain ⟨q1, eq1, hh⟩ := bi_bd hh
  refine go_ivV (pc := 67) rfl rfl (gX0_lookAt eq1) (Nat.le_of_ble_eq_true rfl) (bi_up (sX0_lookAt eq1) (Nat.le_of_ble_eq_true rfl)) ?_
  refine go_al (pc := 70) rfl l0 ?_
  obtain ⟨x2, ex2, hh⟩ := bi_bd hh
  refine go_gfR (pc := 71) rfl ex2 ?_
  obtain ⟨x3, ex3, hh⟩ := bi_bd hh
  refine go_gfR (pc := 74) rfl ex3 ?_
  refine go_il (pc := 77) rfl l1 ?_
  refine go_pl (pc := 78) rfl ?_
  obtain ⟨q4, eq4, hh⟩ := bi_bd hh
  refine go_ivJ (pc := 81) rfl rfl (gX2_value eq4) (Nat.le_of_ble_eq_true rfl) (bi_up (sX2_value eq4) (Nat.le_of_ble_eq_true rfl)) ?_
  exact go_rl (pc := 84) rfl hh
def fX10_law_37 (n : Nat) (h : ai_H) (v0 : Nat) (v1 : Int32) (v2 : Int32) (v3 : Int32) : Option (Int64 × ai_H) :=
  (pR n h v0 10 11).bind fun x1 =>
  (pR n h v0 10 3).bind fun x2 =>
  (pR n h v0 10 5).bind fun x3 =>
  (fX0_begin n h x1 x2 x3 (0 : Int32)).bind fun q4 =>
  (pR n q4.2 v0 10 11).bind fun x5 =>
  if ¬ v1 = 0 then (
    fX10_law_67 n q4.2 v0 v1 v3 v2 x5)
  else (
    fX10_law_67 n q4.2 v0 v1 (-1 : Int32) v2 x5)
theorem sX10_law_37 {n : Nat} {q : Int64 × ai_H} {h : ai_H} {v0 : Nat} {v1 : Int32} {v2 : Int32} {v3 : Int32} {lv : ai_L} (l0 : ai_ld 0 lv = some (.ref v0)) (l1 : ai_ld 1 lv = some (.int v1)) (l2 : ai_ld 2 lv = some (.int v2)) (l3 : ai_ld 3 lv = some (.int v3)) (hh : fX10_law_37 n h v0 v1 v2 v3 = some q) : bi_go 2 tX10_law n (fJ n q) 37 lv [] h := by
  unfold fX10_law_37 at hh
  refine go_al (pc := 37) rfl l0 ?_
  obtain ⟨x1, ex1, hh⟩ := bi_bd hh
  refine go_gfR (pc := 38) rfl ex1 ?_
  refine go_al (pc := 41) rfl l0 ?_
  obtain ⟨x2, ex2, hh⟩ := bi_bd hh
  refine go_gfR (pc := 42) rfl ex2 ?_
  refine go_al (pc := 45) rfl l0 ?_
  obtain ⟨x3, ex3, hh⟩ := bi_bd hh
  refine go_gfR (pc := 46) rfl ex3 ?_
  refine go_pi (pc := 49) rfl ?_
  obtain ⟨q4, eq4, hh⟩ := bi_bd hh
  refine go_ivV (pc := 50) rfl rfl (gX0_begin eq4) (Nat.le_of_ble_eq_true rfl) (bi_up (sX0_begin eq4) (Nat.le_of_ble_eq_true rfl)) ?_
  refine go_al (pc := 53) rfl l0 ?_
  obtain ⟨x5, ex5, hh⟩ := bi_bd hh
  refine go_gfR (pc := 54) rfl ex5 ?_
  refine go_il (pc := 57) rfl l2 ?_
  refine go_il (pc := 58) rfl l1 ?_
  refine bi_ite hh (fun hc hh => ?_) (fun hc hh => ?_)
  · refine go_ifneT (pc := 59) rfl hc ?_
    refine go_il (pc := 66) rfl l3 ?_
    exact sX10_law_67  l0 l1 hh
  · refine go_ifneF (pc := 59) rfl hc ?_
    refine go_pi (pc := 62) rfl ?_
    refine go_goto (pc := 63) rfl ?_
    exact sX10_law_67  l0 l1 hh
def fX10_law (n : Nat) (h : ai_H) (a0 : Nat) (a1 : Int32) (a2 : Int32) (a3 : Int32) : Option (Int64 × ai_H) :=
  (kO n h a0 10).bind fun _ =>
  (fX10_isWithin n h (0 : Int32) a1 (2 : Int32)).bind fun q1 =>
  if q1.1 = 0 then (
    some ((-9223372036854775808 : Int64), q1.2))
  else (
    (fX10_isPath n q1.2 a0 a2).bind fun q2 =>
    if ¬ q2.1 = 0 then (
      if a1 = 0 then (
        fX10_law_37 n q2.2 a0 a1 a2 a3)
      else (
        (fX10_isWalker n q2.2 a0 a3).bind fun q3 =>
        if ¬ q3.1 = 0 then (
          fX10_law_37 n q3.2 a0 a1 a2 a3)
        else (
          some ((-9223372036854775808 : Int64), q3.2))))
    else (
      some ((-9223372036854775808 : Int64), q2.2)))
theorem gX10_law {n : Nat} {h : ai_H} {a0 : Nat} {a1 : Int32} {a2 : Int32} {a3 : Int32} {q : Int64 × ai_H} (hh : fX10_law n h a0 a1 a2 a3 = some q) : kO n h a0 10 = some () := by
  obtain ⟨_, e, -⟩ := bi_bd hh
  exact e
theorem sX10_law {n : Nat} {h : ai_H} {a0 : Nat} {a1 : Int32} {a2 : Int32} {a3 : Int32} {q : Int64 × ai_H} (hh : fX10_law n h a0 a1 a2 a3 = some q) : bi_sp 3 101 [.ref a0, .int a1, .int a2, .int a3] h n (fJ n q) := by
  refine bi_en (D := 2) (T := tX10_law) (funext fun pc => rfl) rfl (Nat.le_of_ble_eq_true rfl) ?_
  unfold fX10_law at hh
  obtain ⟨_, eO, hh⟩ := bi_bd hh
  refine go_pi (pc := 0) rfl ?_
  refine go_il (pc := 1) rfl (rfl : ai_ld 1 (lv_args 0 [.ref a0, .int a1, .int a2, .int a3]) = some (.int a1)) ?_
  refine go_pi (pc := 2) rfl ?_
  obtain ⟨q1, eq1, hh⟩ := bi_bd hh
  refine go_iSI (pc := 3) rfl (Nat.le_of_ble_eq_true rfl) rfl (Nat.le_of_ble_eq_true rfl) (bi_up (sX10_isWithin eq1) (Nat.le_of_ble_eq_true rfl)) ?_
  refine bi_ite hh (fun hc hh => ?_) (fun hc hh => ?_)
  · refine go_ifeqT (pc := 6) rfl hc ?_
    refine go_pl (pc := 17) rfl ?_
    exact go_rl (pc := 20) rfl hh
  · refine go_ifeqF (pc := 6) rfl hc ?_
    refine go_al (pc := 9) rfl (rfl : ai_ld 0 (lv_args 0 [.ref a0, .int a1, .int a2, .int a3]) = some (.ref a0)) ?_
    refine go_il (pc := 10) rfl (rfl : ai_ld 2 (lv_args 0 [.ref a0, .int a1, .int a2, .int a3]) = some (.int a2)) ?_
    obtain ⟨q2, eq2, hh⟩ := bi_bd hh
    refine go_ivI (pc := 11) rfl rfl (gX10_isPath eq2) (Nat.le_of_ble_eq_true rfl) (bi_up (sX10_isPath eq2) (Nat.le_of_ble_eq_true rfl)) ?_
    refine bi_ite hh (fun hc hh => ?_) (fun hc hh => ?_)
    · refine go_ifneT (pc := 14) rfl hc ?_
      refine go_il (pc := 21) rfl (rfl : ai_ld 1 (lv_args 0 [.ref a0, .int a1, .int a2, .int a3]) = some (.int a1)) ?_
      refine bi_ite hh (fun hc hh => ?_) (fun hc hh => ?_)
      · refine go_ifeqT (pc := 22) rfl hc ?_
        exact sX10_law_37  (rfl : ai_ld 0 (lv_args 0 [.ref a0, .int a1, .int a2, .int a3]) = some (.ref a0)) (rfl : ai_ld 1 (lv_args 0 [.ref a0, .int a1, .int a2, .int a3]) = some (.int a1)) (rfl : ai_ld 2 (lv_args 0 [.ref a0, .int a1, .int a2, .int a3]) = some (.int a2)) (rfl : ai_ld 3 (lv_args 0 [.ref a0, .int a1, .int a2, .int a3]) = some (.int a3)) hh
      · refine go_ifeqF (pc := 22) rfl hc ?_
        refine go_al (pc := 25) rfl (rfl : ai_ld 0 (lv_args 0 [.ref a0, .int a1, .int a2, .int a3]) = some (.ref a0)) ?_
        refine go_il (pc := 26) rfl (rfl : ai_ld 3 (lv_args 0 [.ref a0, .int a1, .int a2, .int a3]) = some (.int a3)) ?_
        obtain ⟨q3, eq3, hh⟩ := bi_bd hh
        refine go_ivI (pc := 27) rfl rfl (gX10_isWalker eq3) (Nat.le_of_ble_eq_true rfl) (bi_up (sX10_isWalker eq3) (Nat.le_of_ble_eq_true rfl)) ?_
        refine bi_ite hh (fun hc hh => ?_) (fun hc hh => ?_)
        · refine go_ifneT (pc := 30) rfl hc ?_
          exact sX10_law_37  (rfl : ai_ld 0 (lv_args 0 [.ref a0, .int a1, .int a2, .int a3]) = some (.ref a0)) (rfl : ai_ld 1 (lv_args 0 [.ref a0, .int a1, .int a2, .int a3]) = some (.int a1)) (rfl : ai_ld 2 (lv_args 0 [.ref a0, .int a1, .int a2, .int a3]) = some (.int a2)) (rfl : ai_ld 3 (lv_args 0 [.ref a0, .int a1, .int a2, .int a3]) = some (.int a3)) hh
        · refine go_ifneF (pc := 30) rfl hc ?_
          refine go_pl (pc := 33) rfl ?_
          exact go_rl (pc := 36) rfl hh
    · refine go_ifneF (pc := 14) rfl hc ?_
      refine go_pl (pc := 17) rfl ?_
      exact go_rl (pc := 20) rfl hh
def fX10_count (n : Nat) (h : ai_H) (a0 : Nat) (a1 : Int32) : Option (Int32 × ai_H) :=
  (kO n h a0 10).bind fun _ =>
  if a1 = 0 then (
    (pR n h a0 10 3).bind fun x1 =>
    (pR n h x1 8 0).bind fun x2 =>
    (pI n h x2 6 4).bind fun x3 =>
    some (x3, h))
  else (
    if a1 = 1 then (
      (pR n h a0 10 3).bind fun x4 =>
      (pR n h x4 8 1).bind fun x5 =>
      (pI n h x5 6 4).bind fun x6 =>
      some (x6, h))
    else (
      if a1 = 2 then (
        (pR n h a0 10 3).bind fun x7 =>
        (pR n h x7 8 2).bind fun x8 =>
        (pI n h x8 6 4).bind fun x9 =>
        some (x9, h))
      else (
        if a1 = 3 then (
          (pR n h a0 10 3).bind fun x10 =>
          (pR n h x10 8 3).bind fun x11 =>
          (pI n h x11 6 4).bind fun x12 =>
          some (x12, h))
        else (
          if a1 = 4 then (
            (pR n h a0 10 3).bind fun x13 =>
            (pR n h x13 8 5).bind fun x14 =>
            (pI n h x14 2 5).bind fun x15 =>
            some (x15, h))
          else (
            if a1 = 5 then (
              (pR n h a0 10 5).bind fun x16 =>
              (pI n h x16 5 0).bind fun x17 =>
              some (x17, h))
            else (
              if a1 = 6 then (
                (pR n h a0 10 5).bind fun x18 =>
                (pI n h x18 5 4).bind fun x19 =>
                (fJ6_bitCount_0f7a4 n h x19).bind fun q20 =>
                some (q20.1, q20.2))
              else (
                if a1 = 7 then (
                  (pR n h a0 10 5).bind fun x21 =>
                  (pI n h x21 5 2).bind fun x22 =>
                  some (x22, h))
                else (
                  if a1 = 8 then (
                    (pR n h a0 10 5).bind fun x23 =>
                    (pI n h x23 5 3).bind fun x24 =>
                    some (x24, h))
                  else (
                    if a1 = 9 then (
                      (pR n h a0 10 3).bind fun x25 =>
                      (pR n h a0 10 5).bind fun x26 =>
                      (pI n h x26 5 4).bind fun x27 =>
                      (fX9_sets n h x25 x27).bind fun q28 =>
                      some (q28.1, q28.2))
                    else (
                      if a1 = 10 then (
                        (pR n h a0 10 12).bind fun x29 =>
                        (pI n h x29 4 5).bind fun x30 =>
                        some (x30, h))
                      else (
                        if a1 = 11 then (
                          (pR n h a0 10 12).bind fun x31 =>
                          (fX4_knownSize n h x31).bind fun q32 =>
                          some (q32.1, q32.2))
                        else (
                          if a1 = 12 then (
                            (pI n h a0 10 10).bind fun x33 =>
                            some (x33, h))
                          else (
                            some ((-1 : Int32), h))))))))))))))
theorem gX10_count {n : Nat} {h : ai_H} {a0 : Nat} {a1 : Int32} {q : Int32 × ai_H} (hh : fX10_count n h a0 a1 = some q) : kO n h a0 10 = some () := by
  obtain ⟨_, e, -⟩ := bi_bd hh
  exact e
theorem sX10_count {n : Nat} {h : ai_H} {a0 : Nat} {a1 : Int32} {q : Int32 × ai_H} (hh : fX10_count n h a0 a1 = some q) : bi_sp 5 102 [.ref a0, .int a1] h n (fI n q) := by
  refine bi_en (D := 4) (T := tX10_count) (funext fun pc => rfl) rfl (Nat.le_of_ble_eq_true rfl) ?_
  unfold fX10_count at hh
  obtain ⟨_, eO, hh⟩ := bi_bd hh
  refine go_il (pc := 0) rfl (rfl : ai_ld 1 (lv_args 0 [.ref a0, .int a1]) = some (.int a1)) ?_
  refine bi_ite hh (fun hc0 hh => ?_) (fun hc0 hh => ?_)
  · refine go_swc (t := 68) 0 (pc := 1) rfl hc0 (by decide) ?_
    refine go_al (pc := 68) rfl (rfl : ai_ld 0 (lv_args 0 [.ref a0, .int a1]) = some (.ref a0)) ?_
    obtain ⟨x1, ex1, hh⟩ := bi_bd hh
    refine go_gfR (pc := 69) rfl ex1 ?_
    obtain ⟨x2, ex2, hh⟩ := bi_bd hh
    refine go_gfR (pc := 72) rfl ex2 ?_
    obtain ⟨x3, ex3, hh⟩ := bi_bd hh
    refine go_gfI (pc := 75) rfl ex3 ?_
    exact go_ri (pc := 78) rfl hh
  · skip
    refine bi_ite hh (fun hc1 hh => ?_) (fun hc1 hh => ?_)
    · refine go_swc (t := 79) 1 (pc := 1) rfl hc1 (by decide) ?_
      refine go_al (pc := 79) rfl (rfl : ai_ld 0 (lv_args 0 [.ref a0, .int a1]) = some (.ref a0)) ?_
      obtain ⟨x4, ex4, hh⟩ := bi_bd hh
      refine go_gfR (pc := 80) rfl ex4 ?_
      obtain ⟨x5, ex5, hh⟩ := bi_bd hh
      refine go_gfR (pc := 83) rfl ex5 ?_
      obtain ⟨x6, ex6, hh⟩ := bi_bd hh
      refine go_gfI (pc := 86) rfl ex6 ?_
      exact go_ri (pc := 89) rfl hh
    · skip
      refine bi_ite hh (fun hc2 hh => ?_) (fun hc2 hh => ?_)
      · refine go_swc (t := 90) 2 (pc := 1) rfl hc2 (by decide) ?_
        refine go_al (pc := 90) rfl (rfl : ai_ld 0 (lv_args 0 [.ref a0, .int a1]) = some (.ref a0)) ?_
        obtain ⟨x7, ex7, hh⟩ := bi_bd hh
        refine go_gfR (pc := 91) rfl ex7 ?_
        obtain ⟨x8, ex8, hh⟩ := bi_bd hh
        refine go_gfR (pc := 94) rfl ex8 ?_
        obtain ⟨x9, ex9, hh⟩ := bi_bd hh
        refine go_gfI (pc := 97) rfl ex9 ?_
        exact go_ri (pc := 100) rfl hh
      · skip
        refine bi_ite hh (fun hc3 hh => ?_) (fun hc3 hh => ?_)
        · refine go_swc (t := 101) 3 (pc := 1) rfl hc3 (by decide) ?_
          refine go_al (pc := 101) rfl (rfl : ai_ld 0 (lv_args 0 [.ref a0, .int a1]) = some (.ref a0)) ?_
          obtain ⟨x10, ex10, hh⟩ := bi_bd hh
          refine go_gfR (pc := 102) rfl ex10 ?_
          obtain ⟨x11, ex11, hh⟩ := bi_bd hh
          refine go_gfR (pc := 105) rfl ex11 ?_
          obtain ⟨x12, ex12, hh⟩ := bi_bd hh
          refine go_gfI (pc := 108) rfl ex12 ?_
          exact go_ri (pc := 111) rfl hh
        · skip
          refine bi_ite hh (fun hc4 hh => ?_) (fun hc4 hh => ?_)
          · refine go_swc (t := 112) 4 (pc := 1) rfl hc4 (by decide) ?_
            refine go_al (pc := 112) rfl (rfl : ai_ld 0 (lv_args 0 [.ref a0, .int a1]) = some (.ref a0)) ?_
            obtain ⟨x13, ex13, hh⟩ := bi_bd hh
            refine go_gfR (pc := 113) rfl ex13 ?_
            obtain ⟨x14, ex14, hh⟩ := bi_bd hh
            refine go_gfR (pc := 116) rfl ex14 ?_
            obtain ⟨x15, ex15, hh⟩ := bi_bd hh
            refine go_gfI (pc := 119) rfl ex15 ?_
            exact go_ri (pc := 122) rfl hh
          · skip
            refine bi_ite hh (fun hc5 hh => ?_) (fun hc5 hh => ?_)
            · refine go_swc (t := 123) 5 (pc := 1) rfl hc5 (by decide) ?_
              refine go_al (pc := 123) rfl (rfl : ai_ld 0 (lv_args 0 [.ref a0, .int a1]) = some (.ref a0)) ?_
              obtain ⟨x16, ex16, hh⟩ := bi_bd hh
              refine go_gfR (pc := 124) rfl ex16 ?_
              obtain ⟨x17, ex17, hh⟩ := bi_bd hh
              refine go_gfI (pc := 127) rfl ex17 ?_
              exact go_ri (pc := 130) rfl hh
            · skip
              refine bi_ite hh (fun hc6 hh => ?_) (fun hc6 hh => ?_)
              · refine go_swc (t := 131) 6 (pc := 1) rfl hc6 (by decide) ?_
                refine go_al (pc := 131) rfl (rfl : ai_ld 0 (lv_args 0 [.ref a0, .int a1]) = some (.ref a0)) ?_
                obtain ⟨x18, ex18, hh⟩ := bi_bd hh
                refine go_gfR (pc := 132) rfl ex18 ?_
                obtain ⟨x19, ex19, hh⟩ := bi_bd hh
                refine go_gfI (pc := 135) rfl ex19 ?_
                obtain ⟨q20, eq20, hh⟩ := bi_bd hh
                refine go_iSI (pc := 138) rfl (Nat.le_of_ble_eq_true rfl) rfl (Nat.le_of_ble_eq_true rfl) (bi_up (sJ6_bitCount_0f7a4 eq20) (Nat.le_of_ble_eq_true rfl)) ?_
                exact go_ri (pc := 141) rfl hh
              · skip
                refine bi_ite hh (fun hc7 hh => ?_) (fun hc7 hh => ?_)
                · refine go_swc (t := 142) 7 (pc := 1) rfl hc7 (by decide) ?_
                  refine go_al (pc := 142) rfl (rfl : ai_ld 0 (lv_args 0 [.ref a0, .int a1]) = some (.ref a0)) ?_
                  obtain ⟨x21, ex21, hh⟩ := bi_bd hh
                  refine go_gfR (pc := 143) rfl ex21 ?_
                  obtain ⟨x22, ex22, hh⟩ := bi_bd hh
                  refine go_gfI (pc := 146) rfl ex22 ?_
                  exact go_ri (pc := 149) rfl hh
                · skip
                  refine bi_ite hh (fun hc8 hh => ?_) (fun hc8 hh => ?_)
                  · refine go_swc (t := 150) 8 (pc := 1) rfl hc8 (by decide) ?_
                    refine go_al (pc := 150) rfl (rfl : ai_ld 0 (lv_args 0 [.ref a0, .int a1]) = some (.ref a0)) ?_
                    obtain ⟨x23, ex23, hh⟩ := bi_bd hh
                    refine go_gfR (pc := 151) rfl ex23 ?_
                    obtain ⟨x24, ex24, hh⟩ := bi_bd hh
                    refine go_gfI (pc := 154) rfl ex24 ?_
                    exact go_ri (pc := 157) rfl hh
                  · skip
                    refine bi_ite hh (fun hc9 hh => ?_) (fun hc9 hh => ?_)
                    · refine go_swc (t := 158) 9 (pc := 1) rfl hc9 (by decide) ?_
                      refine go_al (pc := 158) rfl (rfl : ai_ld 0 (lv_args 0 [.ref a0, .int a1]) = some (.ref a0)) ?_
                      obtain ⟨x25, ex25, hh⟩ := bi_bd hh
                      refine go_gfR (pc := 159) rfl ex25 ?_
                      refine go_al (pc := 162) rfl (rfl : ai_ld 0 (lv_args 0 [.ref a0, .int a1]) = some (.ref a0)) ?_
                      obtain ⟨x26, ex26, hh⟩ := bi_bd hh
                      refine go_gfR (pc := 163) rfl ex26 ?_
                      obtain ⟨x27, ex27, hh⟩ := bi_bd hh
                      refine go_gfI (pc := 166) rfl ex27 ?_
                      obtain ⟨q28, eq28, hh⟩ := bi_bd hh
                      refine go_iSI (pc := 169) rfl (Nat.le_of_ble_eq_true rfl) rfl (Nat.le_of_ble_eq_true rfl) (bi_up (sX9_sets eq28) (Nat.le_of_ble_eq_true rfl)) ?_
                      exact go_ri (pc := 172) rfl hh
                    · skip
                      refine bi_ite hh (fun hc10 hh => ?_) (fun hc10 hh => ?_)
                      · refine go_swc (t := 173) 10 (pc := 1) rfl hc10 (by decide) ?_
                        refine go_al (pc := 173) rfl (rfl : ai_ld 0 (lv_args 0 [.ref a0, .int a1]) = some (.ref a0)) ?_
                        obtain ⟨x29, ex29, hh⟩ := bi_bd hh
                        refine go_gfR (pc := 174) rfl ex29 ?_
                        obtain ⟨x30, ex30, hh⟩ := bi_bd hh
                        refine go_gfI (pc := 177) rfl ex30 ?_
                        exact go_ri (pc := 180) rfl hh
                      · skip
                        refine bi_ite hh (fun hc11 hh => ?_) (fun hc11 hh => ?_)
                        · refine go_swc (t := 181) 11 (pc := 1) rfl hc11 (by decide) ?_
                          refine go_al (pc := 181) rfl (rfl : ai_ld 0 (lv_args 0 [.ref a0, .int a1]) = some (.ref a0)) ?_
                          obtain ⟨x31, ex31, hh⟩ := bi_bd hh
                          refine go_gfR (pc := 182) rfl ex31 ?_
                          obtain ⟨q32, eq32, hh⟩ := bi_bd hh
                          refine go_ivI (pc := 185) rfl rfl (gX4_knownSize eq32) (Nat.le_of_ble_eq_true rfl) (bi_up (sX4_knownSize eq32) (Nat.le_of_ble_eq_true rfl)) ?_
                          exact go_ri (pc := 188) rfl hh
                        · skip
                          refine bi_ite hh (fun hc12 hh => ?_) (fun hc12 hh => ?_)
                          · refine go_swc (t := 189) 12 (pc := 1) rfl hc12 (by decide) ?_
                            refine go_al (pc := 189) rfl (rfl : ai_ld 0 (lv_args 0 [.ref a0, .int a1]) = some (.ref a0)) ?_
                            obtain ⟨x33, ex33, hh⟩ := bi_bd hh
                            refine go_gfI (pc := 190) rfl ex33 ?_
                            exact go_ri (pc := 193) rfl hh
                          · skip
                            refine go_swd (pc := 1) rfl (fun i hi => match i, hi with | 0, _ => Or.inr (lv_neT hc0 (by decide)) | 1, _ => Or.inr (lv_neT hc1 (by decide)) | 2, _ => Or.inr (lv_neT hc2 (by decide)) | 3, _ => Or.inr (lv_neT hc3 (by decide)) | 4, _ => Or.inr (lv_neT hc4 (by decide)) | 5, _ => Or.inr (lv_neT hc5 (by decide)) | 6, _ => Or.inr (lv_neT hc6 (by decide)) | 7, _ => Or.inr (lv_neT hc7 (by decide)) | 8, _ => Or.inr (lv_neT hc8 (by decide)) | 9, _ => Or.inr (lv_neT hc9 (by decide)) | 10, _ => Or.inr (lv_neT hc10 (by decide)) | 11, _ => Or.inr (lv_neT hc11 (by decide)) | 12, _ => Or.inr (lv_neT hc12 (by decide)) | i + 13, hi => absurd hi (Nat.not_lt.mpr (Nat.le_add_left _ _))) ?_
                            refine go_pi (pc := 194) rfl ?_
                            exact go_ri (pc := 195) rfl hh
def fX10_remember_58 (n : Nat) (h : ai_H) (v0 : Nat) : Option (Unit × ai_H) :=
  (pR n h v0 10 9).bind fun x1 =>
  (pI n h v0 10 10).bind fun x2 =>
  (gR n h x1 x2).bind fun x3 =>
  (pR n h v0 10 5).bind fun x4 =>
  (fX5_copyFrom n h x3 x4).bind fun q5 =>
  (pI n q5.2 v0 10 10).bind fun x6 =>
  (sF n q5.2 v0 10 10 (.int) (.int (x6 + (1 : Int32)))).bind fun h7 =>
  some ((), h7)
theorem sX10_remember_58 {n : Nat} {q : Unit × ai_H} {h : ai_H} {v0 : Nat} {lv : ai_L} (l0 : ai_ld 0 lv = some (.ref v0)) (hh : fX10_remember_58 n h v0 = some q) : bi_go 1 tX10_remember n (fV n q) 58 lv [] h := by
  unfold fX10_remember_58 at hh
  refine go_al (pc := 58) rfl l0 ?_
  obtain ⟨x1, ex1, hh⟩ := bi_bd hh
  refine go_gfR (pc := 59) rfl ex1 ?_
  refine go_al (pc := 62) rfl l0 ?_
  obtain ⟨x2, ex2, hh⟩ := bi_bd hh
  refine go_gfI (pc := 63) rfl ex2 ?_
  obtain ⟨x3, ex3, hh⟩ := bi_bd hh
  refine go_aald (pc := 66) rfl ex3 ?_
  refine go_al (pc := 67) rfl l0 ?_
  obtain ⟨x4, ex4, hh⟩ := bi_bd hh
  refine go_gfR (pc := 68) rfl ex4 ?_
  obtain ⟨q5, eq5, hh⟩ := bi_bd hh
  refine go_ivV (pc := 71) rfl rfl (gX5_copyFrom eq5) (Nat.le_of_ble_eq_true rfl) (bi_up (sX5_copyFrom eq5) (Nat.le_of_ble_eq_true rfl)) ?_
  refine go_al (pc := 74) rfl l0 ?_
  refine go_dup (pc := 75) rfl rfl ?_
  obtain ⟨x6, ex6, hh⟩ := bi_bd hh
  refine go_gfI (pc := 76) rfl ex6 ?_
  refine go_pi (pc := 79) rfl ?_
  refine go_iadd (pc := 80) rfl ?_
  obtain ⟨h7, eh7, hh⟩ := bi_bd hh
  refine go_pf (pc := 81) rfl eh7 ?_
  exact go_rv (pc := 84) rfl hh
def fX10_remember_18b (n : Nat) (r18 : ai_H → Nat → Nat → Int32 → Option (Unit × ai_H)) (h : ai_H) (v0 : Nat) (v1 : Nat) (v2 : Int32) : Option (Unit × ai_H) :=
  if (20 : Int32) ≤ v2 then (
    (pR n h v0 10 9).bind fun x1 =>
    (wR n h x1 (19 : Int32) v1).bind fun h2 =>
    (sF n h2 v0 10 10 (.int) (.int (19 : Int32))).bind fun h3 =>
    fX10_remember_58 n h3 v0)
  else (
    (pR n h v0 10 9).bind fun x4 =>
    (pR n h v0 10 9).bind fun x5 =>
    (gR n h x5 v2).bind fun x6 =>
    (wR n h x4 (v2 - (1 : Int32)) x6).bind fun h7 =>
    r18 h7 v0 v1 (v2 + 1))
theorem sX10_remember_18b {n : Nat} {r18 : ai_H → Nat → Nat → Int32 → Option (Unit × ai_H)} {q : Unit × ai_H} {h : ai_H} {v0 : Nat} {v1 : Nat} {v2 : Int32} {lv : ai_L} (R18 : ∀ (h : ai_H) (v0 : Nat) (v1 : Nat) (v2 : Int32) (lv : ai_L), ai_ld 0 lv = some (.ref v0) → ai_ld 1 lv = some (.ref v1) → ai_ld 2 lv = some (.int v2) → r18 h v0 v1 v2 = some q → bi_go 1 tX10_remember n (fV n q) 18 lv [] h) (l0 : ai_ld 0 lv = some (.ref v0)) (l1 : ai_ld 1 lv = some (.ref v1)) (l2 : ai_ld 2 lv = some (.int v2)) (hh : fX10_remember_18b n r18 h v0 v1 v2 = some q) : bi_go 1 tX10_remember n (fV n q) 18 lv [] h := by
  unfold fX10_remember_18b at hh
  refine go_il (pc := 18) rfl l2 ?_
  refine go_pi (pc := 19) rfl ?_
  refine bi_ite hh (fun hc hh => ?_) (fun hc hh => ?_)
  · refine go_cmpgeT (pc := 21) rfl hc ?_
    refine go_al (pc := 44) rfl l0 ?_
    obtain ⟨x1, ex1, hh⟩ := bi_bd hh
    refine go_gfR (pc := 45) rfl ex1 ?_
    refine go_pi (pc := 48) rfl ?_
    refine go_al (pc := 50) rfl l1 ?_
    obtain ⟨h2, eh2, hh⟩ := bi_bd hh
    refine go_aast (pc := 51) rfl eh2 ?_
    refine go_al (pc := 52) rfl l0 ?_
    refine go_pi (pc := 53) rfl ?_
    obtain ⟨h3, eh3, hh⟩ := bi_bd hh
    refine go_pf (pc := 55) rfl eh3 ?_
    exact sX10_remember_58  l0 hh
  · refine go_cmpgeF (pc := 21) rfl hc ?_
    refine go_al (pc := 24) rfl l0 ?_
    obtain ⟨x4, ex4, hh⟩ := bi_bd hh
    refine go_gfR (pc := 25) rfl ex4 ?_
    refine go_il (pc := 28) rfl l2 ?_
    refine go_pi (pc := 29) rfl ?_
    refine go_isub (pc := 30) rfl ?_
    refine go_al (pc := 31) rfl l0 ?_
    obtain ⟨x5, ex5, hh⟩ := bi_bd hh
    refine go_gfR (pc := 32) rfl ex5 ?_
    refine go_il (pc := 35) rfl l2 ?_
    obtain ⟨x6, ex6, hh⟩ := bi_bd hh
    refine go_aald (pc := 36) rfl ex6 ?_
    obtain ⟨h7, eh7, hh⟩ := bi_bd hh
    refine go_aast (pc := 37) rfl eh7 ?_
    refine go_inc (pc := 38) rfl l2 ?_
    refine go_goto (pc := 41) rfl ?_
    exact R18 _ _ _ _ _ (bi_k1 l0 rfl rfl) (bi_k1 l1 rfl rfl) bi_e1 hh
def fX10_remember_18 (n : Nat) : Nat → ai_H → Nat → Nat → Int32 → Option (Unit × ai_H)
  | 0 => fun _ _ _ _ => none
  | k + 1 => fun h v0 v1 v2 => fX10_remember_18b n (fX10_remember_18 n k) h v0 v1 v2
theorem sX10_remember_18 {n : Nat} {q : Unit × ai_H} : ∀ (k : Nat) (h : ai_H) (v0 : Nat) (v1 : Nat) (v2 : Int32) (lv : ai_L), ai_ld 0 lv = some (.ref v0) → ai_ld 1 lv = some (.ref v1) → ai_ld 2 lv = some (.int v2) → fX10_remember_18 n k h v0 v1 v2 = some q → bi_go 1 tX10_remember n (fV n q) 18 lv [] h
  | 0 => fun _ _ _ _ _ _ _ _ hh => by cases hh
  | k + 1 => fun h v0 v1 v2 lv l0 l1 l2 hh => sX10_remember_18b  (sX10_remember_18  k) l0 l1 l2 hh
def fX10_remember (n : Nat) (h : ai_H) (a0 : Nat) : Option (Unit × ai_H) :=
  (kO n h a0 10).bind fun _ =>
  (pI n h a0 10 10).bind fun x1 =>
  if x1 < (20 : Int32) then (
    fX10_remember_58 n h a0)
  else (
    (pR n h a0 10 9).bind fun x2 =>
    (gR n h x2 (0 : Int32)).bind fun x3 =>
    fX10_remember_18 n bi_K h a0 x3 (1 : Int32))
theorem gX10_remember {n : Nat} {h : ai_H} {a0 : Nat} {q : Unit × ai_H} (hh : fX10_remember n h a0 = some q) : kO n h a0 10 = some () := by
  obtain ⟨_, e, -⟩ := bi_bd hh
  exact e
theorem sX10_remember {n : Nat} {h : ai_H} {a0 : Nat} {q : Unit × ai_H} (hh : fX10_remember n h a0 = some q) : bi_sp 2 106 [.ref a0] h n (fV n q) := by
  refine bi_en (D := 1) (T := tX10_remember) (funext fun pc => rfl) rfl (Nat.le_of_ble_eq_true rfl) ?_
  unfold fX10_remember at hh
  obtain ⟨_, eO, hh⟩ := bi_bd hh
  refine go_al (pc := 0) rfl (rfl : ai_ld 0 (lv_args 0 [.ref a0]) = some (.ref a0)) ?_
  obtain ⟨x1, ex1, hh⟩ := bi_bd hh
  refine go_gfI (pc := 1) rfl ex1 ?_
  refine go_pi (pc := 4) rfl ?_
  refine bi_ite hh (fun hc hh => ?_) (fun hc hh => ?_)
  · refine go_cmpltT (pc := 6) rfl hc ?_
    exact sX10_remember_58  (rfl : ai_ld 0 (lv_args 0 [.ref a0]) = some (.ref a0)) hh
  · refine go_cmpltF (pc := 6) rfl hc ?_
    refine go_al (pc := 9) rfl (rfl : ai_ld 0 (lv_args 0 [.ref a0]) = some (.ref a0)) ?_
    obtain ⟨x2, ex2, hh⟩ := bi_bd hh
    refine go_gfR (pc := 10) rfl ex2 ?_
    refine go_pi (pc := 13) rfl ?_
    obtain ⟨x3, ex3, hh⟩ := bi_bd hh
    refine go_aald (pc := 14) rfl ex3 ?_
    refine go_as (pc := 15) rfl ?_
    refine go_pi (pc := 16) rfl ?_
    refine go_is (pc := 17) rfl ?_
    exact sX10_remember_18  _ _ _ _ _ _ (bi_k1 (bi_k1 (rfl : ai_ld 0 (lv_args 0 [.ref a0]) = some (.ref a0)) rfl rfl) rfl rfl) (bi_k1 bi_e1 rfl rfl) bi_e1 hh
def fX10_walk (n : Nat) (h : ai_H) (a0 : Nat) (a1 : Int32) (a2 : Int32) : Option (Int32 × ai_H) :=
  (kO n h a0 10).bind fun _ =>
  (fX10_isWalker n h a0 a1).bind fun q1 =>
  if q1.1 = 0 then (
    some ((-1 : Int32), q1.2))
  else (
    (fX10_isPath n q1.2 a0 a2).bind fun q2 =>
    if ¬ q2.1 = 0 then (
      (pR n q2.2 a0 10 11).bind fun x3 =>
      (pR n q2.2 a0 10 3).bind fun x4 =>
      (pR n q2.2 a0 10 5).bind fun x5 =>
      (fX0_begin n q2.2 x3 x4 x5 (0 : Int32)).bind fun q6 =>
      (pR n q6.2 a0 10 11).bind fun x7 =>
      (fX0_costIfHeCan n q6.2 x7 a1 a2).bind fun q8 =>
      if 0 ≤ q8.1 then (
        (fX10_remember n q8.2 a0).bind fun q9 =>
        (pR n q9.2 a0 10 11).bind fun x10 =>
        (fX0_goWhole n q9.2 x10 a1 a2 q8.1).bind fun q11 =>
        (pR n q11.2 a0 10 5).bind fun x12 =>
        (pR n q11.2 x12 5 8).bind fun x13 =>
        (gX 1 n q11.2 x13 a1).bind fun x14 =>
        some (x14, q11.2))
      else (
        some ((-2 : Int32), q8.2)))
    else (
      some ((-1 : Int32), q2.2)))
theorem gX10_walk {n : Nat} {h : ai_H} {a0 : Nat} {a1 : Int32} {a2 : Int32} {q : Int32 × ai_H} (hh : fX10_walk n h a0 a1 a2 = some q) : kO n h a0 10 = some () := by
  obtain ⟨_, e, -⟩ := bi_bd hh
  exact e
theorem sX10_walk {n : Nat} {h : ai_H} {a0 : Nat} {a1 : Int32} {a2 : Int32} {q : Int32 × ai_H} (hh : fX10_walk n h a0 a1 a2 = some q) : bi_sp 4 103 [.ref a0, .int a1, .int a2] h n (fI n q) := by
  refine bi_en (D := 3) (T := tX10_walk) (funext fun pc => rfl) rfl (Nat.le_of_ble_eq_true rfl) ?_
  unfold fX10_walk at hh
  obtain ⟨_, eO, hh⟩ := bi_bd hh
  refine go_al (pc := 0) rfl (rfl : ai_ld 0 (lv_args 0 [.ref a0, .int a1, .int a2]) = some (.ref a0)) ?_
  refine go_il (pc := 1) rfl (rfl : ai_ld 1 (lv_args 0 [.ref a0, .int a1, .int a2]) = some (.int a1)) ?_
  obtain ⟨q1, eq1, hh⟩ := bi_bd hh
  refine go_ivI (pc := 2) rfl rfl (gX10_isWalker eq1) (Nat.le_of_ble_eq_true rfl) (bi_up (sX10_isWalker eq1) (Nat.le_of_ble_eq_true rfl)) ?_
  refine bi_ite hh (fun hc hh => ?_) (fun hc hh => ?_)
  · refine go_ifeqT (pc := 5) rfl hc ?_
    refine go_pi (pc := 16) rfl ?_
    exact go_ri (pc := 17) rfl hh
  · refine go_ifeqF (pc := 5) rfl hc ?_
    refine go_al (pc := 8) rfl (rfl : ai_ld 0 (lv_args 0 [.ref a0, .int a1, .int a2]) = some (.ref a0)) ?_
    refine go_il (pc := 9) rfl (rfl : ai_ld 2 (lv_args 0 [.ref a0, .int a1, .int a2]) = some (.int a2)) ?_
    obtain ⟨q2, eq2, hh⟩ := bi_bd hh
    refine go_ivI (pc := 10) rfl rfl (gX10_isPath eq2) (Nat.le_of_ble_eq_true rfl) (bi_up (sX10_isPath eq2) (Nat.le_of_ble_eq_true rfl)) ?_
    refine bi_ite hh (fun hc hh => ?_) (fun hc hh => ?_)
    · refine go_ifneT (pc := 13) rfl hc ?_
      refine go_al (pc := 18) rfl (rfl : ai_ld 0 (lv_args 0 [.ref a0, .int a1, .int a2]) = some (.ref a0)) ?_
      obtain ⟨x3, ex3, hh⟩ := bi_bd hh
      refine go_gfR (pc := 19) rfl ex3 ?_
      refine go_al (pc := 22) rfl (rfl : ai_ld 0 (lv_args 0 [.ref a0, .int a1, .int a2]) = some (.ref a0)) ?_
      obtain ⟨x4, ex4, hh⟩ := bi_bd hh
      refine go_gfR (pc := 23) rfl ex4 ?_
      refine go_al (pc := 26) rfl (rfl : ai_ld 0 (lv_args 0 [.ref a0, .int a1, .int a2]) = some (.ref a0)) ?_
      obtain ⟨x5, ex5, hh⟩ := bi_bd hh
      refine go_gfR (pc := 27) rfl ex5 ?_
      refine go_pi (pc := 30) rfl ?_
      obtain ⟨q6, eq6, hh⟩ := bi_bd hh
      refine go_ivV (pc := 31) rfl rfl (gX0_begin eq6) (Nat.le_of_ble_eq_true rfl) (bi_up (sX0_begin eq6) (Nat.le_of_ble_eq_true rfl)) ?_
      refine go_al (pc := 34) rfl (rfl : ai_ld 0 (lv_args 0 [.ref a0, .int a1, .int a2]) = some (.ref a0)) ?_
      obtain ⟨x7, ex7, hh⟩ := bi_bd hh
      refine go_gfR (pc := 35) rfl ex7 ?_
      refine go_il (pc := 38) rfl (rfl : ai_ld 1 (lv_args 0 [.ref a0, .int a1, .int a2]) = some (.int a1)) ?_
      refine go_il (pc := 39) rfl (rfl : ai_ld 2 (lv_args 0 [.ref a0, .int a1, .int a2]) = some (.int a2)) ?_
      obtain ⟨q8, eq8, hh⟩ := bi_bd hh
      refine go_ivI (pc := 40) rfl rfl (gX0_costIfHeCan eq8) (Nat.le_of_ble_eq_true rfl) (bi_up (sX0_costIfHeCan eq8) (Nat.le_of_ble_eq_true rfl)) ?_
      refine go_is (pc := 43) rfl ?_
      refine go_il (pc := 44) rfl bi_e1 ?_
      refine bi_ite hh (fun hc hh => ?_) (fun hc hh => ?_)
      · refine go_ifgeT (pc := 45) rfl hc ?_
        refine go_al (pc := 51) rfl (bi_k1 (rfl : ai_ld 0 (lv_args 0 [.ref a0, .int a1, .int a2]) = some (.ref a0)) rfl rfl) ?_
        obtain ⟨q9, eq9, hh⟩ := bi_bd hh
        refine go_ivV (pc := 52) rfl rfl (gX10_remember eq9) (Nat.le_of_ble_eq_true rfl) (bi_up (sX10_remember eq9) (Nat.le_of_ble_eq_true rfl)) ?_
        refine go_al (pc := 55) rfl (bi_k1 (rfl : ai_ld 0 (lv_args 0 [.ref a0, .int a1, .int a2]) = some (.ref a0)) rfl rfl) ?_
        obtain ⟨x10, ex10, hh⟩ := bi_bd hh
        refine go_gfR (pc := 56) rfl ex10 ?_
        refine go_il (pc := 59) rfl (bi_k1 (rfl : ai_ld 1 (lv_args 0 [.ref a0, .int a1, .int a2]) = some (.int a1)) rfl rfl) ?_
        refine go_il (pc := 60) rfl (bi_k1 (rfl : ai_ld 2 (lv_args 0 [.ref a0, .int a1, .int a2]) = some (.int a2)) rfl rfl) ?_
        refine go_il (pc := 61) rfl bi_e1 ?_
        obtain ⟨q11, eq11, hh⟩ := bi_bd hh
        refine go_ivV (pc := 62) rfl rfl (gX0_goWhole eq11) (Nat.le_of_ble_eq_true rfl) (bi_up (sX0_goWhole eq11) (Nat.le_of_ble_eq_true rfl)) ?_
        refine go_al (pc := 65) rfl (bi_k1 (rfl : ai_ld 0 (lv_args 0 [.ref a0, .int a1, .int a2]) = some (.ref a0)) rfl rfl) ?_
        obtain ⟨x12, ex12, hh⟩ := bi_bd hh
        refine go_gfR (pc := 66) rfl ex12 ?_
        obtain ⟨x13, ex13, hh⟩ := bi_bd hh
        refine go_gfR (pc := 69) rfl ex13 ?_
        refine go_il (pc := 72) rfl (bi_k1 (rfl : ai_ld 1 (lv_args 0 [.ref a0, .int a1, .int a2]) = some (.int a1)) rfl rfl) ?_
        obtain ⟨x14, ex14, hh⟩ := bi_bd hh
        refine go_iald (pc := 73) rfl ex14 ?_
        exact go_ri (pc := 74) rfl hh
      · refine go_ifgeF (pc := 45) rfl hc ?_
        refine go_pi (pc := 48) rfl ?_
        exact go_ri (pc := 50) rfl hh
    · refine go_ifneF (pc := 13) rfl hc ?_
      refine go_pi (pc := 16) rfl ?_
      exact go_ri (pc := 17) rfl hh
def fX10_mow_33 (n : Nat) (h : ai_H) (v0 : Nat) (v1 : Int32) : Option (Int32 × ai_H) :=
  (fX10_remember n h v0).bind fun q1 =>
  (pR n q1.2 v0 10 5).bind fun x2 =>
  (pI n q1.2 x2 5 4).bind fun x3 =>
  (sF n q1.2 x2 5 4 (.int) (.int (x3 ||| ((1 : Int32) <<< (v1 &&& 31))))).bind fun h4 =>
  (pR n h4 v0 10 5).bind fun x5 =>
  (pR n h4 x5 5 5).bind fun x6 =>
  (wX 1 (fun x => x) n h4 x6 v1 (0 : Int32)).bind fun h7 =>
  some ((1 : Int32), h7)
theorem sX10_mow_33 {n : Nat} {q : Int32 × ai_H} {h : ai_H} {v0 : Nat} {v1 : Int32} {lv : ai_L} (l0 : ai_ld 0 lv = some (.ref v0)) (l1 : ai_ld 1 lv = some (.int v1)) (hh : fX10_mow_33 n h v0 v1 = some q) : bi_go 2 tX10_mow n (fI n q) 33 lv [] h := by
  unfold fX10_mow_33 at hh
  refine go_al (pc := 33) rfl l0 ?_
  obtain ⟨q1, eq1, hh⟩ := bi_bd hh
  refine go_ivV (pc := 34) rfl rfl (gX10_remember eq1) (Nat.le_of_ble_eq_true rfl) (bi_up (sX10_remember eq1) (Nat.le_of_ble_eq_true rfl)) ?_
  refine go_al (pc := 37) rfl l0 ?_
  obtain ⟨x2, ex2, hh⟩ := bi_bd hh
  refine go_gfR (pc := 38) rfl ex2 ?_
  refine go_dup (pc := 41) rfl rfl ?_
  obtain ⟨x3, ex3, hh⟩ := bi_bd hh
  refine go_gfI (pc := 42) rfl ex3 ?_
  refine go_pi (pc := 45) rfl ?_
  refine go_il (pc := 46) rfl l1 ?_
  refine go_ishl (pc := 47) rfl ?_
  refine go_ior (pc := 48) rfl ?_
  obtain ⟨h4, eh4, hh⟩ := bi_bd hh
  refine go_pf (pc := 49) rfl eh4 ?_
  refine go_al (pc := 52) rfl l0 ?_
  obtain ⟨x5, ex5, hh⟩ := bi_bd hh
  refine go_gfR (pc := 53) rfl ex5 ?_
  obtain ⟨x6, ex6, hh⟩ := bi_bd hh
  refine go_gfR (pc := 56) rfl ex6 ?_
  refine go_il (pc := 59) rfl l1 ?_
  refine go_pi (pc := 60) rfl ?_
  obtain ⟨h7, eh7, hh⟩ := bi_bd hh
  refine go_iast (pc := 61) rfl eh7 ?_
  refine go_pi (pc := 62) rfl ?_
  exact go_rz (pc := 63) rfl bi_z1 hh
def fX10_mow (n : Nat) (h : ai_H) (a0 : Nat) (a1 : Int32) : Option (Int32 × ai_H) :=
  (kO n h a0 10).bind fun _ =>
  (fX10_isPath n h a0 a1).bind fun q1 =>
  if q1.1 = 0 then (
    some ((0 : Int32), q1.2))
  else (
    (pR n q1.2 a0 10 5).bind fun x2 =>
    (fX5_isKept n q1.2 x2 a1).bind fun q3 =>
    if q3.1 = 0 then (
      fX10_mow_33 n q3.2 a0 a1)
    else (
      (pR n q3.2 a0 10 5).bind fun x4 =>
      (pR n q3.2 x4 5 5).bind fun x5 =>
      (gX 1 n q3.2 x5 a1).bind fun x6 =>
      if ¬ x6 = 0 then (
        fX10_mow_33 n q3.2 a0 a1)
      else (
        some ((0 : Int32), q3.2))))
theorem gX10_mow {n : Nat} {h : ai_H} {a0 : Nat} {a1 : Int32} {q : Int32 × ai_H} (hh : fX10_mow n h a0 a1 = some q) : kO n h a0 10 = some () := by
  obtain ⟨_, e, -⟩ := bi_bd hh
  exact e
theorem sX10_mow {n : Nat} {h : ai_H} {a0 : Nat} {a1 : Int32} {q : Int32 × ai_H} (hh : fX10_mow n h a0 a1 = some q) : bi_sp 3 104 [.ref a0, .int a1] h n (fI n q) := by
  refine bi_en (D := 2) (T := tX10_mow) (funext fun pc => rfl) rfl (Nat.le_of_ble_eq_true rfl) ?_
  unfold fX10_mow at hh
  obtain ⟨_, eO, hh⟩ := bi_bd hh
  refine go_al (pc := 0) rfl (rfl : ai_ld 0 (lv_args 0 [.ref a0, .int a1]) = some (.ref a0)) ?_
  refine go_il (pc := 1) rfl (rfl : ai_ld 1 (lv_args 0 [.ref a0, .int a1]) = some (.int a1)) ?_
  obtain ⟨q1, eq1, hh⟩ := bi_bd hh
  refine go_ivI (pc := 2) rfl rfl (gX10_isPath eq1) (Nat.le_of_ble_eq_true rfl) (bi_up (sX10_isPath eq1) (Nat.le_of_ble_eq_true rfl)) ?_
  refine bi_ite hh (fun hc hh => ?_) (fun hc hh => ?_)
  · refine go_ifeqT (pc := 5) rfl hc ?_
    refine go_pi (pc := 31) rfl ?_
    exact go_rz (pc := 32) rfl bi_z0 hh
  · refine go_ifeqF (pc := 5) rfl hc ?_
    refine go_al (pc := 8) rfl (rfl : ai_ld 0 (lv_args 0 [.ref a0, .int a1]) = some (.ref a0)) ?_
    obtain ⟨x2, ex2, hh⟩ := bi_bd hh
    refine go_gfR (pc := 9) rfl ex2 ?_
    refine go_il (pc := 12) rfl (rfl : ai_ld 1 (lv_args 0 [.ref a0, .int a1]) = some (.int a1)) ?_
    obtain ⟨q3, eq3, hh⟩ := bi_bd hh
    refine go_ivI (pc := 13) rfl rfl (gX5_isKept eq3) (Nat.le_of_ble_eq_true rfl) (bi_up (sX5_isKept eq3) (Nat.le_of_ble_eq_true rfl)) ?_
    refine bi_ite hh (fun hc hh => ?_) (fun hc hh => ?_)
    · refine go_ifeqT (pc := 16) rfl hc ?_
      exact sX10_mow_33  (rfl : ai_ld 0 (lv_args 0 [.ref a0, .int a1]) = some (.ref a0)) (rfl : ai_ld 1 (lv_args 0 [.ref a0, .int a1]) = some (.int a1)) hh
    · refine go_ifeqF (pc := 16) rfl hc ?_
      refine go_al (pc := 19) rfl (rfl : ai_ld 0 (lv_args 0 [.ref a0, .int a1]) = some (.ref a0)) ?_
      obtain ⟨x4, ex4, hh⟩ := bi_bd hh
      refine go_gfR (pc := 20) rfl ex4 ?_
      obtain ⟨x5, ex5, hh⟩ := bi_bd hh
      refine go_gfR (pc := 23) rfl ex5 ?_
      refine go_il (pc := 26) rfl (rfl : ai_ld 1 (lv_args 0 [.ref a0, .int a1]) = some (.int a1)) ?_
      obtain ⟨x6, ex6, hh⟩ := bi_bd hh
      refine go_iald (pc := 27) rfl ex6 ?_
      refine bi_ite hh (fun hc hh => ?_) (fun hc hh => ?_)
      · refine go_ifneT (pc := 28) rfl hc ?_
        exact sX10_mow_33  (rfl : ai_ld 0 (lv_args 0 [.ref a0, .int a1]) = some (.ref a0)) (rfl : ai_ld 1 (lv_args 0 [.ref a0, .int a1]) = some (.int a1)) hh
      · refine go_ifneF (pc := 28) rfl hc ?_
        refine go_pi (pc := 31) rfl ?_
        exact go_rz (pc := 32) rfl bi_z0 hh
