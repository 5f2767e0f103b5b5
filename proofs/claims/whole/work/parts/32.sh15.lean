/-! ===== methods as functions, part 15 ===== -/
def fX11_bullLine (n : Nat) (h : ai_H) (a0 : Nat) : Option (Int32 × ai_H) :=
  (kO n h a0 11).bind fun _ =>
  (pI n h a0 11 22).bind fun x1 =>
  if ¬ x1 = (6 : Int32) then (
    (fX11_token n h a0).bind fun q2 =>
    (pI n q2.2 a0 11 22).bind fun x3 =>
    (pR n q2.2 a0 11 27).bind fun x4 =>
    (pI n q2.2 a0 11 19).bind fun x5 =>
    (fX11_thereIn n q2.2 a0 x4 (9 : Int32) x5).bind fun q6 =>
    if ¬ q6.1 = 0 then (
      (pR n q6.2 a0 11 40).bind fun x7 =>
      (pI n q6.2 a0 11 11).bind fun x8 =>
      (wX 1 (fun x => x) n q6.2 x7 ((6 : Int32) + x3) x8).bind fun h9 =>
      (fX11_number n h9 a0 (0 : Int32) (99 : Int32)).bind fun q10 =>
      if ¬ q10.1 = 0 then (
        (pR n q10.2 a0 11 41).bind fun x11 =>
        (pI n q10.2 a0 11 11).bind fun x12 =>
        (wX 1 (fun x => x) n q10.2 x11 ((6 : Int32) + x3) x12).bind fun h13 =>
        (fX11_number n h13 a0 (0 : Int32) (99 : Int32)).bind fun q14 =>
        if ¬ q14.1 = 0 then (
          (pR n q14.2 a0 11 42).bind fun x15 =>
          (pI n q14.2 a0 11 11).bind fun x16 =>
          (wX 1 (fun x => x) n q14.2 x15 ((6 : Int32) + x3) x16).bind fun h17 =>
          (pI n h17 a0 11 22).bind fun x18 =>
          (sF n h17 a0 11 22 (.int) (.int (x18 + (1 : Int32)))).bind fun h19 =>
          some ((1 : Int32), h19))
        else (
          some ((0 : Int32), q14.2)))
      else (
        some ((0 : Int32), q10.2)))
    else (
      some ((0 : Int32), q6.2)))
  else (
    (fX11_wrong n h a0 (2 : Int32)).bind fun q20 =>
    (gZ q20.1).bind fun _ =>
    some (q20.1, q20.2))
theorem gX11_bullLine {n : Nat} {h : ai_H} {a0 : Nat} {q : Int32 × ai_H} (hh : fX11_bullLine n h a0 = some q) : kO n h a0 11 = some () := by
  obtain ⟨_, e, -⟩ := bi_bd hh
  exact e
theorem sX11_bullLine {n : Nat} {h : ai_H} {a0 : Nat} {q : Int32 × ai_H} (hh : fX11_bullLine n h a0 = some q) : bi_sp 4 165 [.ref a0] h n (fI n q) := by
  refine bi_en (D := 3) (T := tX11_bullLine) (funext fun pc => rfl) rfl (Nat.le_of_ble_eq_true rfl) ?_
  unfold fX11_bullLine at hh
  obtain ⟨_, eO, hh⟩ := bi_bd hh
  refine go_al (pc := 0) rfl (rfl : ai_ld 0 (lv_args 0 [.ref a0]) = some (.ref a0)) ?_
  obtain ⟨x1, ex1, hh⟩ := bi_bd hh
  refine go_gfI (pc := 1) rfl ex1 ?_
  refine go_pi (pc := 4) rfl ?_
  refine bi_ite hh (fun hc hh => ?_) (fun hc hh => ?_)
  · refine go_cmpneT (pc := 6) rfl hc ?_
    refine go_al (pc := 15) rfl (rfl : ai_ld 0 (lv_args 0 [.ref a0]) = some (.ref a0)) ?_
    obtain ⟨q2, eq2, hh⟩ := bi_bd hh
    refine go_ivV (pc := 16) rfl rfl (gX11_token eq2) (Nat.le_of_ble_eq_true rfl) (bi_up (sX11_token eq2) (Nat.le_of_ble_eq_true rfl)) ?_
    refine go_pi (pc := 19) rfl ?_
    refine go_al (pc := 21) rfl (rfl : ai_ld 0 (lv_args 0 [.ref a0]) = some (.ref a0)) ?_
    obtain ⟨x3, ex3, hh⟩ := bi_bd hh
    refine go_gfI (pc := 22) rfl ex3 ?_
    refine go_iadd (pc := 25) rfl ?_
    refine go_is (pc := 26) rfl ?_
    refine go_al (pc := 27) rfl (bi_k1 (rfl : ai_ld 0 (lv_args 0 [.ref a0]) = some (.ref a0)) rfl rfl) ?_
    refine go_al (pc := 28) rfl (bi_k1 (rfl : ai_ld 0 (lv_args 0 [.ref a0]) = some (.ref a0)) rfl rfl) ?_
    obtain ⟨x4, ex4, hh⟩ := bi_bd hh
    refine go_gfR (pc := 29) rfl ex4 ?_
    refine go_pi (pc := 32) rfl ?_
    refine go_al (pc := 34) rfl (bi_k1 (rfl : ai_ld 0 (lv_args 0 [.ref a0]) = some (.ref a0)) rfl rfl) ?_
    obtain ⟨x5, ex5, hh⟩ := bi_bd hh
    refine go_gfI (pc := 35) rfl ex5 ?_
    obtain ⟨q6, eq6, hh⟩ := bi_bd hh
    refine go_ivI (pc := 38) rfl rfl (gX11_thereIn eq6) (Nat.le_of_ble_eq_true rfl) (bi_up (sX11_thereIn eq6) (Nat.le_of_ble_eq_true rfl)) ?_
    refine bi_ite hh (fun hc hh => ?_) (fun hc hh => ?_)
    · refine go_ifneT (pc := 41) rfl hc ?_
      refine go_al (pc := 46) rfl (bi_k1 (rfl : ai_ld 0 (lv_args 0 [.ref a0]) = some (.ref a0)) rfl rfl) ?_
      obtain ⟨x7, ex7, hh⟩ := bi_bd hh
      refine go_gfR (pc := 47) rfl ex7 ?_
      refine go_il (pc := 50) rfl bi_e1 ?_
      refine go_al (pc := 51) rfl (bi_k1 (rfl : ai_ld 0 (lv_args 0 [.ref a0]) = some (.ref a0)) rfl rfl) ?_
      obtain ⟨x8, ex8, hh⟩ := bi_bd hh
      refine go_gfI (pc := 52) rfl ex8 ?_
      obtain ⟨h9, eh9, hh⟩ := bi_bd hh
      refine go_iast (pc := 55) rfl eh9 ?_
      refine go_al (pc := 56) rfl (bi_k1 (rfl : ai_ld 0 (lv_args 0 [.ref a0]) = some (.ref a0)) rfl rfl) ?_
      refine go_pi (pc := 57) rfl ?_
      refine go_pi (pc := 58) rfl ?_
      obtain ⟨q10, eq10, hh⟩ := bi_bd hh
      refine go_ivI (pc := 60) rfl rfl (gX11_number eq10) (Nat.le_of_ble_eq_true rfl) (bi_up (sX11_number eq10) (Nat.le_of_ble_eq_true rfl)) ?_
      refine bi_ite hh (fun hc hh => ?_) (fun hc hh => ?_)
      · refine go_ifneT (pc := 63) rfl hc ?_
        refine go_al (pc := 68) rfl (bi_k1 (rfl : ai_ld 0 (lv_args 0 [.ref a0]) = some (.ref a0)) rfl rfl) ?_
        obtain ⟨x11, ex11, hh⟩ := bi_bd hh
        refine go_gfR (pc := 69) rfl ex11 ?_
        refine go_il (pc := 72) rfl bi_e1 ?_
        refine go_al (pc := 73) rfl (bi_k1 (rfl : ai_ld 0 (lv_args 0 [.ref a0]) = some (.ref a0)) rfl rfl) ?_
        obtain ⟨x12, ex12, hh⟩ := bi_bd hh
        refine go_gfI (pc := 74) rfl ex12 ?_
        obtain ⟨h13, eh13, hh⟩ := bi_bd hh
        refine go_iast (pc := 77) rfl eh13 ?_
        refine go_al (pc := 78) rfl (bi_k1 (rfl : ai_ld 0 (lv_args 0 [.ref a0]) = some (.ref a0)) rfl rfl) ?_
        refine go_pi (pc := 79) rfl ?_
        refine go_pi (pc := 80) rfl ?_
        obtain ⟨q14, eq14, hh⟩ := bi_bd hh
        refine go_ivI (pc := 82) rfl rfl (gX11_number eq14) (Nat.le_of_ble_eq_true rfl) (bi_up (sX11_number eq14) (Nat.le_of_ble_eq_true rfl)) ?_
        refine bi_ite hh (fun hc hh => ?_) (fun hc hh => ?_)
        · refine go_ifneT (pc := 85) rfl hc ?_
          refine go_al (pc := 90) rfl (bi_k1 (rfl : ai_ld 0 (lv_args 0 [.ref a0]) = some (.ref a0)) rfl rfl) ?_
          obtain ⟨x15, ex15, hh⟩ := bi_bd hh
          refine go_gfR (pc := 91) rfl ex15 ?_
          refine go_il (pc := 94) rfl bi_e1 ?_
          refine go_al (pc := 95) rfl (bi_k1 (rfl : ai_ld 0 (lv_args 0 [.ref a0]) = some (.ref a0)) rfl rfl) ?_
          obtain ⟨x16, ex16, hh⟩ := bi_bd hh
          refine go_gfI (pc := 96) rfl ex16 ?_
          obtain ⟨h17, eh17, hh⟩ := bi_bd hh
          refine go_iast (pc := 99) rfl eh17 ?_
          refine go_al (pc := 100) rfl (bi_k1 (rfl : ai_ld 0 (lv_args 0 [.ref a0]) = some (.ref a0)) rfl rfl) ?_
          refine go_dup (pc := 101) rfl rfl ?_
          obtain ⟨x18, ex18, hh⟩ := bi_bd hh
          refine go_gfI (pc := 102) rfl ex18 ?_
          refine go_pi (pc := 105) rfl ?_
          refine go_iadd (pc := 106) rfl ?_
          obtain ⟨h19, eh19, hh⟩ := bi_bd hh
          refine go_pf (pc := 107) rfl eh19 ?_
          refine go_pi (pc := 110) rfl ?_
          exact go_rz (pc := 111) rfl bi_z1 hh
        · refine go_ifneF (pc := 85) rfl hc ?_
          refine go_pi (pc := 88) rfl ?_
          exact go_rz (pc := 89) rfl bi_z0 hh
      · refine go_ifneF (pc := 63) rfl hc ?_
        refine go_pi (pc := 66) rfl ?_
        exact go_rz (pc := 67) rfl bi_z0 hh
    · refine go_ifneF (pc := 41) rfl hc ?_
      refine go_pi (pc := 44) rfl ?_
      exact go_rz (pc := 45) rfl bi_z0 hh
  · refine go_cmpneF (pc := 6) rfl hc ?_
    refine go_al (pc := 9) rfl (rfl : ai_ld 0 (lv_args 0 [.ref a0]) = some (.ref a0)) ?_
    refine go_pi (pc := 10) rfl ?_
    obtain ⟨q20, eq20, hh⟩ := bi_bd hh
    refine go_ivI (pc := 11) rfl rfl (gX11_wrong eq20) (Nat.le_of_ble_eq_true rfl) (bi_up (sX11_wrong eq20) (Nat.le_of_ble_eq_true rfl)) ?_
    obtain ⟨_, ez, hh⟩ := bi_bd hh
    exact go_rz (pc := 14) rfl ez hh
def fX11_onceLine (n : Nat) (h : ai_H) (a0 : Nat) (a1 : Int32) (a2 : Int32) (a3 : Int32) : Option (Int32 × ai_H) :=
  (kO n h a0 11).bind fun _ =>
  (pR n h a0 11 24).bind fun x1 =>
  (gB n h x1 a1).bind fun x2 =>
  if x2 = 0 then (
    (pR n h a0 11 24).bind fun x3 =>
    (wB n h x3 a1 (1 : Int32)).bind fun h4 =>
    (fX11_token n h4 a0).bind fun q5 =>
    (fX11_number n q5.2 a0 a2 a3).bind fun q6 =>
    if ¬ q6.1 = 0 then (
      (pR n q6.2 a0 11 25).bind fun x7 =>
      (pI n q6.2 a0 11 11).bind fun x8 =>
      (wX 1 (fun x => x) n q6.2 x7 ((3 : Int32) + a1) x8).bind fun h9 =>
      some ((1 : Int32), h9))
    else (
      some ((0 : Int32), q6.2)))
  else (
    (fX11_wrong n h a0 (3 : Int32)).bind fun q10 =>
    (gZ q10.1).bind fun _ =>
    some (q10.1, q10.2))
theorem gX11_onceLine {n : Nat} {h : ai_H} {a0 : Nat} {a1 : Int32} {a2 : Int32} {a3 : Int32} {q : Int32 × ai_H} (hh : fX11_onceLine n h a0 a1 a2 a3 = some q) : kO n h a0 11 = some () := by
  obtain ⟨_, e, -⟩ := bi_bd hh
  exact e
theorem sX11_onceLine {n : Nat} {h : ai_H} {a0 : Nat} {a1 : Int32} {a2 : Int32} {a3 : Int32} {q : Int32 × ai_H} (hh : fX11_onceLine n h a0 a1 a2 a3 = some q) : bi_sp 4 166 [.ref a0, .int a1, .int a2, .int a3] h n (fI n q) := by
  refine bi_en (D := 3) (T := tX11_onceLine) (funext fun pc => rfl) rfl (Nat.le_of_ble_eq_true rfl) ?_
  unfold fX11_onceLine at hh
  obtain ⟨_, eO, hh⟩ := bi_bd hh
  refine go_al (pc := 0) rfl (rfl : ai_ld 0 (lv_args 0 [.ref a0, .int a1, .int a2, .int a3]) = some (.ref a0)) ?_
  obtain ⟨x1, ex1, hh⟩ := bi_bd hh
  refine go_gfR (pc := 1) rfl ex1 ?_
  refine go_il (pc := 4) rfl (rfl : ai_ld 1 (lv_args 0 [.ref a0, .int a1, .int a2, .int a3]) = some (.int a1)) ?_
  obtain ⟨x2, ex2, hh⟩ := bi_bd hh
  refine go_bald (pc := 5) rfl ex2 ?_
  refine bi_ite hh (fun hc hh => ?_) (fun hc hh => ?_)
  · refine go_ifeqT (pc := 6) rfl hc ?_
    refine go_al (pc := 15) rfl (rfl : ai_ld 0 (lv_args 0 [.ref a0, .int a1, .int a2, .int a3]) = some (.ref a0)) ?_
    obtain ⟨x3, ex3, hh⟩ := bi_bd hh
    refine go_gfR (pc := 16) rfl ex3 ?_
    refine go_il (pc := 19) rfl (rfl : ai_ld 1 (lv_args 0 [.ref a0, .int a1, .int a2, .int a3]) = some (.int a1)) ?_
    refine go_pi (pc := 20) rfl ?_
    obtain ⟨h4, eh4, hh⟩ := bi_bd hh
    refine go_bast (pc := 21) rfl eh4 ?_
    refine go_al (pc := 22) rfl (rfl : ai_ld 0 (lv_args 0 [.ref a0, .int a1, .int a2, .int a3]) = some (.ref a0)) ?_
    obtain ⟨q5, eq5, hh⟩ := bi_bd hh
    refine go_ivV (pc := 23) rfl rfl (gX11_token eq5) (Nat.le_of_ble_eq_true rfl) (bi_up (sX11_token eq5) (Nat.le_of_ble_eq_true rfl)) ?_
    refine go_al (pc := 26) rfl (rfl : ai_ld 0 (lv_args 0 [.ref a0, .int a1, .int a2, .int a3]) = some (.ref a0)) ?_
    refine go_il (pc := 27) rfl (rfl : ai_ld 2 (lv_args 0 [.ref a0, .int a1, .int a2, .int a3]) = some (.int a2)) ?_
    refine go_il (pc := 28) rfl (rfl : ai_ld 3 (lv_args 0 [.ref a0, .int a1, .int a2, .int a3]) = some (.int a3)) ?_
    obtain ⟨q6, eq6, hh⟩ := bi_bd hh
    refine go_ivI (pc := 29) rfl rfl (gX11_number eq6) (Nat.le_of_ble_eq_true rfl) (bi_up (sX11_number eq6) (Nat.le_of_ble_eq_true rfl)) ?_
    refine bi_ite hh (fun hc hh => ?_) (fun hc hh => ?_)
    · refine go_ifneT (pc := 32) rfl hc ?_
      refine go_al (pc := 37) rfl (rfl : ai_ld 0 (lv_args 0 [.ref a0, .int a1, .int a2, .int a3]) = some (.ref a0)) ?_
      obtain ⟨x7, ex7, hh⟩ := bi_bd hh
      refine go_gfR (pc := 38) rfl ex7 ?_
      refine go_pi (pc := 41) rfl ?_
      refine go_il (pc := 42) rfl (rfl : ai_ld 1 (lv_args 0 [.ref a0, .int a1, .int a2, .int a3]) = some (.int a1)) ?_
      refine go_iadd (pc := 43) rfl ?_
      refine go_al (pc := 44) rfl (rfl : ai_ld 0 (lv_args 0 [.ref a0, .int a1, .int a2, .int a3]) = some (.ref a0)) ?_
      obtain ⟨x8, ex8, hh⟩ := bi_bd hh
      refine go_gfI (pc := 45) rfl ex8 ?_
      obtain ⟨h9, eh9, hh⟩ := bi_bd hh
      refine go_iast (pc := 48) rfl eh9 ?_
      refine go_pi (pc := 49) rfl ?_
      exact go_rz (pc := 50) rfl bi_z1 hh
    · refine go_ifneF (pc := 32) rfl hc ?_
      refine go_pi (pc := 35) rfl ?_
      exact go_rz (pc := 36) rfl bi_z0 hh
  · refine go_ifeqF (pc := 6) rfl hc ?_
    refine go_al (pc := 9) rfl (rfl : ai_ld 0 (lv_args 0 [.ref a0, .int a1, .int a2, .int a3]) = some (.ref a0)) ?_
    refine go_pi (pc := 10) rfl ?_
    obtain ⟨q10, eq10, hh⟩ := bi_bd hh
    refine go_ivI (pc := 11) rfl rfl (gX11_wrong eq10) (Nat.le_of_ble_eq_true rfl) (bi_up (sX11_wrong eq10) (Nat.le_of_ble_eq_true rfl)) ?_
    obtain ⟨_, ez, hh⟩ := bi_bd hh
    exact go_rz (pc := 14) rfl ez hh
def fX11_waitsFor (n : Nat) (h : ai_H) (a0 : Nat) (a1 : Int32) : Option (Unit × ai_H) :=
  (kO n h a0 11).bind fun _ =>
  (pR n h a0 11 49).bind fun x1 =>
  (pI n h a0 11 51).bind fun x2 =>
  (wX 1 (fun x => x) n h x1 x2 a1).bind fun h3 =>
  (pI n h3 a0 11 51).bind fun x4 =>
  (sF n h3 a0 11 51 (.int) (.int (x4 + (1 : Int32)))).bind fun h5 =>
  some ((), h5)
theorem gX11_waitsFor {n : Nat} {h : ai_H} {a0 : Nat} {a1 : Int32} {q : Unit × ai_H} (hh : fX11_waitsFor n h a0 a1 = some q) : kO n h a0 11 = some () := by
  obtain ⟨_, e, -⟩ := bi_bd hh
  exact e
theorem sX11_waitsFor {n : Nat} {h : ai_H} {a0 : Nat} {a1 : Int32} {q : Unit × ai_H} (hh : fX11_waitsFor n h a0 a1 = some q) : bi_sp 1 176 [.ref a0, .int a1] h n (fV n q) := by
  refine bi_en (D := 0) (T := tX11_waitsFor) (funext fun pc => rfl) rfl (Nat.le_of_ble_eq_true rfl) ?_
  unfold fX11_waitsFor at hh
  obtain ⟨_, eO, hh⟩ := bi_bd hh
  refine go_al (pc := 0) rfl (rfl : ai_ld 0 (lv_args 0 [.ref a0, .int a1]) = some (.ref a0)) ?_
  obtain ⟨x1, ex1, hh⟩ := bi_bd hh
  refine go_gfR (pc := 1) rfl ex1 ?_
  refine go_al (pc := 4) rfl (rfl : ai_ld 0 (lv_args 0 [.ref a0, .int a1]) = some (.ref a0)) ?_
  obtain ⟨x2, ex2, hh⟩ := bi_bd hh
  refine go_gfI (pc := 5) rfl ex2 ?_
  refine go_il (pc := 8) rfl (rfl : ai_ld 1 (lv_args 0 [.ref a0, .int a1]) = some (.int a1)) ?_
  obtain ⟨h3, eh3, hh⟩ := bi_bd hh
  refine go_iast (pc := 9) rfl eh3 ?_
  refine go_al (pc := 10) rfl (rfl : ai_ld 0 (lv_args 0 [.ref a0, .int a1]) = some (.ref a0)) ?_
  refine go_dup (pc := 11) rfl rfl ?_
  obtain ⟨x4, ex4, hh⟩ := bi_bd hh
  refine go_gfI (pc := 12) rfl ex4 ?_
  refine go_pi (pc := 15) rfl ?_
  refine go_iadd (pc := 16) rfl ?_
  obtain ⟨h5, eh5, hh⟩ := bi_bd hh
  refine go_pf (pc := 17) rfl eh5 ?_
  exact go_rv (pc := 20) rfl hh
def fX11_isCounted (n : Nat) (h : ai_H) (a0 : Nat) : Option (Int32 × ai_H) :=
  (kO n h a0 11).bind fun _ =>
  (pI n h a0 11 54).bind fun x1 =>
  if ¬ x1 = (64 : Int32) then (
    (pI n h a0 11 54).bind fun x2 =>
    (sF n h a0 11 54 (.int) (.int (x2 + (1 : Int32)))).bind fun h3 =>
    some ((1 : Int32), h3))
  else (
    (fX11_wrong n h a0 (2 : Int32)).bind fun q4 =>
    (gZ q4.1).bind fun _ =>
    some (q4.1, q4.2))
theorem gX11_isCounted {n : Nat} {h : ai_H} {a0 : Nat} {q : Int32 × ai_H} (hh : fX11_isCounted n h a0 = some q) : kO n h a0 11 = some () := by
  obtain ⟨_, e, -⟩ := bi_bd hh
  exact e
theorem sX11_isCounted {n : Nat} {h : ai_H} {a0 : Nat} {q : Int32 × ai_H} (hh : fX11_isCounted n h a0 = some q) : bi_sp 2 175 [.ref a0] h n (fI n q) := by
  refine bi_en (D := 1) (T := tX11_isCounted) (funext fun pc => rfl) rfl (Nat.le_of_ble_eq_true rfl) ?_
  unfold fX11_isCounted at hh
  obtain ⟨_, eO, hh⟩ := bi_bd hh
  refine go_al (pc := 0) rfl (rfl : ai_ld 0 (lv_args 0 [.ref a0]) = some (.ref a0)) ?_
  obtain ⟨x1, ex1, hh⟩ := bi_bd hh
  refine go_gfI (pc := 1) rfl ex1 ?_
  refine go_pi (pc := 4) rfl ?_
  refine bi_ite hh (fun hc hh => ?_) (fun hc hh => ?_)
  · refine go_cmpneT (pc := 6) rfl hc ?_
    refine go_al (pc := 15) rfl (rfl : ai_ld 0 (lv_args 0 [.ref a0]) = some (.ref a0)) ?_
    refine go_dup (pc := 16) rfl rfl ?_
    obtain ⟨x2, ex2, hh⟩ := bi_bd hh
    refine go_gfI (pc := 17) rfl ex2 ?_
    refine go_pi (pc := 20) rfl ?_
    refine go_iadd (pc := 21) rfl ?_
    obtain ⟨h3, eh3, hh⟩ := bi_bd hh
    refine go_pf (pc := 22) rfl eh3 ?_
    refine go_pi (pc := 25) rfl ?_
    exact go_rz (pc := 26) rfl bi_z1 hh
  · refine go_cmpneF (pc := 6) rfl hc ?_
    refine go_al (pc := 9) rfl (rfl : ai_ld 0 (lv_args 0 [.ref a0]) = some (.ref a0)) ?_
    refine go_pi (pc := 10) rfl ?_
    obtain ⟨q4, eq4, hh⟩ := bi_bd hh
    refine go_ivI (pc := 11) rfl rfl (gX11_wrong eq4) (Nat.le_of_ble_eq_true rfl) (bi_up (sX11_wrong eq4) (Nat.le_of_ble_eq_true rfl)) ?_
    obtain ⟨_, ez, hh⟩ := bi_bd hh
    exact go_rz (pc := 14) rfl ez hh
def fX11_nameMet (n : Nat) (h : ai_H) (a0 : Nat) : Option (Int32 × ai_H) :=
  (kO n h a0 11).bind fun _ =>
  (pI n h a0 11 8).bind fun x1 =>
  if ¬ x1 = (1 : Int32) then (
    some ((-1 : Int32), h))
  else (
    (pI n h a0 11 9).bind fun x2 =>
    if x2 < (15 : Int32) then (
      some ((-1 : Int32), h))
    else (
      (pI n h a0 11 9).bind fun x3 =>
      some (x3 - (15 : Int32), h)))
theorem gX11_nameMet {n : Nat} {h : ai_H} {a0 : Nat} {q : Int32 × ai_H} (hh : fX11_nameMet n h a0 = some q) : kO n h a0 11 = some () := by
  obtain ⟨_, e, -⟩ := bi_bd hh
  exact e
theorem sX11_nameMet {n : Nat} {h : ai_H} {a0 : Nat} {q : Int32 × ai_H} (hh : fX11_nameMet n h a0 = some q) : bi_sp 1 177 [.ref a0] h n (fI n q) := by
  refine bi_en (D := 0) (T := tX11_nameMet) (funext fun pc => rfl) rfl (Nat.le_of_ble_eq_true rfl) ?_
  unfold fX11_nameMet at hh
  obtain ⟨_, eO, hh⟩ := bi_bd hh
  refine go_al (pc := 0) rfl (rfl : ai_ld 0 (lv_args 0 [.ref a0]) = some (.ref a0)) ?_
  obtain ⟨x1, ex1, hh⟩ := bi_bd hh
  refine go_gfI (pc := 1) rfl ex1 ?_
  refine go_pi (pc := 4) rfl ?_
  refine bi_ite hh (fun hc hh => ?_) (fun hc hh => ?_)
  · refine go_cmpneT (pc := 5) rfl hc ?_
    refine go_pi (pc := 27) rfl ?_
    exact go_ri (pc := 28) rfl hh
  · refine go_cmpneF (pc := 5) rfl hc ?_
    refine go_al (pc := 8) rfl (rfl : ai_ld 0 (lv_args 0 [.ref a0]) = some (.ref a0)) ?_
    obtain ⟨x2, ex2, hh⟩ := bi_bd hh
    refine go_gfI (pc := 9) rfl ex2 ?_
    refine go_pi (pc := 12) rfl ?_
    refine bi_ite hh (fun hc hh => ?_) (fun hc hh => ?_)
    · refine go_cmpltT (pc := 14) rfl hc ?_
      refine go_pi (pc := 27) rfl ?_
      exact go_ri (pc := 28) rfl hh
    · refine go_cmpltF (pc := 14) rfl hc ?_
      refine go_al (pc := 17) rfl (rfl : ai_ld 0 (lv_args 0 [.ref a0]) = some (.ref a0)) ?_
      obtain ⟨x3, ex3, hh⟩ := bi_bd hh
      refine go_gfI (pc := 18) rfl ex3 ?_
      refine go_pi (pc := 21) rfl ?_
      refine go_isub (pc := 23) rfl ?_
      refine go_goto (pc := 24) rfl ?_
      exact go_ri (pc := 28) rfl hh
def fX11_grown (n : Nat) (h : ai_H) (a0 : Nat) (a1 : Int32) (a2 : Int32) (a3 : Int32) : Option (Unit × ai_H) :=
  (kO n h a0 11).bind fun _ =>
  (pR n h a0 11 46).bind fun x1 =>
  (pI n h a0 11 23).bind fun x2 =>
  (wX 1 (fun x => x) n h x1 ((64 : Int32) + x2) a1).bind fun h3 =>
  (pR n h3 a0 11 47).bind fun x4 =>
  (pI n h3 a0 11 23).bind fun x5 =>
  (wX 1 (fun x => x) n h3 x4 ((64 : Int32) + x5) a2).bind fun h6 =>
  (pR n h6 a0 11 48).bind fun x7 =>
  (pI n h6 a0 11 23).bind fun x8 =>
  (wX 1 (fun x => x) n h6 x7 ((64 : Int32) + x8) a3).bind fun h9 =>
  (pR n h9 a0 11 50).bind fun x10 =>
  (pI n h9 a0 11 52).bind fun x11 =>
  (pI n h9 a0 11 23).bind fun x12 =>
  (wX 1 (fun x => x) n h9 x10 x11 x12).bind fun h13 =>
  (pI n h13 a0 11 52).bind fun x14 =>
  (sF n h13 a0 11 52 (.int) (.int (x14 + (1 : Int32)))).bind fun h15 =>
  (pI n h15 a0 11 23).bind fun x16 =>
  (sF n h15 a0 11 23 (.int) (.int (x16 + (1 : Int32)))).bind fun h17 =>
  some ((), h17)
theorem gX11_grown {n : Nat} {h : ai_H} {a0 : Nat} {a1 : Int32} {a2 : Int32} {a3 : Int32} {q : Unit × ai_H} (hh : fX11_grown n h a0 a1 a2 a3 = some q) : kO n h a0 11 = some () := by
  obtain ⟨_, e, -⟩ := bi_bd hh
  exact e
theorem sX11_grown {n : Nat} {h : ai_H} {a0 : Nat} {a1 : Int32} {a2 : Int32} {a3 : Int32} {q : Unit × ai_H} (hh : fX11_grown n h a0 a1 a2 a3 = some q) : bi_sp 1 172 [.ref a0, .int a1, .int a2, .int a3] h n (fV n q) := by
  refine bi_en (D := 0) (T := tX11_grown) (funext fun pc => rfl) rfl (Nat.le_of_ble_eq_true rfl) ?_
  unfold fX11_grown at hh
  obtain ⟨_, eO, hh⟩ := bi_bd hh
  refine go_al (pc := 0) rfl (rfl : ai_ld 0 (lv_args 0 [.ref a0, .int a1, .int a2, .int a3]) = some (.ref a0)) ?_
  obtain ⟨x1, ex1, hh⟩ := bi_bd hh
  refine go_gfR (pc := 1) rfl ex1 ?_
  refine go_pi (pc := 4) rfl ?_
  refine go_al (pc := 6) rfl (rfl : ai_ld 0 (lv_args 0 [.ref a0, .int a1, .int a2, .int a3]) = some (.ref a0)) ?_
  obtain ⟨x2, ex2, hh⟩ := bi_bd hh
  refine go_gfI (pc := 7) rfl ex2 ?_
  refine go_iadd (pc := 10) rfl ?_
  refine go_il (pc := 11) rfl (rfl : ai_ld 1 (lv_args 0 [.ref a0, .int a1, .int a2, .int a3]) = some (.int a1)) ?_
  obtain ⟨h3, eh3, hh⟩ := bi_bd hh
  refine go_iast (pc := 12) rfl eh3 ?_
  refine go_al (pc := 13) rfl (rfl : ai_ld 0 (lv_args 0 [.ref a0, .int a1, .int a2, .int a3]) = some (.ref a0)) ?_
  obtain ⟨x4, ex4, hh⟩ := bi_bd hh
  refine go_gfR (pc := 14) rfl ex4 ?_
  refine go_pi (pc := 17) rfl ?_
  refine go_al (pc := 19) rfl (rfl : ai_ld 0 (lv_args 0 [.ref a0, .int a1, .int a2, .int a3]) = some (.ref a0)) ?_
  obtain ⟨x5, ex5, hh⟩ := bi_bd hh
  refine go_gfI (pc := 20) rfl ex5 ?_
  refine go_iadd (pc := 23) rfl ?_
  refine go_il (pc := 24) rfl (rfl : ai_ld 2 (lv_args 0 [.ref a0, .int a1, .int a2, .int a3]) = some (.int a2)) ?_
  obtain ⟨h6, eh6, hh⟩ := bi_bd hh
  refine go_iast (pc := 25) rfl eh6 ?_
  refine go_al (pc := 26) rfl (rfl : ai_ld 0 (lv_args 0 [.ref a0, .int a1, .int a2, .int a3]) = some (.ref a0)) ?_
  obtain ⟨x7, ex7, hh⟩ := bi_bd hh
  refine go_gfR (pc := 27) rfl ex7 ?_
  refine go_pi (pc := 30) rfl ?_
  refine go_al (pc := 32) rfl (rfl : ai_ld 0 (lv_args 0 [.ref a0, .int a1, .int a2, .int a3]) = some (.ref a0)) ?_
  obtain ⟨x8, ex8, hh⟩ := bi_bd hh
  refine go_gfI (pc := 33) rfl ex8 ?_
  refine go_iadd (pc := 36) rfl ?_
  refine go_il (pc := 37) rfl (rfl : ai_ld 3 (lv_args 0 [.ref a0, .int a1, .int a2, .int a3]) = some (.int a3)) ?_
  obtain ⟨h9, eh9, hh⟩ := bi_bd hh
  refine go_iast (pc := 38) rfl eh9 ?_
  refine go_al (pc := 39) rfl (rfl : ai_ld 0 (lv_args 0 [.ref a0, .int a1, .int a2, .int a3]) = some (.ref a0)) ?_
  obtain ⟨x10, ex10, hh⟩ := bi_bd hh
  refine go_gfR (pc := 40) rfl ex10 ?_
  refine go_al (pc := 43) rfl (rfl : ai_ld 0 (lv_args 0 [.ref a0, .int a1, .int a2, .int a3]) = some (.ref a0)) ?_
  obtain ⟨x11, ex11, hh⟩ := bi_bd hh
  refine go_gfI (pc := 44) rfl ex11 ?_
  refine go_al (pc := 47) rfl (rfl : ai_ld 0 (lv_args 0 [.ref a0, .int a1, .int a2, .int a3]) = some (.ref a0)) ?_
  obtain ⟨x12, ex12, hh⟩ := bi_bd hh
  refine go_gfI (pc := 48) rfl ex12 ?_
  obtain ⟨h13, eh13, hh⟩ := bi_bd hh
  refine go_iast (pc := 51) rfl eh13 ?_
  refine go_al (pc := 52) rfl (rfl : ai_ld 0 (lv_args 0 [.ref a0, .int a1, .int a2, .int a3]) = some (.ref a0)) ?_
  refine go_dup (pc := 53) rfl rfl ?_
  obtain ⟨x14, ex14, hh⟩ := bi_bd hh
  refine go_gfI (pc := 54) rfl ex14 ?_
  refine go_pi (pc := 57) rfl ?_
  refine go_iadd (pc := 58) rfl ?_
  obtain ⟨h15, eh15, hh⟩ := bi_bd hh
  refine go_pf (pc := 59) rfl eh15 ?_
  refine go_al (pc := 62) rfl (rfl : ai_ld 0 (lv_args 0 [.ref a0, .int a1, .int a2, .int a3]) = some (.ref a0)) ?_
  refine go_dup (pc := 63) rfl rfl ?_
  obtain ⟨x16, ex16, hh⟩ := bi_bd hh
  refine go_gfI (pc := 64) rfl ex16 ?_
  refine go_pi (pc := 67) rfl ?_
  refine go_iadd (pc := 68) rfl ?_
  obtain ⟨h17, eh17, hh⟩ := bi_bd hh
  refine go_pf (pc := 69) rfl eh17 ?_
  exact go_rv (pc := 72) rfl hh
def fX11_leafRead_160 (n : Nat) (h : ai_H) (v0 : Nat) (s0 : Int32) (s1 : Int32) (s2 : Nat) : Option (Int32 × ai_H) :=
  (fX11_grown n h s2 s1 s0 (0 : Int32)).bind fun q1 =>
  (sF n q1.2 v0 11 55 (.boolean) (.int (0 : Int32))).bind fun h2 =>
  (fX11_token n h2 v0).bind fun q3 =>
  some ((1 : Int32), q3.2)
theorem sX11_leafRead_160 {n : Nat} {q : Int32 × ai_H} {h : ai_H} {v0 : Nat} {s0 : Int32} {s1 : Int32} {s2 : Nat} {lv : ai_L} (l0 : ai_ld 0 lv = some (.ref v0)) (hh : fX11_leafRead_160 n h v0 s0 s1 s2 = some q) : bi_go 2 tX11_leafRead n (fI n q) 160 lv [.int s0, .int s1, .ref s2] h := by
  unfold fX11_leafRead_160 at hh
  refine go_pi (pc := 160) rfl ?_
  obtain ⟨q1, eq1, hh⟩ := bi_bd hh
  refine go_ivV (pc := 161) rfl rfl (gX11_grown eq1) (Nat.le_of_ble_eq_true rfl) (bi_up (sX11_grown eq1) (Nat.le_of_ble_eq_true rfl)) ?_
  refine go_al (pc := 164) rfl l0 ?_
  refine go_pi (pc := 165) rfl ?_
  obtain ⟨h2, eh2, hh⟩ := bi_bd hh
  refine go_pf (pc := 166) rfl eh2 ?_
  refine go_al (pc := 169) rfl l0 ?_
  obtain ⟨q3, eq3, hh⟩ := bi_bd hh
  refine go_ivV (pc := 170) rfl rfl (gX11_token eq3) (Nat.le_of_ble_eq_true rfl) (bi_up (sX11_token eq3) (Nat.le_of_ble_eq_true rfl)) ?_
  refine go_pi (pc := 173) rfl ?_
  exact go_rz (pc := 174) rfl bi_z1 hh
def fX11_leafRead_148 (n : Nat) (h : ai_H) (v0 : Nat) (v1 : Int32) (s0 : Int32) (s1 : Nat) : Option (Int32 × ai_H) :=
  if v1 < 0 then (
    (pI n h v0 11 9).bind fun x1 =>
    fX11_leafRead_160 n h v0 x1 s0 s1)
  else (
    fX11_leafRead_160 n h v0 v1 s0 s1)
theorem sX11_leafRead_148 {n : Nat} {q : Int32 × ai_H} {h : ai_H} {v0 : Nat} {v1 : Int32} {s0 : Int32} {s1 : Nat} {lv : ai_L} (l0 : ai_ld 0 lv = some (.ref v0)) (l1 : ai_ld 1 lv = some (.int v1)) (hh : fX11_leafRead_148 n h v0 v1 s0 s1 = some q) : bi_go 2 tX11_leafRead n (fI n q) 148 lv [.int s0, .ref s1] h := by
  unfold fX11_leafRead_148 at hh
  refine go_il (pc := 148) rfl l1 ?_
  refine bi_ite hh (fun hc hh => ?_) (fun hc hh => ?_)
  · refine go_ifltT (pc := 149) rfl hc ?_
    refine go_al (pc := 156) rfl l0 ?_
    obtain ⟨x1, ex1, hh⟩ := bi_bd hh
    refine go_gfI (pc := 157) rfl ex1 ?_
    exact sX11_leafRead_160  l0 hh
  · refine go_ifltF (pc := 149) rfl hc ?_
    refine go_il (pc := 152) rfl l1 ?_
    refine go_goto (pc := 153) rfl ?_
    exact sX11_leafRead_160  l0 hh
def fX11_leafRead_129 (n : Nat) (h : ai_H) (v0 : Nat) (v1 : Int32) : Option (Int32 × ai_H) :=
  (fX11_isCounted n h v0).bind fun q1 =>
  if ¬ q1.1 = 0 then (
    if v1 < 0 then (
      fX11_leafRead_148 n q1.2 v0 v1 (0 : Int32) v0)
    else (
      fX11_leafRead_148 n q1.2 v0 v1 (1 : Int32) v0))
  else (
    some ((0 : Int32), q1.2))
theorem sX11_leafRead_129 {n : Nat} {q : Int32 × ai_H} {h : ai_H} {v0 : Nat} {v1 : Int32} {lv : ai_L} (l0 : ai_ld 0 lv = some (.ref v0)) (l1 : ai_ld 1 lv = some (.int v1)) (hh : fX11_leafRead_129 n h v0 v1 = some q) : bi_go 2 tX11_leafRead n (fI n q) 129 lv [] h := by
  unfold fX11_leafRead_129 at hh
  refine go_al (pc := 129) rfl l0 ?_
  obtain ⟨q1, eq1, hh⟩ := bi_bd hh
  refine go_ivI (pc := 130) rfl rfl (gX11_isCounted eq1) (Nat.le_of_ble_eq_true rfl) (bi_up (sX11_isCounted eq1) (Nat.le_of_ble_eq_true rfl)) ?_
  refine bi_ite hh (fun hc hh => ?_) (fun hc hh => ?_)
  · refine go_ifneT (pc := 133) rfl hc ?_
    refine go_al (pc := 138) rfl l0 ?_
    refine go_il (pc := 139) rfl l1 ?_
    refine bi_ite hh (fun hc hh => ?_) (fun hc hh => ?_)
    · refine go_ifltT (pc := 140) rfl hc ?_
      refine go_pi (pc := 147) rfl ?_
      exact sX11_leafRead_148  l0 l1 hh
    · refine go_ifltF (pc := 140) rfl hc ?_
      refine go_pi (pc := 143) rfl ?_
      refine go_goto (pc := 144) rfl ?_
      exact sX11_leafRead_148  l0 l1 hh
  · refine go_ifneF (pc := 133) rfl hc ?_
    refine go_pi (pc := 136) rfl ?_
    exact go_rz (pc := 137) rfl bi_z0 hh
def fX11_leafRead_109 (n : Nat) (h : ai_H) (v0 : Nat) (v1 : Int32) : Option (Int32 × ai_H) :=
  if 0 ≤ v1 then (
    fX11_leafRead_129 n h v0 v1)
  else (
    (pI n h v0 11 9).bind fun x1 =>
    if x1 ≤ (9999 : Int32) then (
      fX11_leafRead_129 n h v0 v1)
    else (
      (fX11_wrong n h v0 (2 : Int32)).bind fun q2 =>
      (gZ q2.1).bind fun _ =>
      some (q2.1, q2.2)))
theorem sX11_leafRead_109 {n : Nat} {q : Int32 × ai_H} {h : ai_H} {v0 : Nat} {v1 : Int32} {lv : ai_L} (l0 : ai_ld 0 lv = some (.ref v0)) (l1 : ai_ld 1 lv = some (.int v1)) (hh : fX11_leafRead_109 n h v0 v1 = some q) : bi_go 2 tX11_leafRead n (fI n q) 109 lv [] h := by
  unfold fX11_leafRead_109 at hh
  refine go_il (pc := 109) rfl l1 ?_
  refine bi_ite hh (fun hc hh => ?_) (fun hc hh => ?_)
  · refine go_ifgeT (pc := 110) rfl hc ?_
    exact sX11_leafRead_129  l0 l1 hh
  · refine go_ifgeF (pc := 110) rfl hc ?_
    refine go_al (pc := 113) rfl l0 ?_
    obtain ⟨x1, ex1, hh⟩ := bi_bd hh
    refine go_gfI (pc := 114) rfl ex1 ?_
    refine go_pi (pc := 117) rfl ?_
    refine bi_ite hh (fun hc hh => ?_) (fun hc hh => ?_)
    · refine go_cmpleT (pc := 120) rfl hc ?_
      exact sX11_leafRead_129  l0 l1 hh
    · refine go_cmpleF (pc := 120) rfl hc ?_
      refine go_al (pc := 123) rfl l0 ?_
      refine go_pi (pc := 124) rfl ?_
      obtain ⟨q2, eq2, hh⟩ := bi_bd hh
      refine go_ivI (pc := 125) rfl rfl (gX11_wrong eq2) (Nat.le_of_ble_eq_true rfl) (bi_up (sX11_wrong eq2) (Nat.le_of_ble_eq_true rfl)) ?_
      obtain ⟨_, ez, hh⟩ := bi_bd hh
      exact go_rz (pc := 128) rfl ez hh
def fX11_leafRead_86 (n : Nat) (h : ai_H) (v0 : Nat) : Option (Int32 × ai_H) :=
  (fX11_nameMet n h v0).bind fun q1 =>
  if 0 ≤ q1.1 then (
    fX11_leafRead_109 n q1.2 v0 q1.1)
  else (
    (pI n q1.2 v0 11 8).bind fun x2 =>
    if x2 = (3 : Int32) then (
      fX11_leafRead_109 n q1.2 v0 q1.1)
    else (
      (fX11_wrong n q1.2 v0 (1 : Int32)).bind fun q3 =>
      (gZ q3.1).bind fun _ =>
      some (q3.1, q3.2)))
theorem sX11_leafRead_86 {n : Nat} {q : Int32 × ai_H} {h : ai_H} {v0 : Nat} {lv : ai_L} (l0 : ai_ld 0 lv = some (.ref v0)) (hh : fX11_leafRead_86 n h v0 = some q) : bi_go 2 tX11_leafRead n (fI n q) 86 lv [] h := by
  unfold fX11_leafRead_86 at hh
  refine go_al (pc := 86) rfl l0 ?_
  obtain ⟨q1, eq1, hh⟩ := bi_bd hh
  refine go_ivI (pc := 87) rfl rfl (gX11_nameMet eq1) (Nat.le_of_ble_eq_true rfl) (bi_up (sX11_nameMet eq1) (Nat.le_of_ble_eq_true rfl)) ?_
  refine go_is (pc := 90) rfl ?_
  refine go_il (pc := 91) rfl bi_e1 ?_
  refine bi_ite hh (fun hc hh => ?_) (fun hc hh => ?_)
  · refine go_ifgeT (pc := 92) rfl hc ?_
    exact sX11_leafRead_109  (bi_k1 l0 rfl rfl) bi_e1 hh
  · refine go_ifgeF (pc := 92) rfl hc ?_
    refine go_al (pc := 95) rfl (bi_k1 l0 rfl rfl) ?_
    obtain ⟨x2, ex2, hh⟩ := bi_bd hh
    refine go_gfI (pc := 96) rfl ex2 ?_
    refine go_pi (pc := 99) rfl ?_
    refine bi_ite hh (fun hc hh => ?_) (fun hc hh => ?_)
    · refine go_cmpeqT (pc := 100) rfl hc ?_
      exact sX11_leafRead_109  (bi_k1 l0 rfl rfl) bi_e1 hh
    · refine go_cmpeqF (pc := 100) rfl hc ?_
      refine go_al (pc := 103) rfl (bi_k1 l0 rfl rfl) ?_
      refine go_pi (pc := 104) rfl ?_
      obtain ⟨q3, eq3, hh⟩ := bi_bd hh
      refine go_ivI (pc := 105) rfl rfl (gX11_wrong eq3) (Nat.le_of_ble_eq_true rfl) (bi_up (sX11_wrong eq3) (Nat.le_of_ble_eq_true rfl)) ?_
      obtain ⟨_, ez, hh⟩ := bi_bd hh
      exact go_rz (pc := 108) rfl ez hh
def fX11_leafRead (n : Nat) (h : ai_H) (a0 : Nat) : Option (Int32 × ai_H) :=
  (kO n h a0 11).bind fun _ =>
  (fX11_isSign n h a0 (40 : Int32)).bind fun q1 =>
  if q1.1 = 0 then (
    (fX11_isKey n q1.2 a0 (14 : Int32)).bind fun q2 =>
    if q2.1 = 0 then (
      fX11_leafRead_86 n q2.2 a0)
    else (
      (pI n q2.2 a0 11 56).bind fun x3 =>
      if x3 = 0 then (
        fX11_leafRead_86 n q2.2 a0)
      else (
        (fX11_isCounted n q2.2 a0).bind fun q4 =>
        if ¬ q4.1 = 0 then (
          (fX11_waitsFor n q4.2 a0 (2 : Int32)).bind fun q5 =>
          (fX11_token n q5.2 a0).bind fun q6 =>
          some ((1 : Int32), q6.2))
        else (
          some ((0 : Int32), q4.2)))))
  else (
    (pI n q1.2 a0 11 53).bind fun x7 =>
    if ¬ x7 = (8 : Int32) then (
      (pI n q1.2 a0 11 53).bind fun x8 =>
      (sF n q1.2 a0 11 53 (.int) (.int (x8 + (1 : Int32)))).bind fun h9 =>
      (fX11_waitsFor n h9 a0 (0 : Int32)).bind fun q10 =>
      (sF n q10.2 a0 11 56 (.boolean) (.int (1 : Int32))).bind fun h11 =>
      (fX11_token n h11 a0).bind fun q12 =>
      some ((1 : Int32), q12.2))
    else (
      (fX11_wrong n q1.2 a0 (2 : Int32)).bind fun q13 =>
      (gZ q13.1).bind fun _ =>
      some (q13.1, q13.2)))
theorem gX11_leafRead {n : Nat} {h : ai_H} {a0 : Nat} {q : Int32 × ai_H} (hh : fX11_leafRead n h a0 = some q) : kO n h a0 11 = some () := by
  obtain ⟨_, e, -⟩ := bi_bd hh
  exact e
theorem sX11_leafRead {n : Nat} {h : ai_H} {a0 : Nat} {q : Int32 × ai_H} (hh : fX11_leafRead n h a0 = some q) : bi_sp 3 178 [.ref a0] h n (fI n q) := by
  refine bi_en (D := 2) (T := tX11_leafRead) (funext fun pc => rfl) rfl (Nat.le_of_ble_eq_true rfl) ?_
  unfold fX11_leafRead at hh
  obtain ⟨_, eO, hh⟩ := bi_bd hh
  refine go_al (pc := 0) rfl (rfl : ai_ld 0 (lv_args 0 [.ref a0]) = some (.ref a0)) ?_
  refine go_pi (pc := 1) rfl ?_
  obtain ⟨q1, eq1, hh⟩ := bi_bd hh
  refine go_ivI (pc := 3) rfl rfl (gX11_isSign eq1) (Nat.le_of_ble_eq_true rfl) (bi_up (sX11_isSign eq1) (Nat.le_of_ble_eq_true rfl)) ?_
  refine bi_ite hh (fun hc hh => ?_) (fun hc hh => ?_)
  · refine go_ifeqT (pc := 6) rfl hc ?_
    refine go_al (pc := 50) rfl (rfl : ai_ld 0 (lv_args 0 [.ref a0]) = some (.ref a0)) ?_
    refine go_pi (pc := 51) rfl ?_
    obtain ⟨q2, eq2, hh⟩ := bi_bd hh
    refine go_ivI (pc := 53) rfl rfl (gX11_isKey eq2) (Nat.le_of_ble_eq_true rfl) (bi_up (sX11_isKey eq2) (Nat.le_of_ble_eq_true rfl)) ?_
    refine bi_ite hh (fun hc hh => ?_) (fun hc hh => ?_)
    · refine go_ifeqT (pc := 56) rfl hc ?_
      exact sX11_leafRead_86  (rfl : ai_ld 0 (lv_args 0 [.ref a0]) = some (.ref a0)) hh
    · refine go_ifeqF (pc := 56) rfl hc ?_
      refine go_al (pc := 59) rfl (rfl : ai_ld 0 (lv_args 0 [.ref a0]) = some (.ref a0)) ?_
      obtain ⟨x3, ex3, hh⟩ := bi_bd hh
      refine go_gfI (pc := 60) rfl ex3 ?_
      refine bi_ite hh (fun hc hh => ?_) (fun hc hh => ?_)
      · refine go_ifeqT (pc := 63) rfl hc ?_
        exact sX11_leafRead_86  (rfl : ai_ld 0 (lv_args 0 [.ref a0]) = some (.ref a0)) hh
      · refine go_ifeqF (pc := 63) rfl hc ?_
        refine go_al (pc := 66) rfl (rfl : ai_ld 0 (lv_args 0 [.ref a0]) = some (.ref a0)) ?_
        obtain ⟨q4, eq4, hh⟩ := bi_bd hh
        refine go_ivI (pc := 67) rfl rfl (gX11_isCounted eq4) (Nat.le_of_ble_eq_true rfl) (bi_up (sX11_isCounted eq4) (Nat.le_of_ble_eq_true rfl)) ?_
        refine bi_ite hh (fun hc hh => ?_) (fun hc hh => ?_)
        · refine go_ifneT (pc := 70) rfl hc ?_
          refine go_al (pc := 75) rfl (rfl : ai_ld 0 (lv_args 0 [.ref a0]) = some (.ref a0)) ?_
          refine go_pi (pc := 76) rfl ?_
          obtain ⟨q5, eq5, hh⟩ := bi_bd hh
          refine go_ivV (pc := 77) rfl rfl (gX11_waitsFor eq5) (Nat.le_of_ble_eq_true rfl) (bi_up (sX11_waitsFor eq5) (Nat.le_of_ble_eq_true rfl)) ?_
          refine go_al (pc := 80) rfl (rfl : ai_ld 0 (lv_args 0 [.ref a0]) = some (.ref a0)) ?_
          obtain ⟨q6, eq6, hh⟩ := bi_bd hh
          refine go_ivV (pc := 81) rfl rfl (gX11_token eq6) (Nat.le_of_ble_eq_true rfl) (bi_up (sX11_token eq6) (Nat.le_of_ble_eq_true rfl)) ?_
          refine go_pi (pc := 84) rfl ?_
          exact go_rz (pc := 85) rfl bi_z1 hh
        · refine go_ifneF (pc := 70) rfl hc ?_
          refine go_pi (pc := 73) rfl ?_
          exact go_rz (pc := 74) rfl bi_z0 hh
  · refine go_ifeqF (pc := 6) rfl hc ?_
    refine go_al (pc := 9) rfl (rfl : ai_ld 0 (lv_args 0 [.ref a0]) = some (.ref a0)) ?_
    obtain ⟨x7, ex7, hh⟩ := bi_bd hh
    refine go_gfI (pc := 10) rfl ex7 ?_
    refine go_pi (pc := 13) rfl ?_
    refine bi_ite hh (fun hc hh => ?_) (fun hc hh => ?_)
    · refine go_cmpneT (pc := 15) rfl hc ?_
      refine go_al (pc := 24) rfl (rfl : ai_ld 0 (lv_args 0 [.ref a0]) = some (.ref a0)) ?_
      refine go_dup (pc := 25) rfl rfl ?_
      obtain ⟨x8, ex8, hh⟩ := bi_bd hh
      refine go_gfI (pc := 26) rfl ex8 ?_
      refine go_pi (pc := 29) rfl ?_
      refine go_iadd (pc := 30) rfl ?_
      obtain ⟨h9, eh9, hh⟩ := bi_bd hh
      refine go_pf (pc := 31) rfl eh9 ?_
      refine go_al (pc := 34) rfl (rfl : ai_ld 0 (lv_args 0 [.ref a0]) = some (.ref a0)) ?_
      refine go_pi (pc := 35) rfl ?_
      obtain ⟨q10, eq10, hh⟩ := bi_bd hh
      refine go_ivV (pc := 36) rfl rfl (gX11_waitsFor eq10) (Nat.le_of_ble_eq_true rfl) (bi_up (sX11_waitsFor eq10) (Nat.le_of_ble_eq_true rfl)) ?_
      refine go_al (pc := 39) rfl (rfl : ai_ld 0 (lv_args 0 [.ref a0]) = some (.ref a0)) ?_
      refine go_pi (pc := 40) rfl ?_
      obtain ⟨h11, eh11, hh⟩ := bi_bd hh
      refine go_pf (pc := 41) rfl eh11 ?_
      refine go_al (pc := 44) rfl (rfl : ai_ld 0 (lv_args 0 [.ref a0]) = some (.ref a0)) ?_
      obtain ⟨q12, eq12, hh⟩ := bi_bd hh
      refine go_ivV (pc := 45) rfl rfl (gX11_token eq12) (Nat.le_of_ble_eq_true rfl) (bi_up (sX11_token eq12) (Nat.le_of_ble_eq_true rfl)) ?_
      refine go_pi (pc := 48) rfl ?_
      exact go_rz (pc := 49) rfl bi_z1 hh
    · refine go_cmpneF (pc := 15) rfl hc ?_
      refine go_al (pc := 18) rfl (rfl : ai_ld 0 (lv_args 0 [.ref a0]) = some (.ref a0)) ?_
      refine go_pi (pc := 19) rfl ?_
      obtain ⟨q13, eq13, hh⟩ := bi_bd hh
      refine go_ivI (pc := 20) rfl rfl (gX11_wrong eq13) (Nat.le_of_ble_eq_true rfl) (bi_up (sX11_wrong eq13) (Nat.le_of_ble_eq_true rfl)) ?_
      obtain ⟨_, ez, hh⟩ := bi_bd hh
      exact go_rz (pc := 23) rfl ez hh
def fX11_rank (n : Nat) (h : ai_H) (a0 : Int32) : Option (Int32 × ai_H) :=
  if a0 < (13 : Int32) then (
    if a0 < (11 : Int32) then (
      if a0 < (5 : Int32) then (
        if ¬ a0 = (2 : Int32) then (
          if ¬ a0 = (3 : Int32) then (
            if ¬ a0 = (4 : Int32) then (
              some ((0 : Int32), h))
            else (
              some ((1 : Int32), h)))
          else (
            some ((2 : Int32), h)))
        else (
          some ((3 : Int32), h)))
      else (
        some ((4 : Int32), h)))
    else (
      some ((5 : Int32), h)))
  else (
    some ((6 : Int32), h))
theorem sX11_rank {n : Nat} {h : ai_H} {a0 : Int32} {q : Int32 × ai_H} (hh : fX11_rank n h a0 = some q) : bi_sp 1 171 [.int a0] h n (fI n q) := by
  refine bi_en (D := 0) (T := tX11_rank) (funext fun pc => rfl) rfl (Nat.le_of_ble_eq_true rfl) ?_
  unfold fX11_rank at hh
  refine go_il (pc := 0) rfl (rfl : ai_ld 0 (lv_args 0 [.int a0]) = some (.int a0)) ?_
  refine go_pi (pc := 1) rfl ?_
  refine bi_ite hh (fun hc hh => ?_) (fun hc hh => ?_)
  · refine go_cmpltT (pc := 3) rfl hc ?_
    refine go_il (pc := 11) rfl (rfl : ai_ld 0 (lv_args 0 [.int a0]) = some (.int a0)) ?_
    refine go_pi (pc := 12) rfl ?_
    refine bi_ite hh (fun hc hh => ?_) (fun hc hh => ?_)
    · refine go_cmpltT (pc := 14) rfl hc ?_
      refine go_il (pc := 21) rfl (rfl : ai_ld 0 (lv_args 0 [.int a0]) = some (.int a0)) ?_
      refine go_pi (pc := 22) rfl ?_
      refine bi_ite hh (fun hc hh => ?_) (fun hc hh => ?_)
      · refine go_cmpltT (pc := 23) rfl hc ?_
        refine go_il (pc := 30) rfl (rfl : ai_ld 0 (lv_args 0 [.int a0]) = some (.int a0)) ?_
        refine go_pi (pc := 31) rfl ?_
        refine bi_ite hh (fun hc hh => ?_) (fun hc hh => ?_)
        · refine go_cmpneT (pc := 32) rfl hc ?_
          refine go_il (pc := 39) rfl (rfl : ai_ld 0 (lv_args 0 [.int a0]) = some (.int a0)) ?_
          refine go_pi (pc := 40) rfl ?_
          refine bi_ite hh (fun hc hh => ?_) (fun hc hh => ?_)
          · refine go_cmpneT (pc := 41) rfl hc ?_
            refine go_il (pc := 48) rfl (rfl : ai_ld 0 (lv_args 0 [.int a0]) = some (.int a0)) ?_
            refine go_pi (pc := 49) rfl ?_
            refine bi_ite hh (fun hc hh => ?_) (fun hc hh => ?_)
            · refine go_cmpneT (pc := 50) rfl hc ?_
              refine go_pi (pc := 57) rfl ?_
              exact go_ri (pc := 58) rfl hh
            · refine go_cmpneF (pc := 50) rfl hc ?_
              refine go_pi (pc := 53) rfl ?_
              refine go_goto (pc := 54) rfl ?_
              exact go_ri (pc := 58) rfl hh
          · refine go_cmpneF (pc := 41) rfl hc ?_
            refine go_pi (pc := 44) rfl ?_
            refine go_goto (pc := 45) rfl ?_
            exact go_ri (pc := 58) rfl hh
        · refine go_cmpneF (pc := 32) rfl hc ?_
          refine go_pi (pc := 35) rfl ?_
          refine go_goto (pc := 36) rfl ?_
          exact go_ri (pc := 58) rfl hh
      · refine go_cmpltF (pc := 23) rfl hc ?_
        refine go_pi (pc := 26) rfl ?_
        refine go_goto (pc := 27) rfl ?_
        exact go_ri (pc := 58) rfl hh
    · refine go_cmpltF (pc := 14) rfl hc ?_
      refine go_pi (pc := 17) rfl ?_
      refine go_goto (pc := 18) rfl ?_
      exact go_ri (pc := 58) rfl hh
  · refine go_cmpltF (pc := 3) rfl hc ?_
    refine go_pi (pc := 6) rfl ?_
    refine go_goto (pc := 8) rfl ?_
    exact go_ri (pc := 58) rfl hh
def fX11_dropHeld (n : Nat) (h : ai_H) (a0 : Nat) : Option (Int32 × ai_H) :=
  (kO n h a0 11).bind fun _ =>
  (pI n h a0 11 52).bind fun x1 =>
  (sF n h a0 11 52 (.int) (.int (x1 - (1 : Int32)))).bind fun h2 =>
  (pR n h2 a0 11 50).bind fun x3 =>
  (pI n h2 a0 11 52).bind fun x4 =>
  (gX 1 n h2 x3 x4).bind fun x5 =>
  some (x5, h2)
theorem gX11_dropHeld {n : Nat} {h : ai_H} {a0 : Nat} {q : Int32 × ai_H} (hh : fX11_dropHeld n h a0 = some q) : kO n h a0 11 = some () := by
  obtain ⟨_, e, -⟩ := bi_bd hh
  exact e
theorem sX11_dropHeld {n : Nat} {h : ai_H} {a0 : Nat} {q : Int32 × ai_H} (hh : fX11_dropHeld n h a0 = some q) : bi_sp 1 173 [.ref a0] h n (fI n q) := by
  refine bi_en (D := 0) (T := tX11_dropHeld) (funext fun pc => rfl) rfl (Nat.le_of_ble_eq_true rfl) ?_
  unfold fX11_dropHeld at hh
  obtain ⟨_, eO, hh⟩ := bi_bd hh
  refine go_al (pc := 0) rfl (rfl : ai_ld 0 (lv_args 0 [.ref a0]) = some (.ref a0)) ?_
  refine go_dup (pc := 1) rfl rfl ?_
  obtain ⟨x1, ex1, hh⟩ := bi_bd hh
  refine go_gfI (pc := 2) rfl ex1 ?_
  refine go_pi (pc := 5) rfl ?_
  refine go_isub (pc := 6) rfl ?_
  obtain ⟨h2, eh2, hh⟩ := bi_bd hh
  refine go_pf (pc := 7) rfl eh2 ?_
  refine go_al (pc := 10) rfl (rfl : ai_ld 0 (lv_args 0 [.ref a0]) = some (.ref a0)) ?_
  obtain ⟨x3, ex3, hh⟩ := bi_bd hh
  refine go_gfR (pc := 11) rfl ex3 ?_
  refine go_al (pc := 14) rfl (rfl : ai_ld 0 (lv_args 0 [.ref a0]) = some (.ref a0)) ?_
  obtain ⟨x4, ex4, hh⟩ := bi_bd hh
  refine go_gfI (pc := 15) rfl ex4 ?_
  obtain ⟨x5, ex5, hh⟩ := bi_bd hh
  refine go_iald (pc := 18) rfl ex5 ?_
  exact go_ri (pc := 19) rfl hh
def fX11_bind_58 (n : Nat) (r0 : ai_H → Nat → Int32 → Option (Unit × ai_H)) (h : ai_H) (v0 : Nat) (v1 : Int32) (v2 : Int32) (s0 : Int32) : Option (Unit × ai_H) :=
  (fX11_dropHeld n h v0).bind fun q1 =>
  (fX11_grown n q1.2 v0 v2 q1.1 s0).bind fun q2 =>
  r0 q2.2 v0 v1
theorem sX11_bind_58 {n : Nat} {r0 : ai_H → Nat → Int32 → Option (Unit × ai_H)} {q : Unit × ai_H} {h : ai_H} {v0 : Nat} {v1 : Int32} {v2 : Int32} {s0 : Int32} {lv : ai_L} (R0 : ∀ (h : ai_H) (v0 : Nat) (v1 : Int32) (lv : ai_L), ai_ld 0 lv = some (.ref v0) → ai_ld 1 lv = some (.int v1) → r0 h v0 v1 = some q → bi_go 1 tX11_bind n (fV n q) 0 lv [] h) (l0 : ai_ld 0 lv = some (.ref v0)) (l1 : ai_ld 1 lv = some (.int v1)) (l2 : ai_ld 2 lv = some (.int v2)) (hh : fX11_bind_58 n r0 h v0 v1 v2 s0 = some q) : bi_go 1 tX11_bind n (fV n q) 58 lv [.int s0] h := by
  unfold fX11_bind_58 at hh
  refine go_is (pc := 58) rfl ?_
  refine go_al (pc := 59) rfl (bi_k1 l0 rfl rfl) ?_
  obtain ⟨q1, eq1, hh⟩ := bi_bd hh
  refine go_ivI (pc := 60) rfl rfl (gX11_dropHeld eq1) (Nat.le_of_ble_eq_true rfl) (bi_up (sX11_dropHeld eq1) (Nat.le_of_ble_eq_true rfl)) ?_
  refine go_is (pc := 63) rfl ?_
  refine go_al (pc := 65) rfl (bi_k1 (bi_k1 l0 rfl rfl) rfl rfl) ?_
  refine go_il (pc := 66) rfl (bi_k1 (bi_k1 l2 rfl rfl) rfl rfl) ?_
  refine go_il (pc := 67) rfl bi_e1 ?_
  refine go_il (pc := 69) rfl (bi_k1 bi_e1 rfl rfl) ?_
  obtain ⟨q2, eq2, hh⟩ := bi_bd hh
  refine go_ivV (pc := 70) rfl rfl (gX11_grown eq2) (Nat.le_of_ble_eq_true rfl) (bi_up (sX11_grown eq2) (Nat.le_of_ble_eq_true rfl)) ?_
  refine go_goto (pc := 73) rfl ?_
  exact R0 _ _ _ _ (bi_k1 (bi_k1 l0 rfl rfl) rfl rfl) (bi_k1 (bi_k1 l1 rfl rfl) rfl rfl) hh
def fX11_bind_0b (n : Nat) (r0 : ai_H → Nat → Int32 → Option (Unit × ai_H)) (h : ai_H) (v0 : Nat) (v1 : Int32) : Option (Unit × ai_H) :=
  (pI n h v0 11 51).bind fun x1 =>
  if x1 ≤ 0 then (
    some ((), h))
  else (
    (pR n h v0 11 49).bind fun x2 =>
    (pI n h v0 11 51).bind fun x3 =>
    (gX 1 n h x2 (x3 - (1 : Int32))).bind fun x4 =>
    (fX11_rank n h x4).bind fun q5 =>
    if q5.1 < v1 then (
      some ((), q5.2))
    else (
      (pI n q5.2 v0 11 51).bind fun x6 =>
      (sF n q5.2 v0 11 51 (.int) (.int (x6 - (1 : Int32)))).bind fun h7 =>
      (pR n h7 v0 11 49).bind fun x8 =>
      (pI n h7 v0 11 51).bind fun x9 =>
      (gX 1 n h7 x8 x9).bind fun x10 =>
      if ¬ x10 = (2 : Int32) then (
        (fX11_dropHeld n h7 v0).bind fun q11 =>
        fX11_bind_58 n r0 q11.2 v0 v1 x10 q11.1)
      else (
        fX11_bind_58 n r0 h7 v0 v1 x10 (-1 : Int32))))
theorem sX11_bind_0b {n : Nat} {r0 : ai_H → Nat → Int32 → Option (Unit × ai_H)} {q : Unit × ai_H} {h : ai_H} {v0 : Nat} {v1 : Int32} {lv : ai_L} (R0 : ∀ (h : ai_H) (v0 : Nat) (v1 : Int32) (lv : ai_L), ai_ld 0 lv = some (.ref v0) → ai_ld 1 lv = some (.int v1) → r0 h v0 v1 = some q → bi_go 1 tX11_bind n (fV n q) 0 lv [] h) (l0 : ai_ld 0 lv = some (.ref v0)) (l1 : ai_ld 1 lv = some (.int v1)) (hh : fX11_bind_0b n r0 h v0 v1 = some q) : bi_go 1 tX11_bind n (fV n q) 0 lv [] h := by
  unfold fX11_bind_0b at hh
  refine go_al (pc := 0) rfl l0 ?_
  obtain ⟨x1, ex1, hh⟩ := bi_bd hh
  refine go_gfI (pc := 1) rfl ex1 ?_
  refine bi_ite hh (fun hc hh => ?_) (fun hc hh => ?_)
  · refine go_ifleT (pc := 4) rfl hc ?_
    exact go_rv (pc := 76) rfl hh
  · refine go_ifleF (pc := 4) rfl hc ?_
    refine go_al (pc := 7) rfl l0 ?_
    obtain ⟨x2, ex2, hh⟩ := bi_bd hh
    refine go_gfR (pc := 8) rfl ex2 ?_
    refine go_al (pc := 11) rfl l0 ?_
    obtain ⟨x3, ex3, hh⟩ := bi_bd hh
    refine go_gfI (pc := 12) rfl ex3 ?_
    refine go_pi (pc := 15) rfl ?_
    refine go_isub (pc := 16) rfl ?_
    obtain ⟨x4, ex4, hh⟩ := bi_bd hh
    refine go_iald (pc := 17) rfl ex4 ?_
    obtain ⟨q5, eq5, hh⟩ := bi_bd hh
    refine go_iSI (pc := 18) rfl (Nat.le_of_ble_eq_true rfl) rfl (Nat.le_of_ble_eq_true rfl) (bi_up (sX11_rank eq5) (Nat.le_of_ble_eq_true rfl)) ?_
    refine go_il (pc := 21) rfl l1 ?_
    refine bi_ite hh (fun hc hh => ?_) (fun hc hh => ?_)
    · refine go_cmpltT (pc := 22) rfl hc ?_
      exact go_rv (pc := 76) rfl hh
    · refine go_cmpltF (pc := 22) rfl hc ?_
      refine go_al (pc := 25) rfl l0 ?_
      refine go_dup (pc := 26) rfl rfl ?_
      obtain ⟨x6, ex6, hh⟩ := bi_bd hh
      refine go_gfI (pc := 27) rfl ex6 ?_
      refine go_pi (pc := 30) rfl ?_
      refine go_isub (pc := 31) rfl ?_
      obtain ⟨h7, eh7, hh⟩ := bi_bd hh
      refine go_pf (pc := 32) rfl eh7 ?_
      refine go_al (pc := 35) rfl l0 ?_
      obtain ⟨x8, ex8, hh⟩ := bi_bd hh
      refine go_gfR (pc := 36) rfl ex8 ?_
      refine go_al (pc := 39) rfl l0 ?_
      obtain ⟨x9, ex9, hh⟩ := bi_bd hh
      refine go_gfI (pc := 40) rfl ex9 ?_
      obtain ⟨x10, ex10, hh⟩ := bi_bd hh
      refine go_iald (pc := 43) rfl ex10 ?_
      refine go_is (pc := 44) rfl ?_
      refine go_il (pc := 45) rfl bi_e1 ?_
      refine go_pi (pc := 46) rfl ?_
      refine bi_ite hh (fun hc hh => ?_) (fun hc hh => ?_)
      · refine go_cmpneT (pc := 47) rfl hc ?_
        refine go_al (pc := 54) rfl (bi_k1 l0 rfl rfl) ?_
        obtain ⟨q11, eq11, hh⟩ := bi_bd hh
        refine go_ivI (pc := 55) rfl rfl (gX11_dropHeld eq11) (Nat.le_of_ble_eq_true rfl) (bi_up (sX11_dropHeld eq11) (Nat.le_of_ble_eq_true rfl)) ?_
        exact sX11_bind_58 R0 (bi_k1 l0 rfl rfl) (bi_k1 l1 rfl rfl) bi_e1 hh
      · refine go_cmpneF (pc := 47) rfl hc ?_
        refine go_pi (pc := 50) rfl ?_
        refine go_goto (pc := 51) rfl ?_
        exact sX11_bind_58 R0 (bi_k1 l0 rfl rfl) (bi_k1 l1 rfl rfl) bi_e1 hh
def fX11_bind_0 (n : Nat) : Nat → ai_H → Nat → Int32 → Option (Unit × ai_H)
  | 0 => fun _ _ _ => none
  | k + 1 => fun h v0 v1 => fX11_bind_0b n (fX11_bind_0 n k) h v0 v1
theorem sX11_bind_0 {n : Nat} {q : Unit × ai_H} : ∀ (k : Nat) (h : ai_H) (v0 : Nat) (v1 : Int32) (lv : ai_L), ai_ld 0 lv = some (.ref v0) → ai_ld 1 lv = some (.int v1) → fX11_bind_0 n k h v0 v1 = some q → bi_go 1 tX11_bind n (fV n q) 0 lv [] h
  | 0 => fun _ _ _ _ _ _ hh => by cases hh
  | k + 1 => fun h v0 v1 lv l0 l1 hh => sX11_bind_0b  (sX11_bind_0  k) l0 l1 hh
def fX11_bind (n : Nat) (h : ai_H) (a0 : Nat) (a1 : Int32) : Option (Unit × ai_H) :=
  (kO n h a0 11).bind fun _ =>
  fX11_bind_0 n bi_K h a0 a1
theorem gX11_bind {n : Nat} {h : ai_H} {a0 : Nat} {a1 : Int32} {q : Unit × ai_H} (hh : fX11_bind n h a0 a1 = some q) : kO n h a0 11 = some () := by
  obtain ⟨_, e, -⟩ := bi_bd hh
  exact e
theorem sX11_bind {n : Nat} {h : ai_H} {a0 : Nat} {a1 : Int32} {q : Unit × ai_H} (hh : fX11_bind n h a0 a1 = some q) : bi_sp 2 174 [.ref a0, .int a1] h n (fV n q) := by
  refine bi_en (D := 1) (T := tX11_bind) (funext fun pc => rfl) rfl (Nat.le_of_ble_eq_true rfl) ?_
  unfold fX11_bind at hh
  obtain ⟨_, eO, hh⟩ := bi_bd hh
  exact sX11_bind_0  _ _ _ _ _ (rfl : ai_ld 0 (lv_args 0 [.ref a0, .int a1]) = some (.ref a0)) (rfl : ai_ld 1 (lv_args 0 [.ref a0, .int a1]) = some (.int a1)) hh
