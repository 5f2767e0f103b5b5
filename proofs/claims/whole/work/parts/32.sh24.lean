/-! ===== methods as functions, part 24 ===== -/
def fX11_noted (n : Nat) (h : ai_H) (a0 : Nat) (a1 : Int32) (a2 : Int32) (a3 : Int32) (a4 : Int32) : Option (Int32 × ai_H) :=
  (kO n h a0 11).bind fun _ =>
  (pR n h a0 11 86).bind fun x1 =>
  (pI n h a0 11 84).bind fun x2 =>
  (wX 1 (fun x => x) n h x1 ((4 : Int32) * x2) a1).bind fun h3 =>
  (pR n h3 a0 11 86).bind fun x4 =>
  (pI n h3 a0 11 84).bind fun x5 =>
  (wX 1 (fun x => x) n h3 x4 (((4 : Int32) * x5) + (1 : Int32)) a2).bind fun h6 =>
  (pR n h6 a0 11 86).bind fun x7 =>
  (pI n h6 a0 11 84).bind fun x8 =>
  (wX 1 (fun x => x) n h6 x7 (((4 : Int32) * x8) + (2 : Int32)) a3).bind fun h9 =>
  (pR n h9 a0 11 86).bind fun x10 =>
  (pI n h9 a0 11 84).bind fun x11 =>
  (wX 1 (fun x => x) n h9 x10 (((4 : Int32) * x11) + (3 : Int32)) a4).bind fun h12 =>
  (pI n h12 a0 11 84).bind fun x13 =>
  (sF n h12 a0 11 84 (.int) (.int (x13 + (1 : Int32)))).bind fun h14 =>
  (pI n h14 a0 11 84).bind fun x15 =>
  some (x15 - (1 : Int32), h14)
theorem gX11_noted {n : Nat} {h : ai_H} {a0 : Nat} {a1 : Int32} {a2 : Int32} {a3 : Int32} {a4 : Int32} {q : Int32 × ai_H} (hh : fX11_noted n h a0 a1 a2 a3 a4 = some q) : kO n h a0 11 = some () := by
  obtain ⟨_, e, -⟩ := bi_bd hh
  exact e
theorem sX11_noted {n : Nat} {h : ai_H} {a0 : Nat} {a1 : Int32} {a2 : Int32} {a3 : Int32} {a4 : Int32} {q : Int32 × ai_H} (hh : fX11_noted n h a0 a1 a2 a3 a4 = some q) : bi_sp 1 246 [.ref a0, .int a1, .int a2, .int a3, .int a4] h n (fI n q) := by
  refine bi_en (D := 0) (T := tX11_noted) (funext fun pc => rfl) rfl (Nat.le_of_ble_eq_true rfl) ?_
  unfold fX11_noted at hh
  obtain ⟨_, eO, hh⟩ := bi_bd hh
  refine go_al (pc := 0) rfl (rfl : ai_ld 0 (lv_args 0 [.ref a0, .int a1, .int a2, .int a3, .int a4]) = some (.ref a0)) ?_
  obtain ⟨x1, ex1, hh⟩ := bi_bd hh
  refine go_gfR (pc := 1) rfl ex1 ?_
  refine go_pi (pc := 4) rfl ?_
  refine go_al (pc := 5) rfl (rfl : ai_ld 0 (lv_args 0 [.ref a0, .int a1, .int a2, .int a3, .int a4]) = some (.ref a0)) ?_
  obtain ⟨x2, ex2, hh⟩ := bi_bd hh
  refine go_gfI (pc := 6) rfl ex2 ?_
  refine go_imul (pc := 9) rfl ?_
  refine go_il (pc := 10) rfl (rfl : ai_ld 1 (lv_args 0 [.ref a0, .int a1, .int a2, .int a3, .int a4]) = some (.int a1)) ?_
  obtain ⟨h3, eh3, hh⟩ := bi_bd hh
  refine go_iast (pc := 11) rfl eh3 ?_
  refine go_al (pc := 12) rfl (rfl : ai_ld 0 (lv_args 0 [.ref a0, .int a1, .int a2, .int a3, .int a4]) = some (.ref a0)) ?_
  obtain ⟨x4, ex4, hh⟩ := bi_bd hh
  refine go_gfR (pc := 13) rfl ex4 ?_
  refine go_pi (pc := 16) rfl ?_
  refine go_al (pc := 17) rfl (rfl : ai_ld 0 (lv_args 0 [.ref a0, .int a1, .int a2, .int a3, .int a4]) = some (.ref a0)) ?_
  obtain ⟨x5, ex5, hh⟩ := bi_bd hh
  refine go_gfI (pc := 18) rfl ex5 ?_
  refine go_imul (pc := 21) rfl ?_
  refine go_pi (pc := 22) rfl ?_
  refine go_iadd (pc := 23) rfl ?_
  refine go_il (pc := 24) rfl (rfl : ai_ld 2 (lv_args 0 [.ref a0, .int a1, .int a2, .int a3, .int a4]) = some (.int a2)) ?_
  obtain ⟨h6, eh6, hh⟩ := bi_bd hh
  refine go_iast (pc := 25) rfl eh6 ?_
  refine go_al (pc := 26) rfl (rfl : ai_ld 0 (lv_args 0 [.ref a0, .int a1, .int a2, .int a3, .int a4]) = some (.ref a0)) ?_
  obtain ⟨x7, ex7, hh⟩ := bi_bd hh
  refine go_gfR (pc := 27) rfl ex7 ?_
  refine go_pi (pc := 30) rfl ?_
  refine go_al (pc := 31) rfl (rfl : ai_ld 0 (lv_args 0 [.ref a0, .int a1, .int a2, .int a3, .int a4]) = some (.ref a0)) ?_
  obtain ⟨x8, ex8, hh⟩ := bi_bd hh
  refine go_gfI (pc := 32) rfl ex8 ?_
  refine go_imul (pc := 35) rfl ?_
  refine go_pi (pc := 36) rfl ?_
  refine go_iadd (pc := 37) rfl ?_
  refine go_il (pc := 38) rfl (rfl : ai_ld 3 (lv_args 0 [.ref a0, .int a1, .int a2, .int a3, .int a4]) = some (.int a3)) ?_
  obtain ⟨h9, eh9, hh⟩ := bi_bd hh
  refine go_iast (pc := 39) rfl eh9 ?_
  refine go_al (pc := 40) rfl (rfl : ai_ld 0 (lv_args 0 [.ref a0, .int a1, .int a2, .int a3, .int a4]) = some (.ref a0)) ?_
  obtain ⟨x10, ex10, hh⟩ := bi_bd hh
  refine go_gfR (pc := 41) rfl ex10 ?_
  refine go_pi (pc := 44) rfl ?_
  refine go_al (pc := 45) rfl (rfl : ai_ld 0 (lv_args 0 [.ref a0, .int a1, .int a2, .int a3, .int a4]) = some (.ref a0)) ?_
  obtain ⟨x11, ex11, hh⟩ := bi_bd hh
  refine go_gfI (pc := 46) rfl ex11 ?_
  refine go_imul (pc := 49) rfl ?_
  refine go_pi (pc := 50) rfl ?_
  refine go_iadd (pc := 51) rfl ?_
  refine go_il (pc := 52) rfl (rfl : ai_ld 4 (lv_args 0 [.ref a0, .int a1, .int a2, .int a3, .int a4]) = some (.int a4)) ?_
  obtain ⟨h12, eh12, hh⟩ := bi_bd hh
  refine go_iast (pc := 54) rfl eh12 ?_
  refine go_al (pc := 55) rfl (rfl : ai_ld 0 (lv_args 0 [.ref a0, .int a1, .int a2, .int a3, .int a4]) = some (.ref a0)) ?_
  refine go_dup (pc := 56) rfl rfl ?_
  obtain ⟨x13, ex13, hh⟩ := bi_bd hh
  refine go_gfI (pc := 57) rfl ex13 ?_
  refine go_pi (pc := 60) rfl ?_
  refine go_iadd (pc := 61) rfl ?_
  obtain ⟨h14, eh14, hh⟩ := bi_bd hh
  refine go_pf (pc := 62) rfl eh14 ?_
  refine go_al (pc := 65) rfl (rfl : ai_ld 0 (lv_args 0 [.ref a0, .int a1, .int a2, .int a3, .int a4]) = some (.ref a0)) ?_
  obtain ⟨x15, ex15, hh⟩ := bi_bd hh
  refine go_gfI (pc := 66) rfl ex15 ?_
  refine go_pi (pc := 69) rfl ?_
  refine go_isub (pc := 70) rfl ?_
  exact go_ri (pc := 71) rfl hh
def fX11_see_40 (n : Nat) (h : ai_H) : Option (Int32 × ai_H) :=
  some ((-1 : Int32), h)
theorem sX11_see_40 {n : Nat} {q : Int32 × ai_H} {h : ai_H} {lv : ai_L} (hh : fX11_see_40 n h = some q) : bi_go 1 tX11_see n (fI n q) 40 lv [] h := by
  unfold fX11_see_40 at hh
  refine go_pi (pc := 40) rfl ?_
  refine go_goto (pc := 41) rfl ?_
  exact go_ri (pc := 61) rfl hh
def fX11_see_58 (n : Nat) (h : ai_H) (s0 : Int32) (s1 : Int32) (s2 : Int32) (s3 : Int32) (s4 : Nat) : Option (Int32 × ai_H) :=
  (fX11_noted n h s4 s3 s2 s1 s0).bind fun q1 =>
  some (q1.1, q1.2)
theorem sX11_see_58 {n : Nat} {q : Int32 × ai_H} {h : ai_H} {s0 : Int32} {s1 : Int32} {s2 : Int32} {s3 : Int32} {s4 : Nat} {lv : ai_L} (hh : fX11_see_58 n h s0 s1 s2 s3 s4 = some q) : bi_go 1 tX11_see n (fI n q) 58 lv [.int s0, .int s1, .int s2, .int s3, .ref s4] h := by
  unfold fX11_see_58 at hh
  obtain ⟨q1, eq1, hh⟩ := bi_bd hh
  refine go_ivI (pc := 58) rfl rfl (gX11_noted eq1) (Nat.le_of_ble_eq_true rfl) (bi_up (sX11_noted eq1) (Nat.le_of_ble_eq_true rfl)) ?_
  exact go_ri (pc := 61) rfl hh
def fX11_see (n : Nat) (h : ai_H) (a0 : Nat) (a1 : Int32) (a2 : Int32) (a3 : Int32) (a4 : Int32) : Option (Int32 × ai_H) :=
  (kO n h a0 11).bind fun _ =>
  (sF n h a0 11 2 (.int) (.int (0 : Int32))).bind fun h1 =>
  (pI n h1 a0 11 84).bind fun x2 =>
  if x2 = (24 : Int32) then (
    fX11_see_40 n h1)
  else (
    (fX11_isIn n h1 a1 (1 : Int32) (60 : Int32)).bind fun q3 =>
    if q3.1 = 0 then (
      fX11_see_40 n q3.2)
    else (
      (fX11_isWalker n q3.2 a0 a2).bind fun q4 =>
      if q4.1 = 0 then (
        fX11_see_40 n q4.2)
      else (
        (fX11_isPlace n q4.2 a0 a3).bind fun q5 =>
        if ¬ q5.1 = 0 then (
          if a4 = 0 then (
            fX11_see_58 n q5.2 (0 : Int32) a3 a2 a1 a0)
          else (
            fX11_see_58 n q5.2 (1 : Int32) a3 a2 a1 a0))
        else (
          fX11_see_40 n q5.2))))
theorem gX11_see {n : Nat} {h : ai_H} {a0 : Nat} {a1 : Int32} {a2 : Int32} {a3 : Int32} {a4 : Int32} {q : Int32 × ai_H} (hh : fX11_see n h a0 a1 a2 a3 a4 = some q) : kO n h a0 11 = some () := by
  obtain ⟨_, e, -⟩ := bi_bd hh
  exact e
theorem sX11_see {n : Nat} {h : ai_H} {a0 : Nat} {a1 : Int32} {a2 : Int32} {a3 : Int32} {a4 : Int32} {q : Int32 × ai_H} (hh : fX11_see n h a0 a1 a2 a3 a4 = some q) : bi_sp 2 247 [.ref a0, .int a1, .int a2, .int a3, .int a4] h n (fI n q) := by
  refine bi_en (D := 1) (T := tX11_see) (funext fun pc => rfl) rfl (Nat.le_of_ble_eq_true rfl) ?_
  unfold fX11_see at hh
  obtain ⟨_, eO, hh⟩ := bi_bd hh
  refine go_al (pc := 0) rfl (rfl : ai_ld 0 (lv_args 0 [.ref a0, .int a1, .int a2, .int a3, .int a4]) = some (.ref a0)) ?_
  refine go_pi (pc := 1) rfl ?_
  obtain ⟨h1, eh1, hh⟩ := bi_bd hh
  refine go_pf (pc := 2) rfl eh1 ?_
  refine go_al (pc := 5) rfl (rfl : ai_ld 0 (lv_args 0 [.ref a0, .int a1, .int a2, .int a3, .int a4]) = some (.ref a0)) ?_
  obtain ⟨x2, ex2, hh⟩ := bi_bd hh
  refine go_gfI (pc := 6) rfl ex2 ?_
  refine go_pi (pc := 9) rfl ?_
  refine bi_ite hh (fun hc hh => ?_) (fun hc hh => ?_)
  · refine go_cmpeqT (pc := 11) rfl hc ?_
    exact sX11_see_40   hh
  · refine go_cmpeqF (pc := 11) rfl hc ?_
    refine go_il (pc := 14) rfl (rfl : ai_ld 1 (lv_args 0 [.ref a0, .int a1, .int a2, .int a3, .int a4]) = some (.int a1)) ?_
    refine go_pi (pc := 15) rfl ?_
    refine go_pi (pc := 16) rfl ?_
    obtain ⟨q3, eq3, hh⟩ := bi_bd hh
    refine go_iSI (pc := 18) rfl (Nat.le_of_ble_eq_true rfl) rfl (Nat.le_of_ble_eq_true rfl) (bi_up (sX11_isIn eq3) (Nat.le_of_ble_eq_true rfl)) ?_
    refine bi_ite hh (fun hc hh => ?_) (fun hc hh => ?_)
    · refine go_ifeqT (pc := 21) rfl hc ?_
      exact sX11_see_40   hh
    · refine go_ifeqF (pc := 21) rfl hc ?_
      refine go_al (pc := 24) rfl (rfl : ai_ld 0 (lv_args 0 [.ref a0, .int a1, .int a2, .int a3, .int a4]) = some (.ref a0)) ?_
      refine go_il (pc := 25) rfl (rfl : ai_ld 2 (lv_args 0 [.ref a0, .int a1, .int a2, .int a3, .int a4]) = some (.int a2)) ?_
      obtain ⟨q4, eq4, hh⟩ := bi_bd hh
      refine go_ivI (pc := 26) rfl rfl (gX11_isWalker eq4) (Nat.le_of_ble_eq_true rfl) (bi_up (sX11_isWalker eq4) (Nat.le_of_ble_eq_true rfl)) ?_
      refine bi_ite hh (fun hc hh => ?_) (fun hc hh => ?_)
      · refine go_ifeqT (pc := 29) rfl hc ?_
        exact sX11_see_40   hh
      · refine go_ifeqF (pc := 29) rfl hc ?_
        refine go_al (pc := 32) rfl (rfl : ai_ld 0 (lv_args 0 [.ref a0, .int a1, .int a2, .int a3, .int a4]) = some (.ref a0)) ?_
        refine go_il (pc := 33) rfl (rfl : ai_ld 3 (lv_args 0 [.ref a0, .int a1, .int a2, .int a3, .int a4]) = some (.int a3)) ?_
        obtain ⟨q5, eq5, hh⟩ := bi_bd hh
        refine go_ivI (pc := 34) rfl rfl (gX11_isPlace eq5) (Nat.le_of_ble_eq_true rfl) (bi_up (sX11_isPlace eq5) (Nat.le_of_ble_eq_true rfl)) ?_
        refine bi_ite hh (fun hc hh => ?_) (fun hc hh => ?_)
        · refine go_ifneT (pc := 37) rfl hc ?_
          refine go_al (pc := 44) rfl (rfl : ai_ld 0 (lv_args 0 [.ref a0, .int a1, .int a2, .int a3, .int a4]) = some (.ref a0)) ?_
          refine go_il (pc := 45) rfl (rfl : ai_ld 1 (lv_args 0 [.ref a0, .int a1, .int a2, .int a3, .int a4]) = some (.int a1)) ?_
          refine go_il (pc := 46) rfl (rfl : ai_ld 2 (lv_args 0 [.ref a0, .int a1, .int a2, .int a3, .int a4]) = some (.int a2)) ?_
          refine go_il (pc := 47) rfl (rfl : ai_ld 3 (lv_args 0 [.ref a0, .int a1, .int a2, .int a3, .int a4]) = some (.int a3)) ?_
          refine go_il (pc := 48) rfl (rfl : ai_ld 4 (lv_args 0 [.ref a0, .int a1, .int a2, .int a3, .int a4]) = some (.int a4)) ?_
          refine bi_ite hh (fun hc hh => ?_) (fun hc hh => ?_)
          · refine go_ifeqT (pc := 50) rfl hc ?_
            refine go_pi (pc := 57) rfl ?_
            exact sX11_see_58   hh
          · refine go_ifeqF (pc := 50) rfl hc ?_
            refine go_pi (pc := 53) rfl ?_
            refine go_goto (pc := 54) rfl ?_
            exact sX11_see_58   hh
        · refine go_ifneF (pc := 37) rfl hc ?_
          exact sX11_see_40   hh
def fX11_strike_26 (n : Nat) (h : ai_H) : Option (Int32 × ai_H) :=
  some ((-1 : Int32), h)
theorem sX11_strike_26 {n : Nat} {q : Int32 × ai_H} {h : ai_H} {lv : ai_L} (hh : fX11_strike_26 n h = some q) : bi_go 1 tX11_strike n (fI n q) 26 lv [] h := by
  unfold fX11_strike_26 at hh
  refine go_pi (pc := 26) rfl ?_
  refine go_goto (pc := 27) rfl ?_
  exact go_ri (pc := 38) rfl hh
def fX11_strike (n : Nat) (h : ai_H) (a0 : Nat) (a1 : Int32) : Option (Int32 × ai_H) :=
  (kO n h a0 11).bind fun _ =>
  (sF n h a0 11 2 (.int) (.int (0 : Int32))).bind fun h1 =>
  (pI n h1 a0 11 84).bind fun x2 =>
  if x2 = (24 : Int32) then (
    fX11_strike_26 n h1)
  else (
    if a1 < 0 then (
      fX11_strike_26 n h1)
    else (
      (pI n h1 a0 11 84).bind fun x3 =>
      if a1 < x3 then (
        (fX11_noted n h1 a0 (-1 : Int32) a1 (0 : Int32) (0 : Int32)).bind fun q4 =>
        some (q4.1, q4.2))
      else (
        fX11_strike_26 n h1)))
theorem gX11_strike {n : Nat} {h : ai_H} {a0 : Nat} {a1 : Int32} {q : Int32 × ai_H} (hh : fX11_strike n h a0 a1 = some q) : kO n h a0 11 = some () := by
  obtain ⟨_, e, -⟩ := bi_bd hh
  exact e
theorem sX11_strike {n : Nat} {h : ai_H} {a0 : Nat} {a1 : Int32} {q : Int32 × ai_H} (hh : fX11_strike n h a0 a1 = some q) : bi_sp 2 248 [.ref a0, .int a1] h n (fI n q) := by
  refine bi_en (D := 1) (T := tX11_strike) (funext fun pc => rfl) rfl (Nat.le_of_ble_eq_true rfl) ?_
  unfold fX11_strike at hh
  obtain ⟨_, eO, hh⟩ := bi_bd hh
  refine go_al (pc := 0) rfl (rfl : ai_ld 0 (lv_args 0 [.ref a0, .int a1]) = some (.ref a0)) ?_
  refine go_pi (pc := 1) rfl ?_
  obtain ⟨h1, eh1, hh⟩ := bi_bd hh
  refine go_pf (pc := 2) rfl eh1 ?_
  refine go_al (pc := 5) rfl (rfl : ai_ld 0 (lv_args 0 [.ref a0, .int a1]) = some (.ref a0)) ?_
  obtain ⟨x2, ex2, hh⟩ := bi_bd hh
  refine go_gfI (pc := 6) rfl ex2 ?_
  refine go_pi (pc := 9) rfl ?_
  refine bi_ite hh (fun hc hh => ?_) (fun hc hh => ?_)
  · refine go_cmpeqT (pc := 11) rfl hc ?_
    exact sX11_strike_26   hh
  · refine go_cmpeqF (pc := 11) rfl hc ?_
    refine go_il (pc := 14) rfl (rfl : ai_ld 1 (lv_args 0 [.ref a0, .int a1]) = some (.int a1)) ?_
    refine bi_ite hh (fun hc hh => ?_) (fun hc hh => ?_)
    · refine go_ifltT (pc := 15) rfl hc ?_
      exact sX11_strike_26   hh
    · refine go_ifltF (pc := 15) rfl hc ?_
      refine go_il (pc := 18) rfl (rfl : ai_ld 1 (lv_args 0 [.ref a0, .int a1]) = some (.int a1)) ?_
      refine go_al (pc := 19) rfl (rfl : ai_ld 0 (lv_args 0 [.ref a0, .int a1]) = some (.ref a0)) ?_
      obtain ⟨x3, ex3, hh⟩ := bi_bd hh
      refine go_gfI (pc := 20) rfl ex3 ?_
      refine bi_ite hh (fun hc hh => ?_) (fun hc hh => ?_)
      · refine go_cmpltT (pc := 23) rfl hc ?_
        refine go_al (pc := 30) rfl (rfl : ai_ld 0 (lv_args 0 [.ref a0, .int a1]) = some (.ref a0)) ?_
        refine go_pi (pc := 31) rfl ?_
        refine go_il (pc := 32) rfl (rfl : ai_ld 1 (lv_args 0 [.ref a0, .int a1]) = some (.int a1)) ?_
        refine go_pi (pc := 33) rfl ?_
        refine go_pi (pc := 34) rfl ?_
        obtain ⟨q4, eq4, hh⟩ := bi_bd hh
        refine go_ivI (pc := 35) rfl rfl (gX11_noted eq4) (Nat.le_of_ble_eq_true rfl) (bi_up (sX11_noted eq4) (Nat.le_of_ble_eq_true rfl)) ?_
        exact go_ri (pc := 38) rfl hh
      · refine go_cmpltF (pc := 23) rfl hc ?_
        exact sX11_strike_26   hh
def fX11_known (n : Nat) (h : ai_H) (a0 : Nat) (a1 : Int32) : Option (Int32 × ai_H) :=
  (kO n h a0 11).bind fun _ =>
  (sF n h a0 11 2 (.int) (.int (0 : Int32))).bind fun h1 =>
  (pI n h1 a0 11 84).bind fun x2 =>
  (fX11_isIn n h1 a1 (-1 : Int32) x2).bind fun q3 =>
  if ¬ q3.1 = 0 then (
    (sF n q3.2 a0 11 85 (.int) (.int a1)).bind fun h4 =>
    some ((1 : Int32), h4))
  else (
    some ((0 : Int32), q3.2))
theorem gX11_known {n : Nat} {h : ai_H} {a0 : Nat} {a1 : Int32} {q : Int32 × ai_H} (hh : fX11_known n h a0 a1 = some q) : kO n h a0 11 = some () := by
  obtain ⟨_, e, -⟩ := bi_bd hh
  exact e
theorem sX11_known {n : Nat} {h : ai_H} {a0 : Nat} {a1 : Int32} {q : Int32 × ai_H} (hh : fX11_known n h a0 a1 = some q) : bi_sp 2 249 [.ref a0, .int a1] h n (fI n q) := by
  refine bi_en (D := 1) (T := tX11_known) (funext fun pc => rfl) rfl (Nat.le_of_ble_eq_true rfl) ?_
  unfold fX11_known at hh
  obtain ⟨_, eO, hh⟩ := bi_bd hh
  refine go_al (pc := 0) rfl (rfl : ai_ld 0 (lv_args 0 [.ref a0, .int a1]) = some (.ref a0)) ?_
  refine go_pi (pc := 1) rfl ?_
  obtain ⟨h1, eh1, hh⟩ := bi_bd hh
  refine go_pf (pc := 2) rfl eh1 ?_
  refine go_il (pc := 5) rfl (rfl : ai_ld 1 (lv_args 0 [.ref a0, .int a1]) = some (.int a1)) ?_
  refine go_pi (pc := 6) rfl ?_
  refine go_al (pc := 7) rfl (rfl : ai_ld 0 (lv_args 0 [.ref a0, .int a1]) = some (.ref a0)) ?_
  obtain ⟨x2, ex2, hh⟩ := bi_bd hh
  refine go_gfI (pc := 8) rfl ex2 ?_
  obtain ⟨q3, eq3, hh⟩ := bi_bd hh
  refine go_iSI (pc := 11) rfl (Nat.le_of_ble_eq_true rfl) rfl (Nat.le_of_ble_eq_true rfl) (bi_up (sX11_isIn eq3) (Nat.le_of_ble_eq_true rfl)) ?_
  refine bi_ite hh (fun hc hh => ?_) (fun hc hh => ?_)
  · refine go_ifneT (pc := 14) rfl hc ?_
    refine go_al (pc := 19) rfl (rfl : ai_ld 0 (lv_args 0 [.ref a0, .int a1]) = some (.ref a0)) ?_
    refine go_il (pc := 20) rfl (rfl : ai_ld 1 (lv_args 0 [.ref a0, .int a1]) = some (.int a1)) ?_
    obtain ⟨h4, eh4, hh⟩ := bi_bd hh
    refine go_pf (pc := 21) rfl eh4 ?_
    refine go_pi (pc := 24) rfl ?_
    exact go_rz (pc := 25) rfl bi_z1 hh
  · refine go_ifneF (pc := 14) rfl hc ?_
    refine go_pi (pc := 17) rfl ?_
    exact go_rz (pc := 18) rfl bi_z0 hh
def fX11_knownBy (n : Nat) (h : ai_H) (a0 : Nat) : Option (Int32 × ai_H) :=
  (kO n h a0 11).bind fun _ =>
  (pI n h a0 11 85).bind fun x1 =>
  if 0 ≤ x1 then (
    (pI n h a0 11 85).bind fun x2 =>
    some (x2, h))
  else (
    (pI n h a0 11 84).bind fun x3 =>
    some (x3, h))
theorem gX11_knownBy {n : Nat} {h : ai_H} {a0 : Nat} {q : Int32 × ai_H} (hh : fX11_knownBy n h a0 = some q) : kO n h a0 11 = some () := by
  obtain ⟨_, e, -⟩ := bi_bd hh
  exact e
theorem sX11_knownBy {n : Nat} {h : ai_H} {a0 : Nat} {q : Int32 × ai_H} (hh : fX11_knownBy n h a0 = some q) : bi_sp 1 250 [.ref a0] h n (fI n q) := by
  refine bi_en (D := 0) (T := tX11_knownBy) (funext fun pc => rfl) rfl (Nat.le_of_ble_eq_true rfl) ?_
  unfold fX11_knownBy at hh
  obtain ⟨_, eO, hh⟩ := bi_bd hh
  refine go_al (pc := 0) rfl (rfl : ai_ld 0 (lv_args 0 [.ref a0]) = some (.ref a0)) ?_
  obtain ⟨x1, ex1, hh⟩ := bi_bd hh
  refine go_gfI (pc := 1) rfl ex1 ?_
  refine bi_ite hh (fun hc hh => ?_) (fun hc hh => ?_)
  · refine go_ifgeT (pc := 4) rfl hc ?_
    refine go_al (pc := 14) rfl (rfl : ai_ld 0 (lv_args 0 [.ref a0]) = some (.ref a0)) ?_
    obtain ⟨x2, ex2, hh⟩ := bi_bd hh
    refine go_gfI (pc := 15) rfl ex2 ?_
    exact go_ri (pc := 18) rfl hh
  · refine go_ifgeF (pc := 4) rfl hc ?_
    refine go_al (pc := 7) rfl (rfl : ai_ld 0 (lv_args 0 [.ref a0]) = some (.ref a0)) ?_
    obtain ⟨x3, ex3, hh⟩ := bi_bd hh
    refine go_gfI (pc := 8) rfl ex3 ?_
    refine go_goto (pc := 11) rfl ?_
    exact go_ri (pc := 18) rfl hh
def fX11_layCounts_70 (n : Nat) (r30 : ai_H → Nat → Int32 → Option (Unit × ai_H)) (h : ai_H) (v0 : Nat) (v1 : Int32) : Option (Unit × ai_H) :=
  r30 h v0 (v1 + (-1))
theorem sX11_layCounts_70 {n : Nat} {r30 : ai_H → Nat → Int32 → Option (Unit × ai_H)} {q : Unit × ai_H} {h : ai_H} {v0 : Nat} {v1 : Int32} {lv : ai_L} (R30 : ∀ (h : ai_H) (v0 : Nat) (v1 : Int32) (lv : ai_L), ai_ld 0 lv = some (.ref v0) → ai_ld 1 lv = some (.int v1) → r30 h v0 v1 = some q → bi_go 1 tX11_layCounts n (fV n q) 30 lv [] h) (l0 : ai_ld 0 lv = some (.ref v0)) (l1 : ai_ld 1 lv = some (.int v1)) (hh : fX11_layCounts_70 n r30 h v0 v1 = some q) : bi_go 1 tX11_layCounts n (fV n q) 70 lv [] h := by
  unfold fX11_layCounts_70 at hh
  refine go_inc (pc := 70) rfl l1 ?_
  refine go_goto (pc := 73) rfl ?_
  exact R30 _ _ _ _ (bi_k1 l0 rfl rfl) bi_e1 hh
def fX11_layCounts_30b (n : Nat) (r30 : ai_H → Nat → Int32 → Option (Unit × ai_H)) (h : ai_H) (v0 : Nat) (v1 : Int32) : Option (Unit × ai_H) :=
  if v1 < 0 then (
    some ((), h))
  else (
    (pR n h v0 11 87).bind fun x1 =>
    (gB n h x1 v1).bind fun x2 =>
    if x2 = 0 then (
      fX11_layCounts_70 n r30 h v0 v1)
    else (
      (pR n h v0 11 86).bind fun x3 =>
      (gX 1 n h x3 ((4 : Int32) * v1)).bind fun x4 =>
      if 0 ≤ x4 then (
        fX11_layCounts_70 n r30 h v0 v1)
      else (
        (pR n h v0 11 87).bind fun x5 =>
        (pR n h v0 11 86).bind fun x6 =>
        (gX 1 n h x6 (((4 : Int32) * v1) + (1 : Int32))).bind fun x7 =>
        (wB n h x5 x7 (0 : Int32)).bind fun h8 =>
        fX11_layCounts_70 n r30 h8 v0 v1)))
theorem sX11_layCounts_30b {n : Nat} {r30 : ai_H → Nat → Int32 → Option (Unit × ai_H)} {q : Unit × ai_H} {h : ai_H} {v0 : Nat} {v1 : Int32} {lv : ai_L} (R30 : ∀ (h : ai_H) (v0 : Nat) (v1 : Int32) (lv : ai_L), ai_ld 0 lv = some (.ref v0) → ai_ld 1 lv = some (.int v1) → r30 h v0 v1 = some q → bi_go 1 tX11_layCounts n (fV n q) 30 lv [] h) (l0 : ai_ld 0 lv = some (.ref v0)) (l1 : ai_ld 1 lv = some (.int v1)) (hh : fX11_layCounts_30b n r30 h v0 v1 = some q) : bi_go 1 tX11_layCounts n (fV n q) 30 lv [] h := by
  unfold fX11_layCounts_30b at hh
  refine go_il (pc := 30) rfl l1 ?_
  refine bi_ite hh (fun hc hh => ?_) (fun hc hh => ?_)
  · refine go_ifltT (pc := 31) rfl hc ?_
    exact go_rv (pc := 76) rfl hh
  · refine go_ifltF (pc := 31) rfl hc ?_
    refine go_al (pc := 34) rfl l0 ?_
    obtain ⟨x1, ex1, hh⟩ := bi_bd hh
    refine go_gfR (pc := 35) rfl ex1 ?_
    refine go_il (pc := 38) rfl l1 ?_
    obtain ⟨x2, ex2, hh⟩ := bi_bd hh
    refine go_bald (pc := 39) rfl ex2 ?_
    refine bi_ite hh (fun hc hh => ?_) (fun hc hh => ?_)
    · refine go_ifeqT (pc := 40) rfl hc ?_
      exact sX11_layCounts_70 R30 l0 l1 hh
    · refine go_ifeqF (pc := 40) rfl hc ?_
      refine go_al (pc := 43) rfl l0 ?_
      obtain ⟨x3, ex3, hh⟩ := bi_bd hh
      refine go_gfR (pc := 44) rfl ex3 ?_
      refine go_pi (pc := 47) rfl ?_
      refine go_il (pc := 48) rfl l1 ?_
      refine go_imul (pc := 49) rfl ?_
      obtain ⟨x4, ex4, hh⟩ := bi_bd hh
      refine go_iald (pc := 50) rfl ex4 ?_
      refine bi_ite hh (fun hc hh => ?_) (fun hc hh => ?_)
      · refine go_ifgeT (pc := 51) rfl hc ?_
        exact sX11_layCounts_70 R30 l0 l1 hh
      · refine go_ifgeF (pc := 51) rfl hc ?_
        refine go_al (pc := 54) rfl l0 ?_
        obtain ⟨x5, ex5, hh⟩ := bi_bd hh
        refine go_gfR (pc := 55) rfl ex5 ?_
        refine go_al (pc := 58) rfl l0 ?_
        obtain ⟨x6, ex6, hh⟩ := bi_bd hh
        refine go_gfR (pc := 59) rfl ex6 ?_
        refine go_pi (pc := 62) rfl ?_
        refine go_il (pc := 63) rfl l1 ?_
        refine go_imul (pc := 64) rfl ?_
        refine go_pi (pc := 65) rfl ?_
        refine go_iadd (pc := 66) rfl ?_
        obtain ⟨x7, ex7, hh⟩ := bi_bd hh
        refine go_iald (pc := 67) rfl ex7 ?_
        refine go_pi (pc := 68) rfl ?_
        obtain ⟨h8, eh8, hh⟩ := bi_bd hh
        refine go_bast (pc := 69) rfl eh8 ?_
        exact sX11_layCounts_70 R30 l0 l1 hh
def fX11_layCounts_30 (n : Nat) : Nat → ai_H → Nat → Int32 → Option (Unit × ai_H)
  | 0 => fun _ _ _ => none
  | k + 1 => fun h v0 v1 => fX11_layCounts_30b n (fX11_layCounts_30 n k) h v0 v1
theorem sX11_layCounts_30 {n : Nat} {q : Unit × ai_H} : ∀ (k : Nat) (h : ai_H) (v0 : Nat) (v1 : Int32) (lv : ai_L), ai_ld 0 lv = some (.ref v0) → ai_ld 1 lv = some (.int v1) → fX11_layCounts_30 n k h v0 v1 = some q → bi_go 1 tX11_layCounts n (fV n q) 30 lv [] h
  | 0 => fun _ _ _ _ _ _ hh => by cases hh
  | k + 1 => fun h v0 v1 lv l0 l1 hh => sX11_layCounts_30b  (sX11_layCounts_30  k) l0 l1 hh
def fX11_layCounts_2b (n : Nat) (r2 : ai_H → Nat → Int32 → Option (Unit × ai_H)) (h : ai_H) (v0 : Nat) (v1 : Int32) : Option (Unit × ai_H) :=
  (fX11_knownBy n h v0).bind fun q1 =>
  if q1.1 ≤ v1 then (
    (fX11_knownBy n q1.2 v0).bind fun q2 =>
    fX11_layCounts_30 n bi_K q2.2 v0 (q2.1 - (1 : Int32)))
  else (
    (pR n q1.2 v0 11 87).bind fun x3 =>
    (wB n q1.2 x3 v1 (1 : Int32)).bind fun h4 =>
    r2 h4 v0 (v1 + 1))
theorem sX11_layCounts_2b {n : Nat} {r2 : ai_H → Nat → Int32 → Option (Unit × ai_H)} {q : Unit × ai_H} {h : ai_H} {v0 : Nat} {v1 : Int32} {lv : ai_L} (R2 : ∀ (h : ai_H) (v0 : Nat) (v1 : Int32) (lv : ai_L), ai_ld 0 lv = some (.ref v0) → ai_ld 1 lv = some (.int v1) → r2 h v0 v1 = some q → bi_go 1 tX11_layCounts n (fV n q) 2 lv [] h) (l0 : ai_ld 0 lv = some (.ref v0)) (l1 : ai_ld 1 lv = some (.int v1)) (hh : fX11_layCounts_2b n r2 h v0 v1 = some q) : bi_go 1 tX11_layCounts n (fV n q) 2 lv [] h := by
  unfold fX11_layCounts_2b at hh
  refine go_il (pc := 2) rfl l1 ?_
  refine go_al (pc := 3) rfl l0 ?_
  obtain ⟨q1, eq1, hh⟩ := bi_bd hh
  refine go_ivI (pc := 4) rfl rfl (gX11_knownBy eq1) (Nat.le_of_ble_eq_true rfl) (bi_up (sX11_knownBy eq1) (Nat.le_of_ble_eq_true rfl)) ?_
  refine bi_ite hh (fun hc hh => ?_) (fun hc hh => ?_)
  · refine go_cmpgeT (pc := 7) rfl hc ?_
    refine go_al (pc := 23) rfl l0 ?_
    obtain ⟨q2, eq2, hh⟩ := bi_bd hh
    refine go_ivI (pc := 24) rfl rfl (gX11_knownBy eq2) (Nat.le_of_ble_eq_true rfl) (bi_up (sX11_knownBy eq2) (Nat.le_of_ble_eq_true rfl)) ?_
    refine go_pi (pc := 27) rfl ?_
    refine go_isub (pc := 28) rfl ?_
    refine go_is (pc := 29) rfl ?_
    exact sX11_layCounts_30  _ _ _ _ _ (bi_k1 l0 rfl rfl) bi_e1 hh
  · refine go_cmpgeF (pc := 7) rfl hc ?_
    refine go_al (pc := 10) rfl l0 ?_
    obtain ⟨x3, ex3, hh⟩ := bi_bd hh
    refine go_gfR (pc := 11) rfl ex3 ?_
    refine go_il (pc := 14) rfl l1 ?_
    refine go_pi (pc := 15) rfl ?_
    obtain ⟨h4, eh4, hh⟩ := bi_bd hh
    refine go_bast (pc := 16) rfl eh4 ?_
    refine go_inc (pc := 17) rfl l1 ?_
    refine go_goto (pc := 20) rfl ?_
    exact R2 _ _ _ _ (bi_k1 l0 rfl rfl) bi_e1 hh
def fX11_layCounts_2 (n : Nat) : Nat → ai_H → Nat → Int32 → Option (Unit × ai_H)
  | 0 => fun _ _ _ => none
  | k + 1 => fun h v0 v1 => fX11_layCounts_2b n (fX11_layCounts_2 n k) h v0 v1
theorem sX11_layCounts_2 {n : Nat} {q : Unit × ai_H} : ∀ (k : Nat) (h : ai_H) (v0 : Nat) (v1 : Int32) (lv : ai_L), ai_ld 0 lv = some (.ref v0) → ai_ld 1 lv = some (.int v1) → fX11_layCounts_2 n k h v0 v1 = some q → bi_go 1 tX11_layCounts n (fV n q) 2 lv [] h
  | 0 => fun _ _ _ _ _ _ hh => by cases hh
  | k + 1 => fun h v0 v1 lv l0 l1 hh => sX11_layCounts_2b  (sX11_layCounts_2  k) l0 l1 hh
def fX11_layCounts (n : Nat) (h : ai_H) (a0 : Nat) : Option (Unit × ai_H) :=
  (kO n h a0 11).bind fun _ =>
  fX11_layCounts_2 n bi_K h a0 (0 : Int32)
theorem gX11_layCounts {n : Nat} {h : ai_H} {a0 : Nat} {q : Unit × ai_H} (hh : fX11_layCounts n h a0 = some q) : kO n h a0 11 = some () := by
  obtain ⟨_, e, -⟩ := bi_bd hh
  exact e
theorem sX11_layCounts {n : Nat} {h : ai_H} {a0 : Nat} {q : Unit × ai_H} (hh : fX11_layCounts n h a0 = some q) : bi_sp 2 251 [.ref a0] h n (fV n q) := by
  refine bi_en (D := 1) (T := tX11_layCounts) (funext fun pc => rfl) rfl (Nat.le_of_ble_eq_true rfl) ?_
  unfold fX11_layCounts at hh
  obtain ⟨_, eO, hh⟩ := bi_bd hh
  refine go_pi (pc := 0) rfl ?_
  refine go_is (pc := 1) rfl ?_
  exact sX11_layCounts_2  _ _ _ _ _ (bi_k1 (rfl : ai_ld 0 (lv_args 0 [.ref a0]) = some (.ref a0)) rfl rfl) bi_e1 hh
def fX11_isSo_93 (n : Nat) (r2 : ai_H → Nat → Int32 → Int32 → Option (Int32 × ai_H)) (h : ai_H) (v0 : Nat) (v1 : Int32) (v2 : Int32) : Option (Int32 × ai_H) :=
  r2 h v0 v1 (v2 + 1)
theorem sX11_isSo_93 {n : Nat} {r2 : ai_H → Nat → Int32 → Int32 → Option (Int32 × ai_H)} {q : Int32 × ai_H} {h : ai_H} {v0 : Nat} {v1 : Int32} {v2 : Int32} {lv : ai_L} (R2 : ∀ (h : ai_H) (v0 : Nat) (v1 : Int32) (v2 : Int32) (lv : ai_L), ai_ld 0 lv = some (.ref v0) → ai_ld 1 lv = some (.int v1) → ai_ld 2 lv = some (.int v2) → r2 h v0 v1 v2 = some q → bi_go 1 tX11_isSo n (fI n q) 2 lv [] h) (l0 : ai_ld 0 lv = some (.ref v0)) (l1 : ai_ld 1 lv = some (.int v1)) (l2 : ai_ld 2 lv = some (.int v2)) (hh : fX11_isSo_93 n r2 h v0 v1 v2 = some q) : bi_go 1 tX11_isSo n (fI n q) 93 lv [] h := by
  unfold fX11_isSo_93 at hh
  refine go_inc (pc := 93) rfl l2 ?_
  refine go_goto (pc := 96) rfl ?_
  exact R2 _ _ _ _ _ (bi_k1 l0 rfl rfl) (bi_k1 l1 rfl rfl) bi_e1 hh
def fX11_isSo_88 (n : Nat) (r2 : ai_H → Nat → Int32 → Int32 → Option (Int32 × ai_H)) (h : ai_H) (v0 : Nat) (v1 : Int32) (v2 : Int32) (s0 : Int32) (s1 : Int32) : Option (Int32 × ai_H) :=
  if s1 = s0 then (
    fX11_isSo_93 n r2 h v0 v1 v2)
  else (
    some ((0 : Int32), h))
theorem sX11_isSo_88 {n : Nat} {r2 : ai_H → Nat → Int32 → Int32 → Option (Int32 × ai_H)} {q : Int32 × ai_H} {h : ai_H} {v0 : Nat} {v1 : Int32} {v2 : Int32} {s0 : Int32} {s1 : Int32} {lv : ai_L} (R2 : ∀ (h : ai_H) (v0 : Nat) (v1 : Int32) (v2 : Int32) (lv : ai_L), ai_ld 0 lv = some (.ref v0) → ai_ld 1 lv = some (.int v1) → ai_ld 2 lv = some (.int v2) → r2 h v0 v1 v2 = some q → bi_go 1 tX11_isSo n (fI n q) 2 lv [] h) (l0 : ai_ld 0 lv = some (.ref v0)) (l1 : ai_ld 1 lv = some (.int v1)) (l2 : ai_ld 2 lv = some (.int v2)) (hh : fX11_isSo_88 n r2 h v0 v1 v2 s0 s1 = some q) : bi_go 1 tX11_isSo n (fI n q) 88 lv [.int s0, .int s1] h := by
  unfold fX11_isSo_88 at hh
  refine bi_ite hh (fun hc hh => ?_) (fun hc hh => ?_)
  · refine go_cmpeqT (pc := 88) rfl hc ?_
    exact sX11_isSo_93 R2 l0 l1 l2 hh
  · refine go_cmpeqF (pc := 88) rfl hc ?_
    refine go_pi (pc := 91) rfl ?_
    exact go_rz (pc := 92) rfl bi_z0 hh
def fX11_isSo_69 (n : Nat) (r2 : ai_H → Nat → Int32 → Int32 → Option (Int32 × ai_H)) (h : ai_H) (v0 : Nat) (v1 : Int32) (v2 : Int32) (s0 : Int32) : Option (Int32 × ai_H) :=
  (pR n h v0 11 86).bind fun x1 =>
  (gX 1 n h x1 (((4 : Int32) * v2) + (3 : Int32))).bind fun x2 =>
  if ¬ x2 = (1 : Int32) then (
    fX11_isSo_88 n r2 h v0 v1 v2 (0 : Int32) s0)
  else (
    fX11_isSo_88 n r2 h v0 v1 v2 (1 : Int32) s0)
theorem sX11_isSo_69 {n : Nat} {r2 : ai_H → Nat → Int32 → Int32 → Option (Int32 × ai_H)} {q : Int32 × ai_H} {h : ai_H} {v0 : Nat} {v1 : Int32} {v2 : Int32} {s0 : Int32} {lv : ai_L} (R2 : ∀ (h : ai_H) (v0 : Nat) (v1 : Int32) (v2 : Int32) (lv : ai_L), ai_ld 0 lv = some (.ref v0) → ai_ld 1 lv = some (.int v1) → ai_ld 2 lv = some (.int v2) → r2 h v0 v1 v2 = some q → bi_go 1 tX11_isSo n (fI n q) 2 lv [] h) (l0 : ai_ld 0 lv = some (.ref v0)) (l1 : ai_ld 1 lv = some (.int v1)) (l2 : ai_ld 2 lv = some (.int v2)) (hh : fX11_isSo_69 n r2 h v0 v1 v2 s0 = some q) : bi_go 1 tX11_isSo n (fI n q) 69 lv [.int s0] h := by
  unfold fX11_isSo_69 at hh
  refine go_al (pc := 69) rfl l0 ?_
  obtain ⟨x1, ex1, hh⟩ := bi_bd hh
  refine go_gfR (pc := 70) rfl ex1 ?_
  refine go_pi (pc := 73) rfl ?_
  refine go_il (pc := 74) rfl l2 ?_
  refine go_imul (pc := 75) rfl ?_
  refine go_pi (pc := 76) rfl ?_
  refine go_iadd (pc := 77) rfl ?_
  obtain ⟨x2, ex2, hh⟩ := bi_bd hh
  refine go_iald (pc := 78) rfl ex2 ?_
  refine go_pi (pc := 79) rfl ?_
  refine bi_ite hh (fun hc hh => ?_) (fun hc hh => ?_)
  · refine go_cmpneT (pc := 80) rfl hc ?_
    refine go_pi (pc := 87) rfl ?_
    exact sX11_isSo_88 R2 l0 l1 l2 hh
  · refine go_cmpneF (pc := 80) rfl hc ?_
    refine go_pi (pc := 83) rfl ?_
    refine go_goto (pc := 84) rfl ?_
    exact sX11_isSo_88 R2 l0 l1 l2 hh
def fX11_isSo_2b (n : Nat) (r2 : ai_H → Nat → Int32 → Int32 → Option (Int32 × ai_H)) (h : ai_H) (v0 : Nat) (v1 : Int32) (v2 : Int32) : Option (Int32 × ai_H) :=
  (fX11_knownBy n h v0).bind fun q1 =>
  if q1.1 ≤ v2 then (
    some ((1 : Int32), q1.2))
  else (
    (pR n q1.2 v0 11 87).bind fun x2 =>
    (gB n q1.2 x2 v2).bind fun x3 =>
    if x3 = 0 then (
      fX11_isSo_93 n r2 q1.2 v0 v1 v2)
    else (
      (pR n q1.2 v0 11 86).bind fun x4 =>
      (gX 1 n q1.2 x4 ((4 : Int32) * v2)).bind fun x5 =>
      if x5 = v1 then (
        (pR n q1.2 v0 11 60).bind fun x6 =>
        (pR n q1.2 v0 11 86).bind fun x7 =>
        (gX 1 n q1.2 x7 (((4 : Int32) * v2) + (1 : Int32))).bind fun x8 =>
        (gX 1 n q1.2 x6 ((4 : Int32) + x8)).bind fun x9 =>
        (pR n q1.2 v0 11 86).bind fun x10 =>
        (gX 1 n q1.2 x10 (((4 : Int32) * v2) + (2 : Int32))).bind fun x11 =>
        if ¬ x9 = x11 then (
          fX11_isSo_69 n r2 q1.2 v0 v1 v2 (0 : Int32))
        else (
          fX11_isSo_69 n r2 q1.2 v0 v1 v2 (1 : Int32)))
      else (
        fX11_isSo_93 n r2 q1.2 v0 v1 v2)))
theorem sX11_isSo_2b {n : Nat} {r2 : ai_H → Nat → Int32 → Int32 → Option (Int32 × ai_H)} {q : Int32 × ai_H} {h : ai_H} {v0 : Nat} {v1 : Int32} {v2 : Int32} {lv : ai_L} (R2 : ∀ (h : ai_H) (v0 : Nat) (v1 : Int32) (v2 : Int32) (lv : ai_L), ai_ld 0 lv = some (.ref v0) → ai_ld 1 lv = some (.int v1) → ai_ld 2 lv = some (.int v2) → r2 h v0 v1 v2 = some q → bi_go 1 tX11_isSo n (fI n q) 2 lv [] h) (l0 : ai_ld 0 lv = some (.ref v0)) (l1 : ai_ld 1 lv = some (.int v1)) (l2 : ai_ld 2 lv = some (.int v2)) (hh : fX11_isSo_2b n r2 h v0 v1 v2 = some q) : bi_go 1 tX11_isSo n (fI n q) 2 lv [] h := by
  unfold fX11_isSo_2b at hh
  refine go_il (pc := 2) rfl l2 ?_
  refine go_al (pc := 3) rfl l0 ?_
  obtain ⟨q1, eq1, hh⟩ := bi_bd hh
  refine go_ivI (pc := 4) rfl rfl (gX11_knownBy eq1) (Nat.le_of_ble_eq_true rfl) (bi_up (sX11_knownBy eq1) (Nat.le_of_ble_eq_true rfl)) ?_
  refine bi_ite hh (fun hc hh => ?_) (fun hc hh => ?_)
  · refine go_cmpgeT (pc := 7) rfl hc ?_
    refine go_pi (pc := 99) rfl ?_
    exact go_rz (pc := 100) rfl bi_z1 hh
  · refine go_cmpgeF (pc := 7) rfl hc ?_
    refine go_al (pc := 10) rfl l0 ?_
    obtain ⟨x2, ex2, hh⟩ := bi_bd hh
    refine go_gfR (pc := 11) rfl ex2 ?_
    refine go_il (pc := 14) rfl l2 ?_
    obtain ⟨x3, ex3, hh⟩ := bi_bd hh
    refine go_bald (pc := 15) rfl ex3 ?_
    refine bi_ite hh (fun hc hh => ?_) (fun hc hh => ?_)
    · refine go_ifeqT (pc := 16) rfl hc ?_
      exact sX11_isSo_93 R2 l0 l1 l2 hh
    · refine go_ifeqF (pc := 16) rfl hc ?_
      refine go_al (pc := 19) rfl l0 ?_
      obtain ⟨x4, ex4, hh⟩ := bi_bd hh
      refine go_gfR (pc := 20) rfl ex4 ?_
      refine go_pi (pc := 23) rfl ?_
      refine go_il (pc := 24) rfl l2 ?_
      refine go_imul (pc := 25) rfl ?_
      obtain ⟨x5, ex5, hh⟩ := bi_bd hh
      refine go_iald (pc := 26) rfl ex5 ?_
      refine go_il (pc := 27) rfl l1 ?_
      refine bi_ite hh (fun hc hh => ?_) (fun hc hh => ?_)
      · refine go_cmpeqT (pc := 28) rfl hc ?_
        refine go_al (pc := 34) rfl l0 ?_
        obtain ⟨x6, ex6, hh⟩ := bi_bd hh
        refine go_gfR (pc := 35) rfl ex6 ?_
        refine go_pi (pc := 38) rfl ?_
        refine go_al (pc := 39) rfl l0 ?_
        obtain ⟨x7, ex7, hh⟩ := bi_bd hh
        refine go_gfR (pc := 40) rfl ex7 ?_
        refine go_pi (pc := 43) rfl ?_
        refine go_il (pc := 44) rfl l2 ?_
        refine go_imul (pc := 45) rfl ?_
        refine go_pi (pc := 46) rfl ?_
        refine go_iadd (pc := 47) rfl ?_
        obtain ⟨x8, ex8, hh⟩ := bi_bd hh
        refine go_iald (pc := 48) rfl ex8 ?_
        refine go_iadd (pc := 49) rfl ?_
        obtain ⟨x9, ex9, hh⟩ := bi_bd hh
        refine go_iald (pc := 50) rfl ex9 ?_
        refine go_al (pc := 51) rfl l0 ?_
        obtain ⟨x10, ex10, hh⟩ := bi_bd hh
        refine go_gfR (pc := 52) rfl ex10 ?_
        refine go_pi (pc := 55) rfl ?_
        refine go_il (pc := 56) rfl l2 ?_
        refine go_imul (pc := 57) rfl ?_
        refine go_pi (pc := 58) rfl ?_
        refine go_iadd (pc := 59) rfl ?_
        obtain ⟨x11, ex11, hh⟩ := bi_bd hh
        refine go_iald (pc := 60) rfl ex11 ?_
        refine bi_ite hh (fun hc hh => ?_) (fun hc hh => ?_)
        · refine go_cmpneT (pc := 61) rfl hc ?_
          refine go_pi (pc := 68) rfl ?_
          exact sX11_isSo_69 R2 l0 l1 l2 hh
        · refine go_cmpneF (pc := 61) rfl hc ?_
          refine go_pi (pc := 64) rfl ?_
          refine go_goto (pc := 65) rfl ?_
          exact sX11_isSo_69 R2 l0 l1 l2 hh
      · refine go_cmpeqF (pc := 28) rfl hc ?_
        refine go_goto (pc := 31) rfl ?_
        exact sX11_isSo_93 R2 l0 l1 l2 hh
def fX11_isSo_2 (n : Nat) : Nat → ai_H → Nat → Int32 → Int32 → Option (Int32 × ai_H)
  | 0 => fun _ _ _ _ => none
  | k + 1 => fun h v0 v1 v2 => fX11_isSo_2b n (fX11_isSo_2 n k) h v0 v1 v2
theorem sX11_isSo_2 {n : Nat} {q : Int32 × ai_H} : ∀ (k : Nat) (h : ai_H) (v0 : Nat) (v1 : Int32) (v2 : Int32) (lv : ai_L), ai_ld 0 lv = some (.ref v0) → ai_ld 1 lv = some (.int v1) → ai_ld 2 lv = some (.int v2) → fX11_isSo_2 n k h v0 v1 v2 = some q → bi_go 1 tX11_isSo n (fI n q) 2 lv [] h
  | 0 => fun _ _ _ _ _ _ _ _ hh => by cases hh
  | k + 1 => fun h v0 v1 v2 lv l0 l1 l2 hh => sX11_isSo_2b  (sX11_isSo_2  k) l0 l1 l2 hh
def fX11_isSo (n : Nat) (h : ai_H) (a0 : Nat) (a1 : Int32) : Option (Int32 × ai_H) :=
  (kO n h a0 11).bind fun _ =>
  fX11_isSo_2 n bi_K h a0 a1 (0 : Int32)
theorem gX11_isSo {n : Nat} {h : ai_H} {a0 : Nat} {a1 : Int32} {q : Int32 × ai_H} (hh : fX11_isSo n h a0 a1 = some q) : kO n h a0 11 = some () := by
  obtain ⟨_, e, -⟩ := bi_bd hh
  exact e
theorem sX11_isSo {n : Nat} {h : ai_H} {a0 : Nat} {a1 : Int32} {q : Int32 × ai_H} (hh : fX11_isSo n h a0 a1 = some q) : bi_sp 2 252 [.ref a0, .int a1] h n (fI n q) := by
  refine bi_en (D := 1) (T := tX11_isSo) (funext fun pc => rfl) rfl (Nat.le_of_ble_eq_true rfl) ?_
  unfold fX11_isSo at hh
  obtain ⟨_, eO, hh⟩ := bi_bd hh
  refine go_pi (pc := 0) rfl ?_
  refine go_is (pc := 1) rfl ?_
  exact sX11_isSo_2  _ _ _ _ _ _ (bi_k1 (rfl : ai_ld 0 (lv_args 0 [.ref a0, .int a1]) = some (.ref a0)) rfl rfl) (bi_k1 (rfl : ai_ld 1 (lv_args 0 [.ref a0, .int a1]) = some (.int a1)) rfl rfl) bi_e1 hh
def fX11_layLegs (n : Nat) (h : ai_H) (a0 : Nat) (a1 : Int32) (a2 : Int32) : Option (Unit × ai_H) :=
  (kO n h a0 11).bind fun _ =>
  (fX11_atFirst n h a0 (1 : Int32)).bind fun q1 =>
  (fX11_plainTried n q1.2 a0).bind fun q2 =>
  (sF n q2.2 a0 11 75 (.int) (.int a1)).bind fun h3 =>
  (sF n h3 a0 11 76 (.int) (.int a2)).bind fun h4 =>
  some ((), h4)
theorem gX11_layLegs {n : Nat} {h : ai_H} {a0 : Nat} {a1 : Int32} {a2 : Int32} {q : Unit × ai_H} (hh : fX11_layLegs n h a0 a1 a2 = some q) : kO n h a0 11 = some () := by
  obtain ⟨_, e, -⟩ := bi_bd hh
  exact e
theorem sX11_layLegs {n : Nat} {h : ai_H} {a0 : Nat} {a1 : Int32} {a2 : Int32} {q : Unit × ai_H} (hh : fX11_layLegs n h a0 a1 a2 = some q) : bi_sp 2 253 [.ref a0, .int a1, .int a2] h n (fV n q) := by
  refine bi_en (D := 1) (T := tX11_layLegs) (funext fun pc => rfl) rfl (Nat.le_of_ble_eq_true rfl) ?_
  unfold fX11_layLegs at hh
  obtain ⟨_, eO, hh⟩ := bi_bd hh
  refine go_al (pc := 0) rfl (rfl : ai_ld 0 (lv_args 0 [.ref a0, .int a1, .int a2]) = some (.ref a0)) ?_
  refine go_pi (pc := 1) rfl ?_
  obtain ⟨q1, eq1, hh⟩ := bi_bd hh
  refine go_ivV (pc := 2) rfl rfl (gX11_atFirst eq1) (Nat.le_of_ble_eq_true rfl) (bi_up (sX11_atFirst eq1) (Nat.le_of_ble_eq_true rfl)) ?_
  refine go_al (pc := 5) rfl (rfl : ai_ld 0 (lv_args 0 [.ref a0, .int a1, .int a2]) = some (.ref a0)) ?_
  obtain ⟨q2, eq2, hh⟩ := bi_bd hh
  refine go_ivV (pc := 6) rfl rfl (gX11_plainTried eq2) (Nat.le_of_ble_eq_true rfl) (bi_up (sX11_plainTried eq2) (Nat.le_of_ble_eq_true rfl)) ?_
  refine go_al (pc := 9) rfl (rfl : ai_ld 0 (lv_args 0 [.ref a0, .int a1, .int a2]) = some (.ref a0)) ?_
  refine go_il (pc := 10) rfl (rfl : ai_ld 1 (lv_args 0 [.ref a0, .int a1, .int a2]) = some (.int a1)) ?_
  obtain ⟨h3, eh3, hh⟩ := bi_bd hh
  refine go_pf (pc := 11) rfl eh3 ?_
  refine go_al (pc := 14) rfl (rfl : ai_ld 0 (lv_args 0 [.ref a0, .int a1, .int a2]) = some (.ref a0)) ?_
  refine go_il (pc := 15) rfl (rfl : ai_ld 2 (lv_args 0 [.ref a0, .int a1, .int a2]) = some (.int a2)) ?_
  obtain ⟨h4, eh4, hh⟩ := bi_bd hh
  refine go_pf (pc := 16) rfl eh4 ?_
  exact go_rv (pc := 19) rfl hh
def fX11_fits_8b (n : Nat) (r8 : ai_H → Nat → Int32 → Option (Int32 × ai_H)) (h : ai_H) (v0 : Nat) (v3 : Int32) : Option (Int32 × ai_H) :=
  if (60 : Int32) < v3 then (
    some ((1 : Int32), h))
  else (
    (fX11_dayGoes n h v0 (1 : Int32)).bind fun q1 =>
    (fX11_isSo n q1.2 v0 v3).bind fun q2 =>
    if ¬ q2.1 = 0 then (
      r8 q2.2 v0 (v3 + 1))
    else (
      some ((0 : Int32), q2.2)))
theorem sX11_fits_8b {n : Nat} {r8 : ai_H → Nat → Int32 → Option (Int32 × ai_H)} {q : Int32 × ai_H} {h : ai_H} {v0 : Nat} {v3 : Int32} {lv : ai_L} (R8 : ∀ (h : ai_H) (v0 : Nat) (v3 : Int32) (lv : ai_L), ai_ld 0 lv = some (.ref v0) → ai_ld 3 lv = some (.int v3) → r8 h v0 v3 = some q → bi_go 6 tX11_fits n (fI n q) 8 lv [] h) (l0 : ai_ld 0 lv = some (.ref v0)) (l3 : ai_ld 3 lv = some (.int v3)) (hh : fX11_fits_8b n r8 h v0 v3 = some q) : bi_go 6 tX11_fits n (fI n q) 8 lv [] h := by
  unfold fX11_fits_8b at hh
  refine go_il (pc := 8) rfl l3 ?_
  refine go_pi (pc := 9) rfl ?_
  refine bi_ite hh (fun hc hh => ?_) (fun hc hh => ?_)
  · refine go_cmpgtT (pc := 11) rfl hc ?_
    refine go_pi (pc := 35) rfl ?_
    exact go_rz (pc := 36) rfl bi_z1 hh
  · refine go_cmpgtF (pc := 11) rfl hc ?_
    refine go_al (pc := 14) rfl l0 ?_
    refine go_pi (pc := 15) rfl ?_
    obtain ⟨q1, eq1, hh⟩ := bi_bd hh
    refine go_ivV (pc := 16) rfl rfl (gX11_dayGoes eq1) (Nat.le_of_ble_eq_true rfl) (bi_up (sX11_dayGoes eq1) (Nat.le_of_ble_eq_true rfl)) ?_
    refine go_al (pc := 19) rfl l0 ?_
    refine go_il (pc := 20) rfl l3 ?_
    obtain ⟨q2, eq2, hh⟩ := bi_bd hh
    refine go_ivI (pc := 21) rfl rfl (gX11_isSo eq2) (Nat.le_of_ble_eq_true rfl) (bi_up (sX11_isSo eq2) (Nat.le_of_ble_eq_true rfl)) ?_
    refine bi_ite hh (fun hc hh => ?_) (fun hc hh => ?_)
    · refine go_ifneT (pc := 24) rfl hc ?_
      refine go_inc (pc := 29) rfl l3 ?_
      refine go_goto (pc := 32) rfl ?_
      exact R8 _ _ _ _ (bi_k1 l0 rfl rfl) bi_e1 hh
    · refine go_ifneF (pc := 24) rfl hc ?_
      refine go_pi (pc := 27) rfl ?_
      exact go_rz (pc := 28) rfl bi_z0 hh
def fX11_fits_8 (n : Nat) : Nat → ai_H → Nat → Int32 → Option (Int32 × ai_H)
  | 0 => fun _ _ _ => none
  | k + 1 => fun h v0 v3 => fX11_fits_8b n (fX11_fits_8 n k) h v0 v3
theorem sX11_fits_8 {n : Nat} {q : Int32 × ai_H} : ∀ (k : Nat) (h : ai_H) (v0 : Nat) (v3 : Int32) (lv : ai_L), ai_ld 0 lv = some (.ref v0) → ai_ld 3 lv = some (.int v3) → fX11_fits_8 n k h v0 v3 = some q → bi_go 6 tX11_fits n (fI n q) 8 lv [] h
  | 0 => fun _ _ _ _ _ _ hh => by cases hh
  | k + 1 => fun h v0 v3 lv l0 l3 hh => sX11_fits_8b  (sX11_fits_8  k) l0 l3 hh
def fX11_fits (n : Nat) (h : ai_H) (a0 : Nat) (a1 : Int32) (a2 : Int32) : Option (Int32 × ai_H) :=
  (kO n h a0 11).bind fun _ =>
  (fX11_layLegs n h a0 a1 a2).bind fun q1 =>
  fX11_fits_8 n bi_K q1.2 a0 (1 : Int32)
theorem gX11_fits {n : Nat} {h : ai_H} {a0 : Nat} {a1 : Int32} {a2 : Int32} {q : Int32 × ai_H} (hh : fX11_fits n h a0 a1 a2 = some q) : kO n h a0 11 = some () := by
  obtain ⟨_, e, -⟩ := bi_bd hh
  exact e
theorem sX11_fits {n : Nat} {h : ai_H} {a0 : Nat} {a1 : Int32} {a2 : Int32} {q : Int32 × ai_H} (hh : fX11_fits n h a0 a1 a2 = some q) : bi_sp 7 254 [.ref a0, .int a1, .int a2] h n (fI n q) := by
  refine bi_en (D := 6) (T := tX11_fits) (funext fun pc => rfl) rfl (Nat.le_of_ble_eq_true rfl) ?_
  unfold fX11_fits at hh
  obtain ⟨_, eO, hh⟩ := bi_bd hh
  refine go_al (pc := 0) rfl (rfl : ai_ld 0 (lv_args 0 [.ref a0, .int a1, .int a2]) = some (.ref a0)) ?_
  refine go_il (pc := 1) rfl (rfl : ai_ld 1 (lv_args 0 [.ref a0, .int a1, .int a2]) = some (.int a1)) ?_
  refine go_il (pc := 2) rfl (rfl : ai_ld 2 (lv_args 0 [.ref a0, .int a1, .int a2]) = some (.int a2)) ?_
  obtain ⟨q1, eq1, hh⟩ := bi_bd hh
  refine go_ivV (pc := 3) rfl rfl (gX11_layLegs eq1) (Nat.le_of_ble_eq_true rfl) (bi_up (sX11_layLegs eq1) (Nat.le_of_ble_eq_true rfl)) ?_
  refine go_pi (pc := 6) rfl ?_
  refine go_is (pc := 7) rfl ?_
  exact sX11_fits_8  _ _ _ _ _ (bi_k1 (rfl : ai_ld 0 (lv_args 0 [.ref a0, .int a1, .int a2]) = some (.ref a0)) rfl rfl) bi_e1 hh
def fX11_legsBits_31 (n : Nat) (r8 : ai_H → Nat → Int32 → Int32 → Int32 → Option (Int32 × ai_H)) (h : ai_H) (v0 : Nat) (v1 : Int32) (v3 : Int32) (s0 : Int32) (s1 : Int32) : Option (Int32 × ai_H) :=
  r8 h v0 v1 (s1 ||| s0) (v3 + 1)
theorem sX11_legsBits_31 {n : Nat} {r8 : ai_H → Nat → Int32 → Int32 → Int32 → Option (Int32 × ai_H)} {q : Int32 × ai_H} {h : ai_H} {v0 : Nat} {v1 : Int32} {v3 : Int32} {s0 : Int32} {s1 : Int32} {lv : ai_L} (R8 : ∀ (h : ai_H) (v0 : Nat) (v1 : Int32) (v2 : Int32) (v3 : Int32) (lv : ai_L), ai_ld 0 lv = some (.ref v0) → ai_ld 1 lv = some (.int v1) → ai_ld 2 lv = some (.int v2) → ai_ld 3 lv = some (.int v3) → r8 h v0 v1 v2 v3 = some q → bi_go 7 tX11_legsBits n (fI n q) 8 lv [] h) (l0 : ai_ld 0 lv = some (.ref v0)) (l1 : ai_ld 1 lv = some (.int v1)) (l3 : ai_ld 3 lv = some (.int v3)) (hh : fX11_legsBits_31 n r8 h v0 v1 v3 s0 s1 = some q) : bi_go 7 tX11_legsBits n (fI n q) 31 lv [.int s0, .int s1] h := by
  unfold fX11_legsBits_31 at hh
  refine go_ior (pc := 31) rfl ?_
  refine go_is (pc := 32) rfl ?_
  refine go_inc (pc := 33) rfl (bi_k1 l3 rfl rfl) ?_
  refine go_goto (pc := 36) rfl ?_
  exact R8 _ _ _ _ _ _ (bi_k1 (bi_k1 l0 rfl rfl) rfl rfl) (bi_k1 (bi_k1 l1 rfl rfl) rfl rfl) (bi_k1 bi_e1 rfl rfl) bi_e1 hh
def fX11_legsBits_8b (n : Nat) (r8 : ai_H → Nat → Int32 → Int32 → Int32 → Option (Int32 × ai_H)) (h : ai_H) (v0 : Nat) (v1 : Int32) (v2 : Int32) (v3 : Int32) : Option (Int32 × ai_H) :=
  if (10 : Int32) ≤ v3 then (
    (fX11_plainTried n h v0).bind fun q1 =>
    some (v2, q1.2))
  else (
    (fX11_fits n h v0 v1 v3).bind fun q2 =>
    if q2.1 = 0 then (
      fX11_legsBits_31 n r8 q2.2 v0 v1 v3 (0 : Int32) v2)
    else (
      fX11_legsBits_31 n r8 q2.2 v0 v1 v3 ((1 : Int32) <<< (v3 &&& 31)) v2))
theorem sX11_legsBits_8b {n : Nat} {r8 : ai_H → Nat → Int32 → Int32 → Int32 → Option (Int32 × ai_H)} {q : Int32 × ai_H} {h : ai_H} {v0 : Nat} {v1 : Int32} {v2 : Int32} {v3 : Int32} {lv : ai_L} (R8 : ∀ (h : ai_H) (v0 : Nat) (v1 : Int32) (v2 : Int32) (v3 : Int32) (lv : ai_L), ai_ld 0 lv = some (.ref v0) → ai_ld 1 lv = some (.int v1) → ai_ld 2 lv = some (.int v2) → ai_ld 3 lv = some (.int v3) → r8 h v0 v1 v2 v3 = some q → bi_go 7 tX11_legsBits n (fI n q) 8 lv [] h) (l0 : ai_ld 0 lv = some (.ref v0)) (l1 : ai_ld 1 lv = some (.int v1)) (l2 : ai_ld 2 lv = some (.int v2)) (l3 : ai_ld 3 lv = some (.int v3)) (hh : fX11_legsBits_8b n r8 h v0 v1 v2 v3 = some q) : bi_go 7 tX11_legsBits n (fI n q) 8 lv [] h := by
  unfold fX11_legsBits_8b at hh
  refine go_il (pc := 8) rfl l3 ?_
  refine go_pi (pc := 9) rfl ?_
  refine bi_ite hh (fun hc hh => ?_) (fun hc hh => ?_)
  · refine go_cmpgeT (pc := 11) rfl hc ?_
    refine go_al (pc := 39) rfl l0 ?_
    obtain ⟨q1, eq1, hh⟩ := bi_bd hh
    refine go_ivV (pc := 40) rfl rfl (gX11_plainTried eq1) (Nat.le_of_ble_eq_true rfl) (bi_up (sX11_plainTried eq1) (Nat.le_of_ble_eq_true rfl)) ?_
    refine go_il (pc := 43) rfl l2 ?_
    exact go_ri (pc := 44) rfl hh
  · refine go_cmpgeF (pc := 11) rfl hc ?_
    refine go_il (pc := 14) rfl l2 ?_
    refine go_al (pc := 15) rfl l0 ?_
    refine go_il (pc := 16) rfl l1 ?_
    refine go_il (pc := 17) rfl l3 ?_
    obtain ⟨q2, eq2, hh⟩ := bi_bd hh
    refine go_ivI (pc := 18) rfl rfl (gX11_fits eq2) (Nat.le_of_ble_eq_true rfl) (bi_up (sX11_fits eq2) (Nat.le_of_ble_eq_true rfl)) ?_
    refine bi_ite hh (fun hc hh => ?_) (fun hc hh => ?_)
    · refine go_ifeqT (pc := 21) rfl hc ?_
      refine go_pi (pc := 30) rfl ?_
      exact sX11_legsBits_31 R8 l0 l1 l3 hh
    · refine go_ifeqF (pc := 21) rfl hc ?_
      refine go_pi (pc := 24) rfl ?_
      refine go_il (pc := 25) rfl l3 ?_
      refine go_ishl (pc := 26) rfl ?_
      refine go_goto (pc := 27) rfl ?_
      exact sX11_legsBits_31 R8 l0 l1 l3 hh
def fX11_legsBits_8 (n : Nat) : Nat → ai_H → Nat → Int32 → Int32 → Int32 → Option (Int32 × ai_H)
  | 0 => fun _ _ _ _ _ => none
  | k + 1 => fun h v0 v1 v2 v3 => fX11_legsBits_8b n (fX11_legsBits_8 n k) h v0 v1 v2 v3
theorem sX11_legsBits_8 {n : Nat} {q : Int32 × ai_H} : ∀ (k : Nat) (h : ai_H) (v0 : Nat) (v1 : Int32) (v2 : Int32) (v3 : Int32) (lv : ai_L), ai_ld 0 lv = some (.ref v0) → ai_ld 1 lv = some (.int v1) → ai_ld 2 lv = some (.int v2) → ai_ld 3 lv = some (.int v3) → fX11_legsBits_8 n k h v0 v1 v2 v3 = some q → bi_go 7 tX11_legsBits n (fI n q) 8 lv [] h
  | 0 => fun _ _ _ _ _ _ _ _ _ _ hh => by cases hh
  | k + 1 => fun h v0 v1 v2 v3 lv l0 l1 l2 l3 hh => sX11_legsBits_8b  (sX11_legsBits_8  k) l0 l1 l2 l3 hh
def fX11_legsBits (n : Nat) (h : ai_H) (a0 : Nat) (a1 : Int32) : Option (Int32 × ai_H) :=
  (kO n h a0 11).bind fun _ =>
  (fX11_layCounts n h a0).bind fun q1 =>
  fX11_legsBits_8 n bi_K q1.2 a0 a1 (0 : Int32) (0 : Int32)
theorem gX11_legsBits {n : Nat} {h : ai_H} {a0 : Nat} {a1 : Int32} {q : Int32 × ai_H} (hh : fX11_legsBits n h a0 a1 = some q) : kO n h a0 11 = some () := by
  obtain ⟨_, e, -⟩ := bi_bd hh
  exact e
theorem sX11_legsBits {n : Nat} {h : ai_H} {a0 : Nat} {a1 : Int32} {q : Int32 × ai_H} (hh : fX11_legsBits n h a0 a1 = some q) : bi_sp 8 255 [.ref a0, .int a1] h n (fI n q) := by
  refine bi_en (D := 7) (T := tX11_legsBits) (funext fun pc => rfl) rfl (Nat.le_of_ble_eq_true rfl) ?_
  unfold fX11_legsBits at hh
  obtain ⟨_, eO, hh⟩ := bi_bd hh
  refine go_al (pc := 0) rfl (rfl : ai_ld 0 (lv_args 0 [.ref a0, .int a1]) = some (.ref a0)) ?_
  obtain ⟨q1, eq1, hh⟩ := bi_bd hh
  refine go_ivV (pc := 1) rfl rfl (gX11_layCounts eq1) (Nat.le_of_ble_eq_true rfl) (bi_up (sX11_layCounts eq1) (Nat.le_of_ble_eq_true rfl)) ?_
  refine go_pi (pc := 4) rfl ?_
  refine go_is (pc := 5) rfl ?_
  refine go_pi (pc := 6) rfl ?_
  refine go_is (pc := 7) rfl ?_
  exact sX11_legsBits_8  _ _ _ _ _ _ _ (bi_k1 (bi_k1 (rfl : ai_ld 0 (lv_args 0 [.ref a0, .int a1]) = some (.ref a0)) rfl rfl) rfl rfl) (bi_k1 (bi_k1 (rfl : ai_ld 1 (lv_args 0 [.ref a0, .int a1]) = some (.int a1)) rfl rfl) rfl rfl) (bi_k1 bi_e1 rfl rfl) bi_e1 hh
def fX11_legs (n : Nat) (h : ai_H) (a0 : Nat) (a1 : Int32) : Option (Int32 × ai_H) :=
  (kO n h a0 11).bind fun _ =>
  (sF n h a0 11 2 (.int) (.int (0 : Int32))).bind fun h1 =>
  (fX11_isWalker n h1 a0 a1).bind fun q2 =>
  if q2.1 = 0 then (
    some ((-1 : Int32), q2.2))
  else (
    (fX11_legsBits n q2.2 a0 a1).bind fun q3 =>
    some (q3.1, q3.2))
theorem gX11_legs {n : Nat} {h : ai_H} {a0 : Nat} {a1 : Int32} {q : Int32 × ai_H} (hh : fX11_legs n h a0 a1 = some q) : kO n h a0 11 = some () := by
  obtain ⟨_, e, -⟩ := bi_bd hh
  exact e
theorem sX11_legs {n : Nat} {h : ai_H} {a0 : Nat} {a1 : Int32} {q : Int32 × ai_H} (hh : fX11_legs n h a0 a1 = some q) : bi_sp 9 256 [.ref a0, .int a1] h n (fI n q) := by
  refine bi_en (D := 8) (T := tX11_legs) (funext fun pc => rfl) rfl (Nat.le_of_ble_eq_true rfl) ?_
  unfold fX11_legs at hh
  obtain ⟨_, eO, hh⟩ := bi_bd hh
  refine go_al (pc := 0) rfl (rfl : ai_ld 0 (lv_args 0 [.ref a0, .int a1]) = some (.ref a0)) ?_
  refine go_pi (pc := 1) rfl ?_
  obtain ⟨h1, eh1, hh⟩ := bi_bd hh
  refine go_pf (pc := 2) rfl eh1 ?_
  refine go_al (pc := 5) rfl (rfl : ai_ld 0 (lv_args 0 [.ref a0, .int a1]) = some (.ref a0)) ?_
  refine go_il (pc := 6) rfl (rfl : ai_ld 1 (lv_args 0 [.ref a0, .int a1]) = some (.int a1)) ?_
  obtain ⟨q2, eq2, hh⟩ := bi_bd hh
  refine go_ivI (pc := 7) rfl rfl (gX11_isWalker eq2) (Nat.le_of_ble_eq_true rfl) (bi_up (sX11_isWalker eq2) (Nat.le_of_ble_eq_true rfl)) ?_
  refine bi_ite hh (fun hc hh => ?_) (fun hc hh => ?_)
  · refine go_ifeqT (pc := 10) rfl hc ?_
    refine go_pi (pc := 21) rfl ?_
    exact go_ri (pc := 22) rfl hh
  · refine go_ifeqF (pc := 10) rfl hc ?_
    refine go_al (pc := 13) rfl (rfl : ai_ld 0 (lv_args 0 [.ref a0, .int a1]) = some (.ref a0)) ?_
    refine go_il (pc := 14) rfl (rfl : ai_ld 1 (lv_args 0 [.ref a0, .int a1]) = some (.int a1)) ?_
    obtain ⟨q3, eq3, hh⟩ := bi_bd hh
    refine go_ivI (pc := 15) rfl rfl (gX11_legsBits eq3) (Nat.le_of_ble_eq_true rfl) (bi_up (sX11_legsBits eq3) (Nat.le_of_ble_eq_true rfl)) ?_
    refine go_goto (pc := 18) rfl ?_
    exact go_ri (pc := 22) rfl hh
def fX11_sit_117 (n : Nat) (r68 : ai_H → Nat → Int32 → Int32 → Int32 → Int32 → Int32 → Option (Int32 × ai_H)) (h : ai_H) (v0 : Nat) (v1 : Int32) (v2 : Int32) (v3 : Int32) (v4 : Int32) (v5 : Int32) : Option (Int32 × ai_H) :=
  r68 h v0 v1 v2 v3 v4 (v5 + 1)
theorem sX11_sit_117 {n : Nat} {r68 : ai_H → Nat → Int32 → Int32 → Int32 → Int32 → Int32 → Option (Int32 × ai_H)} {q : Int32 × ai_H} {h : ai_H} {v0 : Nat} {v1 : Int32} {v2 : Int32} {v3 : Int32} {v4 : Int32} {v5 : Int32} {lv : ai_L} (R68 : ∀ (h : ai_H) (v0 : Nat) (v1 : Int32) (v2 : Int32) (v3 : Int32) (v4 : Int32) (v5 : Int32) (lv : ai_L), ai_ld 0 lv = some (.ref v0) → ai_ld 1 lv = some (.int v1) → ai_ld 2 lv = some (.int v2) → ai_ld 3 lv = some (.int v3) → ai_ld 4 lv = some (.int v4) → ai_ld 5 lv = some (.int v5) → r68 h v0 v1 v2 v3 v4 v5 = some q → bi_go 8 tX11_sit n (fI n q) 68 lv [] h) (l0 : ai_ld 0 lv = some (.ref v0)) (l1 : ai_ld 1 lv = some (.int v1)) (l2 : ai_ld 2 lv = some (.int v2)) (l3 : ai_ld 3 lv = some (.int v3)) (l4 : ai_ld 4 lv = some (.int v4)) (l5 : ai_ld 5 lv = some (.int v5)) (hh : fX11_sit_117 n r68 h v0 v1 v2 v3 v4 v5 = some q) : bi_go 8 tX11_sit n (fI n q) 117 lv [] h := by
  unfold fX11_sit_117 at hh
  refine go_inc (pc := 117) rfl l5 ?_
  refine go_goto (pc := 120) rfl ?_
  exact R68 _ _ _ _ _ _ _ _ (bi_k1 l0 rfl rfl) (bi_k1 l1 rfl rfl) (bi_k1 l2 rfl rfl) (bi_k1 l3 rfl rfl) (bi_k1 l4 rfl rfl) bi_e1 hh
def fX11_sit_209 (n : Nat) (r136 : ai_H → Nat → Int32 → Int32 → Int32 → Int32 → Int32 → Option (Int32 × ai_H)) (h : ai_H) (v0 : Nat) (v3 : Int32) (v4 : Int32) (v5 : Int32) (v6 : Int32) (v7 : Int32) : Option (Int32 × ai_H) :=
  r136 h v0 v3 v4 v5 v6 (v7 + 1)
theorem sX11_sit_209 {n : Nat} {r136 : ai_H → Nat → Int32 → Int32 → Int32 → Int32 → Int32 → Option (Int32 × ai_H)} {q : Int32 × ai_H} {h : ai_H} {v0 : Nat} {v3 : Int32} {v4 : Int32} {v5 : Int32} {v6 : Int32} {v7 : Int32} {lv : ai_L} (R136 : ∀ (h : ai_H) (v0 : Nat) (v3 : Int32) (v4 : Int32) (v5 : Int32) (v6 : Int32) (v7 : Int32) (lv : ai_L), ai_ld 0 lv = some (.ref v0) → ai_ld 3 lv = some (.int v3) → ai_ld 4 lv = some (.int v4) → ai_ld 5 lv = some (.int v5) → ai_ld 6 lv = some (.int v6) → ai_ld 7 lv = some (.int v7) → r136 h v0 v3 v4 v5 v6 v7 = some q → bi_go 8 tX11_sit n (fI n q) 136 lv [] h) (l0 : ai_ld 0 lv = some (.ref v0)) (l3 : ai_ld 3 lv = some (.int v3)) (l4 : ai_ld 4 lv = some (.int v4)) (l5 : ai_ld 5 lv = some (.int v5)) (l6 : ai_ld 6 lv = some (.int v6)) (l7 : ai_ld 7 lv = some (.int v7)) (hh : fX11_sit_209 n r136 h v0 v3 v4 v5 v6 v7 = some q) : bi_go 8 tX11_sit n (fI n q) 209 lv [] h := by
  unfold fX11_sit_209 at hh
  refine go_inc (pc := 209) rfl l7 ?_
  refine go_goto (pc := 212) rfl ?_
  exact R136 _ _ _ _ _ _ _ _ (bi_k1 l0 rfl rfl) (bi_k1 l3 rfl rfl) (bi_k1 l4 rfl rfl) (bi_k1 l5 rfl rfl) (bi_k1 l6 rfl rfl) bi_e1 hh
def fX11_sit_201 (n : Nat) (r136 : ai_H → Nat → Int32 → Int32 → Int32 → Int32 → Int32 → Option (Int32 × ai_H)) (h : ai_H) (v0 : Nat) (v3 : Int32) (v4 : Int32) (v7 : Int32) (v9 : Int32) : Option (Int32 × ai_H) :=
  fX11_sit_209 n r136 h v0 v3 v4 v7 v9 v7
theorem sX11_sit_201 {n : Nat} {r136 : ai_H → Nat → Int32 → Int32 → Int32 → Int32 → Int32 → Option (Int32 × ai_H)} {q : Int32 × ai_H} {h : ai_H} {v0 : Nat} {v3 : Int32} {v4 : Int32} {v7 : Int32} {v9 : Int32} {lv : ai_L} (R136 : ∀ (h : ai_H) (v0 : Nat) (v3 : Int32) (v4 : Int32) (v5 : Int32) (v6 : Int32) (v7 : Int32) (lv : ai_L), ai_ld 0 lv = some (.ref v0) → ai_ld 3 lv = some (.int v3) → ai_ld 4 lv = some (.int v4) → ai_ld 5 lv = some (.int v5) → ai_ld 6 lv = some (.int v6) → ai_ld 7 lv = some (.int v7) → r136 h v0 v3 v4 v5 v6 v7 = some q → bi_go 8 tX11_sit n (fI n q) 136 lv [] h) (l0 : ai_ld 0 lv = some (.ref v0)) (l3 : ai_ld 3 lv = some (.int v3)) (l4 : ai_ld 4 lv = some (.int v4)) (l7 : ai_ld 7 lv = some (.int v7)) (l9 : ai_ld 9 lv = some (.int v9)) (hh : fX11_sit_201 n r136 h v0 v3 v4 v7 v9 = some q) : bi_go 8 tX11_sit n (fI n q) 201 lv [] h := by
  unfold fX11_sit_201 at hh
  refine go_il (pc := 201) rfl l7 ?_
  refine go_is (pc := 203) rfl ?_
  refine go_il (pc := 205) rfl (bi_k1 l9 rfl rfl) ?_
  refine go_is (pc := 207) rfl ?_
  exact sX11_sit_209 R136 (bi_k1 (bi_k1 l0 rfl rfl) rfl rfl) (bi_k1 (bi_k1 l3 rfl rfl) rfl rfl) (bi_k1 (bi_k1 l4 rfl rfl) rfl rfl) (bi_k1 bi_e1 rfl rfl) bi_e1 (bi_k1 (bi_k1 l7 rfl rfl) rfl rfl) hh
def fX11_sit_184 (n : Nat) (r136 : ai_H → Nat → Int32 → Int32 → Int32 → Int32 → Int32 → Option (Int32 × ai_H)) (h : ai_H) (v0 : Nat) (v3 : Int32) (v4 : Int32) (v5 : Int32) (v6 : Int32) (v7 : Int32) (s0 : Int32) : Option (Int32 × ai_H) :=
  if v5 < 0 then (
    fX11_sit_201 n r136 h v0 v3 v4 v7 s0)
  else (
    if s0 < v6 then (
      fX11_sit_201 n r136 h v0 v3 v4 v7 s0)
    else (
      fX11_sit_209 n r136 h v0 v3 v4 v5 v6 v7))
theorem sX11_sit_184 {n : Nat} {r136 : ai_H → Nat → Int32 → Int32 → Int32 → Int32 → Int32 → Option (Int32 × ai_H)} {q : Int32 × ai_H} {h : ai_H} {v0 : Nat} {v3 : Int32} {v4 : Int32} {v5 : Int32} {v6 : Int32} {v7 : Int32} {s0 : Int32} {lv : ai_L} (R136 : ∀ (h : ai_H) (v0 : Nat) (v3 : Int32) (v4 : Int32) (v5 : Int32) (v6 : Int32) (v7 : Int32) (lv : ai_L), ai_ld 0 lv = some (.ref v0) → ai_ld 3 lv = some (.int v3) → ai_ld 4 lv = some (.int v4) → ai_ld 5 lv = some (.int v5) → ai_ld 6 lv = some (.int v6) → ai_ld 7 lv = some (.int v7) → r136 h v0 v3 v4 v5 v6 v7 = some q → bi_go 8 tX11_sit n (fI n q) 136 lv [] h) (l0 : ai_ld 0 lv = some (.ref v0)) (l3 : ai_ld 3 lv = some (.int v3)) (l4 : ai_ld 4 lv = some (.int v4)) (l5 : ai_ld 5 lv = some (.int v5)) (l6 : ai_ld 6 lv = some (.int v6)) (l7 : ai_ld 7 lv = some (.int v7)) (hh : fX11_sit_184 n r136 h v0 v3 v4 v5 v6 v7 s0 = some q) : bi_go 8 tX11_sit n (fI n q) 184 lv [.int s0] h := by
  unfold fX11_sit_184 at hh
  refine go_is (pc := 184) rfl ?_
  refine go_il (pc := 186) rfl (bi_k1 l5 rfl rfl) ?_
  refine bi_ite hh (fun hc hh => ?_) (fun hc hh => ?_)
  · refine go_ifltT (pc := 188) rfl hc ?_
    exact sX11_sit_201 R136 (bi_k1 l0 rfl rfl) (bi_k1 l3 rfl rfl) (bi_k1 l4 rfl rfl) (bi_k1 l7 rfl rfl) bi_e1 hh
  · refine go_ifltF (pc := 188) rfl hc ?_
    refine go_il (pc := 191) rfl bi_e1 ?_
    refine go_il (pc := 193) rfl (bi_k1 l6 rfl rfl) ?_
    refine bi_ite hh (fun hc hh => ?_) (fun hc hh => ?_)
    · refine go_cmpltT (pc := 195) rfl hc ?_
      exact sX11_sit_201 R136 (bi_k1 l0 rfl rfl) (bi_k1 l3 rfl rfl) (bi_k1 l4 rfl rfl) (bi_k1 l7 rfl rfl) bi_e1 hh
    · refine go_cmpltF (pc := 195) rfl hc ?_
      refine go_goto (pc := 198) rfl ?_
      exact sX11_sit_209 R136 (bi_k1 l0 rfl rfl) (bi_k1 l3 rfl rfl) (bi_k1 l4 rfl rfl) (bi_k1 l5 rfl rfl) (bi_k1 l6 rfl rfl) (bi_k1 l7 rfl rfl) hh
def fX11_sit_136b (n : Nat) (r136 : ai_H → Nat → Int32 → Int32 → Int32 → Int32 → Int32 → Option (Int32 × ai_H)) (h : ai_H) (v0 : Nat) (v3 : Int32) (v4 : Int32) (v5 : Int32) (v6 : Int32) (v7 : Int32) : Option (Int32 × ai_H) :=
  (pI n h v0 11 12).bind fun x1 =>
  if x1 ≤ v7 then (
    if ¬ v3 = 0 then (
      some (v6, h))
    else (
      some (v5, h)))
  else (
    (fX11_manyOf n h v4).bind fun q2 =>
    (pR n q2.2 v0 11 88).bind fun x3 =>
    (gX 1 n q2.2 x3 v7).bind fun x4 =>
    (pR n q2.2 v0 11 88).bind fun x5 =>
    (gX 1 n q2.2 x5 v7).bind fun x6 =>
    if x6 ≤ (q2.1 - x4) then (
      fX11_sit_184 n r136 q2.2 v0 v3 v4 v5 v6 v7 (q2.1 - x4))
    else (
      (pR n q2.2 v0 11 88).bind fun x7 =>
      (gX 1 n q2.2 x7 v7).bind fun x8 =>
      fX11_sit_184 n r136 q2.2 v0 v3 v4 v5 v6 v7 x8))
theorem sX11_sit_136b {n : Nat} {r136 : ai_H → Nat → Int32 → Int32 → Int32 → Int32 → Int32 → Option (Int32 × ai_H)} {q : Int32 × ai_H} {h : ai_H} {v0 : Nat} {v3 : Int32} {v4 : Int32} {v5 : Int32} {v6 : Int32} {v7 : Int32} {lv : ai_L} (R136 : ∀ (h : ai_H) (v0 : Nat) (v3 : Int32) (v4 : Int32) (v5 : Int32) (v6 : Int32) (v7 : Int32) (lv : ai_L), ai_ld 0 lv = some (.ref v0) → ai_ld 3 lv = some (.int v3) → ai_ld 4 lv = some (.int v4) → ai_ld 5 lv = some (.int v5) → ai_ld 6 lv = some (.int v6) → ai_ld 7 lv = some (.int v7) → r136 h v0 v3 v4 v5 v6 v7 = some q → bi_go 8 tX11_sit n (fI n q) 136 lv [] h) (l0 : ai_ld 0 lv = some (.ref v0)) (l3 : ai_ld 3 lv = some (.int v3)) (l4 : ai_ld 4 lv = some (.int v4)) (l5 : ai_ld 5 lv = some (.int v5)) (l6 : ai_ld 6 lv = some (.int v6)) (l7 : ai_ld 7 lv = some (.int v7)) (hh : fX11_sit_136b n r136 h v0 v3 v4 v5 v6 v7 = some q) : bi_go 8 tX11_sit n (fI n q) 136 lv [] h := by
  unfold fX11_sit_136b at hh
  refine go_il (pc := 136) rfl l7 ?_
  refine go_al (pc := 138) rfl l0 ?_
  obtain ⟨x1, ex1, hh⟩ := bi_bd hh
  refine go_gfI (pc := 139) rfl ex1 ?_
  refine bi_ite hh (fun hc hh => ?_) (fun hc hh => ?_)
  · refine go_cmpgeT (pc := 142) rfl hc ?_
    refine go_il (pc := 215) rfl l3 ?_
    refine bi_ite hh (fun hc hh => ?_) (fun hc hh => ?_)
    · refine go_ifneT (pc := 216) rfl hc ?_
      refine go_il (pc := 224) rfl l6 ?_
      exact go_ri (pc := 226) rfl hh
    · refine go_ifneF (pc := 216) rfl hc ?_
      refine go_il (pc := 219) rfl l5 ?_
      refine go_goto (pc := 221) rfl ?_
      exact go_ri (pc := 226) rfl hh
  · refine go_cmpgeF (pc := 142) rfl hc ?_
    refine go_il (pc := 145) rfl l4 ?_
    obtain ⟨q2, eq2, hh⟩ := bi_bd hh
    refine go_iSI (pc := 147) rfl (Nat.le_of_ble_eq_true rfl) rfl (Nat.le_of_ble_eq_true rfl) (bi_up (sX11_manyOf eq2) (Nat.le_of_ble_eq_true rfl)) ?_
    refine go_al (pc := 150) rfl l0 ?_
    obtain ⟨x3, ex3, hh⟩ := bi_bd hh
    refine go_gfR (pc := 151) rfl ex3 ?_
    refine go_il (pc := 154) rfl l7 ?_
    obtain ⟨x4, ex4, hh⟩ := bi_bd hh
    refine go_iald (pc := 156) rfl ex4 ?_
    refine go_isub (pc := 157) rfl ?_
    refine go_is (pc := 158) rfl ?_
    refine go_al (pc := 160) rfl (bi_k1 l0 rfl rfl) ?_
    obtain ⟨x5, ex5, hh⟩ := bi_bd hh
    refine go_gfR (pc := 161) rfl ex5 ?_
    refine go_il (pc := 164) rfl (bi_k1 l7 rfl rfl) ?_
    obtain ⟨x6, ex6, hh⟩ := bi_bd hh
    refine go_iald (pc := 166) rfl ex6 ?_
    refine go_il (pc := 167) rfl bi_e1 ?_
    refine bi_ite hh (fun hc hh => ?_) (fun hc hh => ?_)
    · refine go_cmpleT (pc := 169) rfl hc ?_
      refine go_il (pc := 182) rfl bi_e1 ?_
      exact sX11_sit_184 R136 (bi_k1 l0 rfl rfl) (bi_k1 l3 rfl rfl) (bi_k1 l4 rfl rfl) (bi_k1 l5 rfl rfl) (bi_k1 l6 rfl rfl) (bi_k1 l7 rfl rfl) hh
    · refine go_cmpleF (pc := 169) rfl hc ?_
      refine go_al (pc := 172) rfl (bi_k1 l0 rfl rfl) ?_
      obtain ⟨x7, ex7, hh⟩ := bi_bd hh
      refine go_gfR (pc := 173) rfl ex7 ?_
      refine go_il (pc := 176) rfl (bi_k1 l7 rfl rfl) ?_
      obtain ⟨x8, ex8, hh⟩ := bi_bd hh
      refine go_iald (pc := 178) rfl ex8 ?_
      refine go_goto (pc := 179) rfl ?_
      exact sX11_sit_184 R136 (bi_k1 l0 rfl rfl) (bi_k1 l3 rfl rfl) (bi_k1 l4 rfl rfl) (bi_k1 l5 rfl rfl) (bi_k1 l6 rfl rfl) (bi_k1 l7 rfl rfl) hh
def fX11_sit_136 (n : Nat) : Nat → ai_H → Nat → Int32 → Int32 → Int32 → Int32 → Int32 → Option (Int32 × ai_H)
  | 0 => fun _ _ _ _ _ _ _ => none
  | k + 1 => fun h v0 v3 v4 v5 v6 v7 => fX11_sit_136b n (fX11_sit_136 n k) h v0 v3 v4 v5 v6 v7
theorem sX11_sit_136 {n : Nat} {q : Int32 × ai_H} : ∀ (k : Nat) (h : ai_H) (v0 : Nat) (v3 : Int32) (v4 : Int32) (v5 : Int32) (v6 : Int32) (v7 : Int32) (lv : ai_L), ai_ld 0 lv = some (.ref v0) → ai_ld 3 lv = some (.int v3) → ai_ld 4 lv = some (.int v4) → ai_ld 5 lv = some (.int v5) → ai_ld 6 lv = some (.int v6) → ai_ld 7 lv = some (.int v7) → fX11_sit_136 n k h v0 v3 v4 v5 v6 v7 = some q → bi_go 8 tX11_sit n (fI n q) 136 lv [] h
  | 0 => fun _ _ _ _ _ _ _ _ _ _ _ _ _ _ hh => by cases hh
  | k + 1 => fun h v0 v3 v4 v5 v6 v7 lv l0 l3 l4 l5 l6 l7 hh => sX11_sit_136b  (sX11_sit_136  k) l0 l3 l4 l5 l6 l7 hh
def fX11_sit_68b (n : Nat) (r68 : ai_H → Nat → Int32 → Int32 → Int32 → Int32 → Int32 → Option (Int32 × ai_H)) (h : ai_H) (v0 : Nat) (v1 : Int32) (v2 : Int32) (v3 : Int32) (v4 : Int32) (v5 : Int32) : Option (Int32 × ai_H) :=
  if (10 : Int32) ≤ v5 then (
    (fX11_plainTried n h v0).bind fun q1 =>
    fX11_sit_136 n bi_K q1.2 v0 v3 v4 (-1 : Int32) (0 : Int32) (0 : Int32))
  else (
    (fX11_isOf n h v4 v5).bind fun q2 =>
    if ¬ q2.1 = 0 then (
      (fX11_layLegs n q2.2 v0 v1 v5).bind fun q3 =>
      (fX11_goMany n q3.2 v0 v2).bind fun q4 =>
      (pR n q4.2 v0 11 88).bind fun x5 =>
      (pR n q4.2 v0 11 60).bind fun x6 =>
      (gX 1 n q4.2 x6 ((4 : Int32) + v1)).bind fun x7 =>
      (gX 1 n q4.2 x5 x7).bind fun x8 =>
      (wX 1 (fun x => x) n q4.2 x5 x7 (x8 + (1 : Int32))).bind fun h9 =>
      fX11_sit_117 n r68 h9 v0 v1 v2 v3 v4 v5)
    else (
      fX11_sit_117 n r68 q2.2 v0 v1 v2 v3 v4 v5))
theorem sX11_sit_68b {n : Nat} {r68 : ai_H → Nat → Int32 → Int32 → Int32 → Int32 → Int32 → Option (Int32 × ai_H)} {q : Int32 × ai_H} {h : ai_H} {v0 : Nat} {v1 : Int32} {v2 : Int32} {v3 : Int32} {v4 : Int32} {v5 : Int32} {lv : ai_L} (R68 : ∀ (h : ai_H) (v0 : Nat) (v1 : Int32) (v2 : Int32) (v3 : Int32) (v4 : Int32) (v5 : Int32) (lv : ai_L), ai_ld 0 lv = some (.ref v0) → ai_ld 1 lv = some (.int v1) → ai_ld 2 lv = some (.int v2) → ai_ld 3 lv = some (.int v3) → ai_ld 4 lv = some (.int v4) → ai_ld 5 lv = some (.int v5) → r68 h v0 v1 v2 v3 v4 v5 = some q → bi_go 8 tX11_sit n (fI n q) 68 lv [] h) (l0 : ai_ld 0 lv = some (.ref v0)) (l1 : ai_ld 1 lv = some (.int v1)) (l2 : ai_ld 2 lv = some (.int v2)) (l3 : ai_ld 3 lv = some (.int v3)) (l4 : ai_ld 4 lv = some (.int v4)) (l5 : ai_ld 5 lv = some (.int v5)) (hh : fX11_sit_68b n r68 h v0 v1 v2 v3 v4 v5 = some q) : bi_go 8 tX11_sit n (fI n q) 68 lv [] h := by
  unfold fX11_sit_68b at hh
  refine go_il (pc := 68) rfl l5 ?_
  refine go_pi (pc := 70) rfl ?_
  refine bi_ite hh (fun hc hh => ?_) (fun hc hh => ?_)
  · refine go_cmpgeT (pc := 72) rfl hc ?_
    refine go_al (pc := 123) rfl l0 ?_
    obtain ⟨q1, eq1, hh⟩ := bi_bd hh
    refine go_ivV (pc := 124) rfl rfl (gX11_plainTried eq1) (Nat.le_of_ble_eq_true rfl) (bi_up (sX11_plainTried eq1) (Nat.le_of_ble_eq_true rfl)) ?_
    refine go_pi (pc := 127) rfl ?_
    refine go_is (pc := 128) rfl ?_
    refine go_pi (pc := 130) rfl ?_
    refine go_is (pc := 131) rfl ?_
    refine go_pi (pc := 133) rfl ?_
    refine go_is (pc := 134) rfl ?_
    exact sX11_sit_136  _ _ _ _ _ _ _ _ _ (bi_k1 (bi_k1 (bi_k1 l0 rfl rfl) rfl rfl) rfl rfl) (bi_k1 (bi_k1 (bi_k1 l3 rfl rfl) rfl rfl) rfl rfl) (bi_k1 (bi_k1 (bi_k1 l4 rfl rfl) rfl rfl) rfl rfl) (bi_k1 (bi_k1 bi_e1 rfl rfl) rfl rfl) (bi_k1 bi_e1 rfl rfl) bi_e1 hh
  · refine go_cmpgeF (pc := 72) rfl hc ?_
    refine go_il (pc := 75) rfl l4 ?_
    refine go_il (pc := 77) rfl l5 ?_
    obtain ⟨q2, eq2, hh⟩ := bi_bd hh
    refine go_iSI (pc := 79) rfl (Nat.le_of_ble_eq_true rfl) rfl (Nat.le_of_ble_eq_true rfl) (bi_up (sX11_isOf eq2) (Nat.le_of_ble_eq_true rfl)) ?_
    refine bi_ite hh (fun hc hh => ?_) (fun hc hh => ?_)
    · refine go_ifneT (pc := 82) rfl hc ?_
      refine go_al (pc := 88) rfl l0 ?_
      refine go_il (pc := 89) rfl l1 ?_
      refine go_il (pc := 90) rfl l5 ?_
      obtain ⟨q3, eq3, hh⟩ := bi_bd hh
      refine go_ivV (pc := 92) rfl rfl (gX11_layLegs eq3) (Nat.le_of_ble_eq_true rfl) (bi_up (sX11_layLegs eq3) (Nat.le_of_ble_eq_true rfl)) ?_
      refine go_al (pc := 95) rfl l0 ?_
      refine go_il (pc := 96) rfl l2 ?_
      obtain ⟨q4, eq4, hh⟩ := bi_bd hh
      refine go_ivV (pc := 97) rfl rfl (gX11_goMany eq4) (Nat.le_of_ble_eq_true rfl) (bi_up (sX11_goMany eq4) (Nat.le_of_ble_eq_true rfl)) ?_
      refine go_al (pc := 100) rfl l0 ?_
      obtain ⟨x5, ex5, hh⟩ := bi_bd hh
      refine go_gfR (pc := 101) rfl ex5 ?_
      refine go_al (pc := 104) rfl l0 ?_
      obtain ⟨x6, ex6, hh⟩ := bi_bd hh
      refine go_gfR (pc := 105) rfl ex6 ?_
      refine go_pi (pc := 108) rfl ?_
      refine go_il (pc := 109) rfl l1 ?_
      refine go_iadd (pc := 110) rfl ?_
      obtain ⟨x7, ex7, hh⟩ := bi_bd hh
      refine go_iald (pc := 111) rfl ex7 ?_
      refine go_dup2 (pc := 112) rfl rfl rfl ?_
      obtain ⟨x8, ex8, hh⟩ := bi_bd hh
      refine go_iald (pc := 113) rfl ex8 ?_
      refine go_pi (pc := 114) rfl ?_
      refine go_iadd (pc := 115) rfl ?_
      obtain ⟨h9, eh9, hh⟩ := bi_bd hh
      refine go_iast (pc := 116) rfl eh9 ?_
      exact sX11_sit_117 R68 l0 l1 l2 l3 l4 l5 hh
    · refine go_ifneF (pc := 82) rfl hc ?_
      refine go_goto (pc := 85) rfl ?_
      exact sX11_sit_117 R68 l0 l1 l2 l3 l4 l5 hh
def fX11_sit_68 (n : Nat) : Nat → ai_H → Nat → Int32 → Int32 → Int32 → Int32 → Int32 → Option (Int32 × ai_H)
  | 0 => fun _ _ _ _ _ _ _ => none
  | k + 1 => fun h v0 v1 v2 v3 v4 v5 => fX11_sit_68b n (fX11_sit_68 n k) h v0 v1 v2 v3 v4 v5
theorem sX11_sit_68 {n : Nat} {q : Int32 × ai_H} : ∀ (k : Nat) (h : ai_H) (v0 : Nat) (v1 : Int32) (v2 : Int32) (v3 : Int32) (v4 : Int32) (v5 : Int32) (lv : ai_L), ai_ld 0 lv = some (.ref v0) → ai_ld 1 lv = some (.int v1) → ai_ld 2 lv = some (.int v2) → ai_ld 3 lv = some (.int v3) → ai_ld 4 lv = some (.int v4) → ai_ld 5 lv = some (.int v5) → fX11_sit_68 n k h v0 v1 v2 v3 v4 v5 = some q → bi_go 8 tX11_sit n (fI n q) 68 lv [] h
  | 0 => fun _ _ _ _ _ _ _ _ _ _ _ _ _ _ hh => by cases hh
  | k + 1 => fun h v0 v1 v2 v3 v4 v5 lv l0 l1 l2 l3 l4 l5 hh => sX11_sit_68b  (sX11_sit_68  k) l0 l1 l2 l3 l4 l5 hh
def fX11_sit_44b (n : Nat) (r44 : ai_H → Nat → Int32 → Int32 → Int32 → Int32 → Int32 → Option (Int32 × ai_H)) (h : ai_H) (v0 : Nat) (v1 : Int32) (v2 : Int32) (v3 : Int32) (v4 : Int32) (v5 : Int32) : Option (Int32 × ai_H) :=
  if (7 : Int32) ≤ v5 then (
    fX11_sit_68 n bi_K h v0 v1 v2 v3 v4 (0 : Int32))
  else (
    (pR n h v0 11 88).bind fun x1 =>
    (wX 1 (fun x => x) n h x1 v5 (0 : Int32)).bind fun h2 =>
    r44 h2 v0 v1 v2 v3 v4 (v5 + 1))
theorem sX11_sit_44b {n : Nat} {r44 : ai_H → Nat → Int32 → Int32 → Int32 → Int32 → Int32 → Option (Int32 × ai_H)} {q : Int32 × ai_H} {h : ai_H} {v0 : Nat} {v1 : Int32} {v2 : Int32} {v3 : Int32} {v4 : Int32} {v5 : Int32} {lv : ai_L} (R44 : ∀ (h : ai_H) (v0 : Nat) (v1 : Int32) (v2 : Int32) (v3 : Int32) (v4 : Int32) (v5 : Int32) (lv : ai_L), ai_ld 0 lv = some (.ref v0) → ai_ld 1 lv = some (.int v1) → ai_ld 2 lv = some (.int v2) → ai_ld 3 lv = some (.int v3) → ai_ld 4 lv = some (.int v4) → ai_ld 5 lv = some (.int v5) → r44 h v0 v1 v2 v3 v4 v5 = some q → bi_go 8 tX11_sit n (fI n q) 44 lv [] h) (l0 : ai_ld 0 lv = some (.ref v0)) (l1 : ai_ld 1 lv = some (.int v1)) (l2 : ai_ld 2 lv = some (.int v2)) (l3 : ai_ld 3 lv = some (.int v3)) (l4 : ai_ld 4 lv = some (.int v4)) (l5 : ai_ld 5 lv = some (.int v5)) (hh : fX11_sit_44b n r44 h v0 v1 v2 v3 v4 v5 = some q) : bi_go 8 tX11_sit n (fI n q) 44 lv [] h := by
  unfold fX11_sit_44b at hh
  refine go_il (pc := 44) rfl l5 ?_
  refine go_pi (pc := 46) rfl ?_
  refine bi_ite hh (fun hc hh => ?_) (fun hc hh => ?_)
  · refine go_cmpgeT (pc := 48) rfl hc ?_
    refine go_pi (pc := 65) rfl ?_
    refine go_is (pc := 66) rfl ?_
    exact sX11_sit_68  _ _ _ _ _ _ _ _ _ (bi_k1 l0 rfl rfl) (bi_k1 l1 rfl rfl) (bi_k1 l2 rfl rfl) (bi_k1 l3 rfl rfl) (bi_k1 l4 rfl rfl) bi_e1 hh
  · refine go_cmpgeF (pc := 48) rfl hc ?_
    refine go_al (pc := 51) rfl l0 ?_
    obtain ⟨x1, ex1, hh⟩ := bi_bd hh
    refine go_gfR (pc := 52) rfl ex1 ?_
    refine go_il (pc := 55) rfl l5 ?_
    refine go_pi (pc := 57) rfl ?_
    obtain ⟨h2, eh2, hh⟩ := bi_bd hh
    refine go_iast (pc := 58) rfl eh2 ?_
    refine go_inc (pc := 59) rfl l5 ?_
    refine go_goto (pc := 62) rfl ?_
    exact R44 _ _ _ _ _ _ _ _ (bi_k1 l0 rfl rfl) (bi_k1 l1 rfl rfl) (bi_k1 l2 rfl rfl) (bi_k1 l3 rfl rfl) (bi_k1 l4 rfl rfl) bi_e1 hh
def fX11_sit_44 (n : Nat) : Nat → ai_H → Nat → Int32 → Int32 → Int32 → Int32 → Int32 → Option (Int32 × ai_H)
  | 0 => fun _ _ _ _ _ _ _ => none
  | k + 1 => fun h v0 v1 v2 v3 v4 v5 => fX11_sit_44b n (fX11_sit_44 n k) h v0 v1 v2 v3 v4 v5
theorem sX11_sit_44 {n : Nat} {q : Int32 × ai_H} : ∀ (k : Nat) (h : ai_H) (v0 : Nat) (v1 : Int32) (v2 : Int32) (v3 : Int32) (v4 : Int32) (v5 : Int32) (lv : ai_L), ai_ld 0 lv = some (.ref v0) → ai_ld 1 lv = some (.int v1) → ai_ld 2 lv = some (.int v2) → ai_ld 3 lv = some (.int v3) → ai_ld 4 lv = some (.int v4) → ai_ld 5 lv = some (.int v5) → fX11_sit_44 n k h v0 v1 v2 v3 v4 v5 = some q → bi_go 8 tX11_sit n (fI n q) 44 lv [] h
  | 0 => fun _ _ _ _ _ _ _ _ _ _ _ _ _ _ hh => by cases hh
  | k + 1 => fun h v0 v1 v2 v3 v4 v5 lv l0 l1 l2 l3 l4 l5 hh => sX11_sit_44b  (sX11_sit_44  k) l0 l1 l2 l3 l4 l5 hh
def fX11_sit (n : Nat) (h : ai_H) (a0 : Nat) (a1 : Int32) (a2 : Int32) (a3 : Int32) : Option (Int32 × ai_H) :=
  (kO n h a0 11).bind fun _ =>
  (sF n h a0 11 2 (.int) (.int (0 : Int32))).bind fun h1 =>
  (fX11_isWalker n h1 a0 a1).bind fun q2 =>
  if q2.1 = 0 then (
    some ((-1 : Int32), q2.2))
  else (
    (fX11_isIn n q2.2 a2 (1 : Int32) (60 : Int32)).bind fun q3 =>
    if q3.1 = 0 then (
      some ((-1 : Int32), q3.2))
    else (
      (fX11_isIn n q3.2 a3 (0 : Int32) (1 : Int32)).bind fun q4 =>
      if ¬ q4.1 = 0 then (
        (fX11_legsBits n q4.2 a0 a1).bind fun q5 =>
        fX11_sit_44 n bi_K q5.2 a0 a1 a2 a3 q5.1 (0 : Int32))
      else (
        some ((-1 : Int32), q4.2))))
theorem gX11_sit {n : Nat} {h : ai_H} {a0 : Nat} {a1 : Int32} {a2 : Int32} {a3 : Int32} {q : Int32 × ai_H} (hh : fX11_sit n h a0 a1 a2 a3 = some q) : kO n h a0 11 = some () := by
  obtain ⟨_, e, -⟩ := bi_bd hh
  exact e
theorem sX11_sit {n : Nat} {h : ai_H} {a0 : Nat} {a1 : Int32} {a2 : Int32} {a3 : Int32} {q : Int32 × ai_H} (hh : fX11_sit n h a0 a1 a2 a3 = some q) : bi_sp 9 257 [.ref a0, .int a1, .int a2, .int a3] h n (fI n q) := by
  refine bi_en (D := 8) (T := tX11_sit) (funext fun pc => rfl) rfl (Nat.le_of_ble_eq_true rfl) ?_
  unfold fX11_sit at hh
  obtain ⟨_, eO, hh⟩ := bi_bd hh
  refine go_al (pc := 0) rfl (rfl : ai_ld 0 (lv_args 0 [.ref a0, .int a1, .int a2, .int a3]) = some (.ref a0)) ?_
  refine go_pi (pc := 1) rfl ?_
  obtain ⟨h1, eh1, hh⟩ := bi_bd hh
  refine go_pf (pc := 2) rfl eh1 ?_
  refine go_al (pc := 5) rfl (rfl : ai_ld 0 (lv_args 0 [.ref a0, .int a1, .int a2, .int a3]) = some (.ref a0)) ?_
  refine go_il (pc := 6) rfl (rfl : ai_ld 1 (lv_args 0 [.ref a0, .int a1, .int a2, .int a3]) = some (.int a1)) ?_
  obtain ⟨q2, eq2, hh⟩ := bi_bd hh
  refine go_ivI (pc := 7) rfl rfl (gX11_isWalker eq2) (Nat.le_of_ble_eq_true rfl) (bi_up (sX11_isWalker eq2) (Nat.le_of_ble_eq_true rfl)) ?_
  refine bi_ite hh (fun hc hh => ?_) (fun hc hh => ?_)
  · refine go_ifeqT (pc := 10) rfl hc ?_
    refine go_pi (pc := 32) rfl ?_
    exact go_ri (pc := 33) rfl hh
  · refine go_ifeqF (pc := 10) rfl hc ?_
    refine go_il (pc := 13) rfl (rfl : ai_ld 2 (lv_args 0 [.ref a0, .int a1, .int a2, .int a3]) = some (.int a2)) ?_
    refine go_pi (pc := 14) rfl ?_
    refine go_pi (pc := 15) rfl ?_
    obtain ⟨q3, eq3, hh⟩ := bi_bd hh
    refine go_iSI (pc := 17) rfl (Nat.le_of_ble_eq_true rfl) rfl (Nat.le_of_ble_eq_true rfl) (bi_up (sX11_isIn eq3) (Nat.le_of_ble_eq_true rfl)) ?_
    refine bi_ite hh (fun hc hh => ?_) (fun hc hh => ?_)
    · refine go_ifeqT (pc := 20) rfl hc ?_
      refine go_pi (pc := 32) rfl ?_
      exact go_ri (pc := 33) rfl hh
    · refine go_ifeqF (pc := 20) rfl hc ?_
      refine go_il (pc := 23) rfl (rfl : ai_ld 3 (lv_args 0 [.ref a0, .int a1, .int a2, .int a3]) = some (.int a3)) ?_
      refine go_pi (pc := 24) rfl ?_
      refine go_pi (pc := 25) rfl ?_
      obtain ⟨q4, eq4, hh⟩ := bi_bd hh
      refine go_iSI (pc := 26) rfl (Nat.le_of_ble_eq_true rfl) rfl (Nat.le_of_ble_eq_true rfl) (bi_up (sX11_isIn eq4) (Nat.le_of_ble_eq_true rfl)) ?_
      refine bi_ite hh (fun hc hh => ?_) (fun hc hh => ?_)
      · refine go_ifneT (pc := 29) rfl hc ?_
        refine go_al (pc := 34) rfl (rfl : ai_ld 0 (lv_args 0 [.ref a0, .int a1, .int a2, .int a3]) = some (.ref a0)) ?_
        refine go_il (pc := 35) rfl (rfl : ai_ld 1 (lv_args 0 [.ref a0, .int a1, .int a2, .int a3]) = some (.int a1)) ?_
        obtain ⟨q5, eq5, hh⟩ := bi_bd hh
        refine go_ivI (pc := 36) rfl rfl (gX11_legsBits eq5) (Nat.le_of_ble_eq_true rfl) (bi_up (sX11_legsBits eq5) (Nat.le_of_ble_eq_true rfl)) ?_
        refine go_is (pc := 39) rfl ?_
        refine go_pi (pc := 41) rfl ?_
        refine go_is (pc := 42) rfl ?_
        exact sX11_sit_44  _ _ _ _ _ _ _ _ _ (bi_k1 (bi_k1 (rfl : ai_ld 0 (lv_args 0 [.ref a0, .int a1, .int a2, .int a3]) = some (.ref a0)) rfl rfl) rfl rfl) (bi_k1 (bi_k1 (rfl : ai_ld 1 (lv_args 0 [.ref a0, .int a1, .int a2, .int a3]) = some (.int a1)) rfl rfl) rfl rfl) (bi_k1 (bi_k1 (rfl : ai_ld 2 (lv_args 0 [.ref a0, .int a1, .int a2, .int a3]) = some (.int a2)) rfl rfl) rfl rfl) (bi_k1 (bi_k1 (rfl : ai_ld 3 (lv_args 0 [.ref a0, .int a1, .int a2, .int a3]) = some (.int a3)) rfl rfl) rfl rfl) (bi_k1 bi_e1 rfl rfl) bi_e1 hh
      · refine go_ifneF (pc := 29) rfl hc ?_
        refine go_pi (pc := 32) rfl ?_
        exact go_ri (pc := 33) rfl hh
