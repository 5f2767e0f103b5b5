/-! ===== methods as functions, part 17 ===== -/
def fX11_compares (n : Nat) (h : ai_H) (a0 : Int32) (a1 : Int64) (a2 : Int64) : Option (Int32 × ai_H) :=
  if a0 = 5 then (
    if 0 ≤ (lg_cmp a1 a2) then (
      some ((0 : Int32), h))
    else (
      some ((1 : Int32), h)))
  else (
    if a0 = 6 then (
      if 0 < (lg_cmp a1 a2) then (
        some ((0 : Int32), h))
      else (
        some ((1 : Int32), h)))
    else (
      if a0 = 7 then (
        if ¬ (lg_cmp a1 a2) = 0 then (
          some ((0 : Int32), h))
        else (
          some ((1 : Int32), h)))
      else (
        if a0 = 8 then (
          if (lg_cmp a1 a2) = 0 then (
            some ((0 : Int32), h))
          else (
            some ((1 : Int32), h)))
        else (
          if a0 = 9 then (
            if (lg_cmp a1 a2) < 0 then (
              some ((0 : Int32), h))
            else (
              some ((1 : Int32), h)))
          else (
            if (lg_cmp a1 a2) ≤ 0 then (
              some ((0 : Int32), h))
            else (
              some ((1 : Int32), h)))))))
theorem sX11_compares {n : Nat} {h : ai_H} {a0 : Int32} {a1 : Int64} {a2 : Int64} {q : Int32 × ai_H} (hh : fX11_compares n h a0 a1 a2 = some q) : bi_sp 1 182 [.int a0, .long a1, .long a2] h n (fI n q) := by
  refine bi_en (D := 0) (T := tX11_compares) (funext fun pc => rfl) rfl (Nat.le_of_ble_eq_true rfl) ?_
  unfold fX11_compares at hh
  refine go_il (pc := 0) rfl (rfl : ai_ld 0 (lv_args 0 [.int a0, .long a1, .long a2]) = some (.int a0)) ?_
  refine bi_ite hh (fun hc0 hh => ?_) (fun hc0 hh => ?_)
  · refine go_swc (t := 36) 5 (pc := 1) rfl hc0 (by decide) ?_
    refine go_ll (pc := 36) rfl (rfl : ai_ld 1 (lv_args 0 [.int a0, .long a1, .long a2]) = some (.long a1)) ?_
    refine go_ll (pc := 37) rfl (rfl : ai_ld 3 (lv_args 0 [.int a0, .long a1, .long a2]) = some (.long a2)) ?_
    refine go_lcmp (pc := 38) rfl ?_
    refine bi_ite hh (fun hc hh => ?_) (fun hc hh => ?_)
    · refine go_ifgeT (pc := 39) rfl hc ?_
      refine go_pi (pc := 46) rfl ?_
      exact go_rz (pc := 47) rfl bi_z0 hh
    · refine go_ifgeF (pc := 39) rfl hc ?_
      refine go_pi (pc := 42) rfl ?_
      refine go_goto (pc := 43) rfl ?_
      exact go_rz (pc := 47) rfl bi_z1 hh
  · skip
    refine bi_ite hh (fun hc1 hh => ?_) (fun hc1 hh => ?_)
    · refine go_swc (t := 48) 6 (pc := 1) rfl hc1 (by decide) ?_
      refine go_ll (pc := 48) rfl (rfl : ai_ld 1 (lv_args 0 [.int a0, .long a1, .long a2]) = some (.long a1)) ?_
      refine go_ll (pc := 49) rfl (rfl : ai_ld 3 (lv_args 0 [.int a0, .long a1, .long a2]) = some (.long a2)) ?_
      refine go_lcmp (pc := 50) rfl ?_
      refine bi_ite hh (fun hc hh => ?_) (fun hc hh => ?_)
      · refine go_ifgtT (pc := 51) rfl hc ?_
        refine go_pi (pc := 58) rfl ?_
        exact go_rz (pc := 59) rfl bi_z0 hh
      · refine go_ifgtF (pc := 51) rfl hc ?_
        refine go_pi (pc := 54) rfl ?_
        refine go_goto (pc := 55) rfl ?_
        exact go_rz (pc := 59) rfl bi_z1 hh
    · skip
      refine bi_ite hh (fun hc2 hh => ?_) (fun hc2 hh => ?_)
      · refine go_swc (t := 60) 7 (pc := 1) rfl hc2 (by decide) ?_
        refine go_ll (pc := 60) rfl (rfl : ai_ld 1 (lv_args 0 [.int a0, .long a1, .long a2]) = some (.long a1)) ?_
        refine go_ll (pc := 61) rfl (rfl : ai_ld 3 (lv_args 0 [.int a0, .long a1, .long a2]) = some (.long a2)) ?_
        refine go_lcmp (pc := 62) rfl ?_
        refine bi_ite hh (fun hc hh => ?_) (fun hc hh => ?_)
        · refine go_ifneT (pc := 63) rfl hc ?_
          refine go_pi (pc := 70) rfl ?_
          exact go_rz (pc := 71) rfl bi_z0 hh
        · refine go_ifneF (pc := 63) rfl hc ?_
          refine go_pi (pc := 66) rfl ?_
          refine go_goto (pc := 67) rfl ?_
          exact go_rz (pc := 71) rfl bi_z1 hh
      · skip
        refine bi_ite hh (fun hc3 hh => ?_) (fun hc3 hh => ?_)
        · refine go_swc (t := 72) 8 (pc := 1) rfl hc3 (by decide) ?_
          refine go_ll (pc := 72) rfl (rfl : ai_ld 1 (lv_args 0 [.int a0, .long a1, .long a2]) = some (.long a1)) ?_
          refine go_ll (pc := 73) rfl (rfl : ai_ld 3 (lv_args 0 [.int a0, .long a1, .long a2]) = some (.long a2)) ?_
          refine go_lcmp (pc := 74) rfl ?_
          refine bi_ite hh (fun hc hh => ?_) (fun hc hh => ?_)
          · refine go_ifeqT (pc := 75) rfl hc ?_
            refine go_pi (pc := 82) rfl ?_
            exact go_rz (pc := 83) rfl bi_z0 hh
          · refine go_ifeqF (pc := 75) rfl hc ?_
            refine go_pi (pc := 78) rfl ?_
            refine go_goto (pc := 79) rfl ?_
            exact go_rz (pc := 83) rfl bi_z1 hh
        · skip
          refine bi_ite hh (fun hc4 hh => ?_) (fun hc4 hh => ?_)
          · refine go_swc (t := 84) 9 (pc := 1) rfl hc4 (by decide) ?_
            refine go_ll (pc := 84) rfl (rfl : ai_ld 1 (lv_args 0 [.int a0, .long a1, .long a2]) = some (.long a1)) ?_
            refine go_ll (pc := 85) rfl (rfl : ai_ld 3 (lv_args 0 [.int a0, .long a1, .long a2]) = some (.long a2)) ?_
            refine go_lcmp (pc := 86) rfl ?_
            refine bi_ite hh (fun hc hh => ?_) (fun hc hh => ?_)
            · refine go_ifltT (pc := 87) rfl hc ?_
              refine go_pi (pc := 94) rfl ?_
              exact go_rz (pc := 95) rfl bi_z0 hh
            · refine go_ifltF (pc := 87) rfl hc ?_
              refine go_pi (pc := 90) rfl ?_
              refine go_goto (pc := 91) rfl ?_
              exact go_rz (pc := 95) rfl bi_z1 hh
          · skip
            refine go_swd (pc := 1) rfl (fun i hi => match i, hi with | 0, _ => Or.inr (lv_neT hc0 (by decide)) | 1, _ => Or.inr (lv_neT hc1 (by decide)) | 2, _ => Or.inr (lv_neT hc2 (by decide)) | 3, _ => Or.inr (lv_neT hc3 (by decide)) | 4, _ => Or.inr (lv_neT hc4 (by decide)) | i + 5, hi => absurd hi (Nat.not_lt.mpr (Nat.le_add_left _ _))) ?_
            refine go_ll (pc := 96) rfl (rfl : ai_ld 1 (lv_args 0 [.int a0, .long a1, .long a2]) = some (.long a1)) ?_
            refine go_ll (pc := 97) rfl (rfl : ai_ld 3 (lv_args 0 [.int a0, .long a1, .long a2]) = some (.long a2)) ?_
            refine go_lcmp (pc := 98) rfl ?_
            refine bi_ite hh (fun hc hh => ?_) (fun hc hh => ?_)
            · refine go_ifleT (pc := 99) rfl hc ?_
              refine go_pi (pc := 106) rfl ?_
              exact go_rz (pc := 107) rfl bi_z0 hh
            · refine go_ifleF (pc := 99) rfl hc ?_
              refine go_pi (pc := 102) rfl ?_
              refine go_goto (pc := 103) rfl ?_
              exact go_rz (pc := 107) rfl bi_z1 hh
def fX11_times_69 (n : Nat) (h : ai_H) (v0 : Nat) (v1 : Int64) (v3 : Int64) (s0 : Int32) (s1 : Nat) : Option (Int64 × ai_H) :=
  (sF n h s1 11 59 (.boolean) (.int s0)).bind fun h1 =>
  (pI n h1 v0 11 59).bind fun x2 =>
  if x2 = 0 then (
    some (v1 * v3, h1))
  else (
    some ((0 : Int64), h1))
theorem sX11_times_69 {n : Nat} {q : Int64 × ai_H} {h : ai_H} {v0 : Nat} {v1 : Int64} {v3 : Int64} {s0 : Int32} {s1 : Nat} {lv : ai_L} (l0 : ai_ld 0 lv = some (.ref v0)) (l1 : ai_ld 1 lv = some (.long v1)) (l3 : ai_ld 3 lv = some (.long v3)) (hh : fX11_times_69 n h v0 v1 v3 s0 s1 = some q) : bi_go 0 tX11_times n (fJ n q) 69 lv [.int s0, .ref s1] h := by
  unfold fX11_times_69 at hh
  obtain ⟨h1, eh1, hh⟩ := bi_bd hh
  refine go_pf (pc := 69) rfl eh1 ?_
  refine go_al (pc := 72) rfl l0 ?_
  obtain ⟨x2, ex2, hh⟩ := bi_bd hh
  refine go_gfI (pc := 73) rfl ex2 ?_
  refine bi_ite hh (fun hc hh => ?_) (fun hc hh => ?_)
  · refine go_ifeqT (pc := 76) rfl hc ?_
    refine go_ll (pc := 83) rfl l1 ?_
    refine go_ll (pc := 84) rfl l3 ?_
    refine go_lmul (pc := 85) rfl ?_
    exact go_rl (pc := 86) rfl hh
  · refine go_ifeqF (pc := 76) rfl hc ?_
    refine go_pl (pc := 79) rfl ?_
    refine go_goto (pc := 80) rfl ?_
    exact go_rl (pc := 86) rfl hh
def fX11_times_64 (n : Nat) (h : ai_H) (v0 : Nat) (v1 : Int64) (v3 : Int64) (s0 : Nat) : Option (Int64 × ai_H) :=
  fX11_times_69 n h v0 v1 v3 (1 : Int32) s0
theorem sX11_times_64 {n : Nat} {q : Int64 × ai_H} {h : ai_H} {v0 : Nat} {v1 : Int64} {v3 : Int64} {s0 : Nat} {lv : ai_L} (l0 : ai_ld 0 lv = some (.ref v0)) (l1 : ai_ld 1 lv = some (.long v1)) (l3 : ai_ld 3 lv = some (.long v3)) (hh : fX11_times_64 n h v0 v1 v3 s0 = some q) : bi_go 0 tX11_times n (fJ n q) 64 lv [.ref s0] h := by
  unfold fX11_times_64 at hh
  refine go_pi (pc := 64) rfl ?_
  refine go_goto (pc := 65) rfl ?_
  exact sX11_times_69  l0 l1 l3 hh
def fX11_times_49 (n : Nat) (h : ai_H) (v0 : Nat) (v1 : Int64) (v3 : Int64) (s0 : Int32) : Option (Int64 × ai_H) :=
  (pI n h v0 11 59).bind fun x1 =>
  if ¬ x1 = 0 then (
    fX11_times_64 n h v0 v1 v3 v0)
  else (
    if s0 = 0 then (
      fX11_times_69 n h v0 v1 v3 (0 : Int32) v0)
    else (
      fX11_times_64 n h v0 v1 v3 v0))
theorem sX11_times_49 {n : Nat} {q : Int64 × ai_H} {h : ai_H} {v0 : Nat} {v1 : Int64} {v3 : Int64} {s0 : Int32} {lv : ai_L} (l0 : ai_ld 0 lv = some (.ref v0)) (l1 : ai_ld 1 lv = some (.long v1)) (l3 : ai_ld 3 lv = some (.long v3)) (hh : fX11_times_49 n h v0 v1 v3 s0 = some q) : bi_go 0 tX11_times n (fJ n q) 49 lv [.int s0] h := by
  unfold fX11_times_49 at hh
  refine go_is (pc := 49) rfl ?_
  refine go_al (pc := 51) rfl (bi_k1 l0 rfl rfl) ?_
  refine go_al (pc := 52) rfl (bi_k1 l0 rfl rfl) ?_
  obtain ⟨x1, ex1, hh⟩ := bi_bd hh
  refine go_gfI (pc := 53) rfl ex1 ?_
  refine bi_ite hh (fun hc hh => ?_) (fun hc hh => ?_)
  · refine go_ifneT (pc := 56) rfl hc ?_
    exact sX11_times_64  (bi_k1 l0 rfl rfl) (bi_k1L l1 rfl rfl) (bi_k1L l3 rfl rfl) hh
  · refine go_ifneF (pc := 56) rfl hc ?_
    refine go_il (pc := 59) rfl bi_e1 ?_
    refine bi_ite hh (fun hc hh => ?_) (fun hc hh => ?_)
    · refine go_ifeqT (pc := 61) rfl hc ?_
      refine go_pi (pc := 68) rfl ?_
      exact sX11_times_69  (bi_k1 l0 rfl rfl) (bi_k1L l1 rfl rfl) (bi_k1L l3 rfl rfl) hh
    · refine go_ifeqF (pc := 61) rfl hc ?_
      exact sX11_times_64  (bi_k1 l0 rfl rfl) (bi_k1L l1 rfl rfl) (bi_k1L l3 rfl rfl) hh
def fX11_times_48 (n : Nat) (h : ai_H) (v0 : Nat) (v1 : Int64) (v3 : Int64) : Option (Int64 × ai_H) :=
  fX11_times_49 n h v0 v1 v3 (0 : Int32)
theorem sX11_times_48 {n : Nat} {q : Int64 × ai_H} {h : ai_H} {v0 : Nat} {v1 : Int64} {v3 : Int64} {lv : ai_L} (l0 : ai_ld 0 lv = some (.ref v0)) (l1 : ai_ld 1 lv = some (.long v1)) (l3 : ai_ld 3 lv = some (.long v3)) (hh : fX11_times_48 n h v0 v1 v3 = some q) : bi_go 0 tX11_times n (fJ n q) 48 lv [] h := by
  unfold fX11_times_48 at hh
  refine go_pi (pc := 48) rfl ?_
  exact sX11_times_49  l0 l1 l3 hh
def fX11_times_39 (n : Nat) (h : ai_H) (v0 : Nat) (v1 : Int64) (v3 : Int64) (s0 : Int64) (s1 : Int64) (s2 : Int64) : Option (Int64 × ai_H) :=
  (dJ s1 s0).bind fun x1 =>
  if (lg_cmp s2 x1) ≤ 0 then (
    fX11_times_48 n h v0 v1 v3)
  else (
    fX11_times_49 n h v0 v1 v3 (1 : Int32))
theorem sX11_times_39 {n : Nat} {q : Int64 × ai_H} {h : ai_H} {v0 : Nat} {v1 : Int64} {v3 : Int64} {s0 : Int64} {s1 : Int64} {s2 : Int64} {lv : ai_L} (l0 : ai_ld 0 lv = some (.ref v0)) (l1 : ai_ld 1 lv = some (.long v1)) (l3 : ai_ld 3 lv = some (.long v3)) (hh : fX11_times_39 n h v0 v1 v3 s0 s1 s2 = some q) : bi_go 0 tX11_times n (fJ n q) 39 lv [.long s0, .long s1, .long s2] h := by
  unfold fX11_times_39 at hh
  obtain ⟨x1, ex1, hh⟩ := bi_bd hh
  refine go_ldiv (pc := 39) rfl ex1 ?_
  refine go_lcmp (pc := 40) rfl ?_
  refine bi_ite hh (fun hc hh => ?_) (fun hc hh => ?_)
  · refine go_ifleT (pc := 41) rfl hc ?_
    exact sX11_times_48  l0 l1 l3 hh
  · refine go_ifleF (pc := 41) rfl hc ?_
    refine go_pi (pc := 44) rfl ?_
    refine go_goto (pc := 45) rfl ?_
    exact sX11_times_49  l0 l1 l3 hh
def fX11_times_24 (n : Nat) (h : ai_H) (v0 : Nat) (v1 : Int64) (v3 : Int64) (s0 : Int64) : Option (Int64 × ai_H) :=
  if 0 ≤ (lg_cmp v1 (0 : Int64)) then (
    fX11_times_39 n h v0 v1 v3 v1 (1000000000000 : Int64) s0)
  else (
    fX11_times_39 n h v0 v1 v3 (-v1) (1000000000000 : Int64) s0)
theorem sX11_times_24 {n : Nat} {q : Int64 × ai_H} {h : ai_H} {v0 : Nat} {v1 : Int64} {v3 : Int64} {s0 : Int64} {lv : ai_L} (l0 : ai_ld 0 lv = some (.ref v0)) (l1 : ai_ld 1 lv = some (.long v1)) (l3 : ai_ld 3 lv = some (.long v3)) (hh : fX11_times_24 n h v0 v1 v3 s0 = some q) : bi_go 0 tX11_times n (fJ n q) 24 lv [.long s0] h := by
  unfold fX11_times_24 at hh
  refine go_pl (pc := 24) rfl ?_
  refine go_ll (pc := 27) rfl l1 ?_
  refine go_pl (pc := 28) rfl ?_
  refine go_lcmp (pc := 29) rfl ?_
  refine bi_ite hh (fun hc hh => ?_) (fun hc hh => ?_)
  · refine go_ifgeT (pc := 30) rfl hc ?_
    refine go_ll (pc := 38) rfl l1 ?_
    exact sX11_times_39  l0 l1 l3 hh
  · refine go_ifgeF (pc := 30) rfl hc ?_
    refine go_ll (pc := 33) rfl l1 ?_
    refine go_lneg (pc := 34) rfl ?_
    refine go_goto (pc := 35) rfl ?_
    exact sX11_times_39  l0 l1 l3 hh
def fX11_times (n : Nat) (h : ai_H) (a0 : Nat) (a1 : Int64) (a2 : Int64) : Option (Int64 × ai_H) :=
  (kO n h a0 11).bind fun _ =>
  if (lg_cmp a1 (0 : Int64)) = 0 then (
    fX11_times_48 n h a0 a1 a2)
  else (
    if (lg_cmp a2 (0 : Int64)) = 0 then (
      fX11_times_48 n h a0 a1 a2)
    else (
      if 0 ≤ (lg_cmp a2 (0 : Int64)) then (
        fX11_times_24 n h a0 a1 a2 a2)
      else (
        fX11_times_24 n h a0 a1 a2 (-a2))))
theorem gX11_times {n : Nat} {h : ai_H} {a0 : Nat} {a1 : Int64} {a2 : Int64} {q : Int64 × ai_H} (hh : fX11_times n h a0 a1 a2 = some q) : kO n h a0 11 = some () := by
  obtain ⟨_, e, -⟩ := bi_bd hh
  exact e
theorem sX11_times {n : Nat} {h : ai_H} {a0 : Nat} {a1 : Int64} {a2 : Int64} {q : Int64 × ai_H} (hh : fX11_times n h a0 a1 a2 = some q) : bi_sp 1 183 [.ref a0, .long a1, .long a2] h n (fJ n q) := by
  refine bi_en (D := 0) (T := tX11_times) (funext fun pc => rfl) rfl (Nat.le_of_ble_eq_true rfl) ?_
  unfold fX11_times at hh
  obtain ⟨_, eO, hh⟩ := bi_bd hh
  refine go_ll (pc := 0) rfl (rfl : ai_ld 1 (lv_args 0 [.ref a0, .long a1, .long a2]) = some (.long a1)) ?_
  refine go_pl (pc := 1) rfl ?_
  refine go_lcmp (pc := 2) rfl ?_
  refine bi_ite hh (fun hc hh => ?_) (fun hc hh => ?_)
  · refine go_ifeqT (pc := 3) rfl hc ?_
    exact sX11_times_48  (rfl : ai_ld 0 (lv_args 0 [.ref a0, .long a1, .long a2]) = some (.ref a0)) (rfl : ai_ld 1 (lv_args 0 [.ref a0, .long a1, .long a2]) = some (.long a1)) (rfl : ai_ld 3 (lv_args 0 [.ref a0, .long a1, .long a2]) = some (.long a2)) hh
  · refine go_ifeqF (pc := 3) rfl hc ?_
    refine go_ll (pc := 6) rfl (rfl : ai_ld 3 (lv_args 0 [.ref a0, .long a1, .long a2]) = some (.long a2)) ?_
    refine go_pl (pc := 7) rfl ?_
    refine go_lcmp (pc := 8) rfl ?_
    refine bi_ite hh (fun hc hh => ?_) (fun hc hh => ?_)
    · refine go_ifeqT (pc := 9) rfl hc ?_
      exact sX11_times_48  (rfl : ai_ld 0 (lv_args 0 [.ref a0, .long a1, .long a2]) = some (.ref a0)) (rfl : ai_ld 1 (lv_args 0 [.ref a0, .long a1, .long a2]) = some (.long a1)) (rfl : ai_ld 3 (lv_args 0 [.ref a0, .long a1, .long a2]) = some (.long a2)) hh
    · refine go_ifeqF (pc := 9) rfl hc ?_
      refine go_ll (pc := 12) rfl (rfl : ai_ld 3 (lv_args 0 [.ref a0, .long a1, .long a2]) = some (.long a2)) ?_
      refine go_pl (pc := 13) rfl ?_
      refine go_lcmp (pc := 14) rfl ?_
      refine bi_ite hh (fun hc hh => ?_) (fun hc hh => ?_)
      · refine go_ifgeT (pc := 15) rfl hc ?_
        refine go_ll (pc := 23) rfl (rfl : ai_ld 3 (lv_args 0 [.ref a0, .long a1, .long a2]) = some (.long a2)) ?_
        exact sX11_times_24  (rfl : ai_ld 0 (lv_args 0 [.ref a0, .long a1, .long a2]) = some (.ref a0)) (rfl : ai_ld 1 (lv_args 0 [.ref a0, .long a1, .long a2]) = some (.long a1)) (rfl : ai_ld 3 (lv_args 0 [.ref a0, .long a1, .long a2]) = some (.long a2)) hh
      · refine go_ifgeF (pc := 15) rfl hc ?_
        refine go_ll (pc := 18) rfl (rfl : ai_ld 3 (lv_args 0 [.ref a0, .long a1, .long a2]) = some (.long a2)) ?_
        refine go_lneg (pc := 19) rfl ?_
        refine go_goto (pc := 20) rfl ?_
        exact sX11_times_24  (rfl : ai_ld 0 (lv_args 0 [.ref a0, .long a1, .long a2]) = some (.ref a0)) (rfl : ai_ld 1 (lv_args 0 [.ref a0, .long a1, .long a2]) = some (.long a1)) (rfl : ai_ld 3 (lv_args 0 [.ref a0, .long a1, .long a2]) = some (.long a2)) hh
def fX11_valueOf_188 (n : Nat) (h : ai_H) : Option (Int64 × ai_H) :=
  some ((1 : Int64), h)
theorem sX11_valueOf_188 {n : Nat} {q : Int64 × ai_H} {h : ai_H} {lv : ai_L} (hh : fX11_valueOf_188 n h = some q) : bi_go 1 tX11_valueOf n (fJ n q) 188 lv [] h := by
  unfold fX11_valueOf_188 at hh
  refine go_pl (pc := 188) rfl ?_
  refine go_goto (pc := 189) rfl ?_
  exact go_rl (pc := 193) rfl hh
def fX11_valueOf_240 (n : Nat) (h : ai_H) (v0 : Nat) (v2 : Int64) (v4 : Int64) (s0 : Int32) (s1 : Nat) : Option (Int64 × ai_H) :=
  (sF n h s1 11 59 (.boolean) (.int s0)).bind fun h1 =>
  (pI n h1 v0 11 59).bind fun x2 =>
  if x2 = 0 then (
    (dJ v2 v4).bind fun x3 =>
    some (x3, h1))
  else (
    some ((0 : Int64), h1))
theorem sX11_valueOf_240 {n : Nat} {q : Int64 × ai_H} {h : ai_H} {v0 : Nat} {v2 : Int64} {v4 : Int64} {s0 : Int32} {s1 : Nat} {lv : ai_L} (l0 : ai_ld 0 lv = some (.ref v0)) (l2 : ai_ld 2 lv = some (.long v2)) (l4 : ai_ld 4 lv = some (.long v4)) (hh : fX11_valueOf_240 n h v0 v2 v4 s0 s1 = some q) : bi_go 1 tX11_valueOf n (fJ n q) 240 lv [.int s0, .ref s1] h := by
  unfold fX11_valueOf_240 at hh
  obtain ⟨h1, eh1, hh⟩ := bi_bd hh
  refine go_pf (pc := 240) rfl eh1 ?_
  refine go_al (pc := 243) rfl l0 ?_
  obtain ⟨x2, ex2, hh⟩ := bi_bd hh
  refine go_gfI (pc := 244) rfl ex2 ?_
  refine bi_ite hh (fun hc hh => ?_) (fun hc hh => ?_)
  · refine go_ifeqT (pc := 247) rfl hc ?_
    refine go_ll (pc := 254) rfl l2 ?_
    refine go_ll (pc := 255) rfl l4 ?_
    obtain ⟨x3, ex3, hh⟩ := bi_bd hh
    refine go_ldiv (pc := 257) rfl ex3 ?_
    exact go_rl (pc := 258) rfl hh
  · refine go_ifeqF (pc := 247) rfl hc ?_
    refine go_pl (pc := 250) rfl ?_
    refine go_goto (pc := 251) rfl ?_
    exact go_rl (pc := 258) rfl hh
def fX11_valueOf_235 (n : Nat) (h : ai_H) (v0 : Nat) (v2 : Int64) (v4 : Int64) (s0 : Nat) : Option (Int64 × ai_H) :=
  fX11_valueOf_240 n h v0 v2 v4 (1 : Int32) s0
theorem sX11_valueOf_235 {n : Nat} {q : Int64 × ai_H} {h : ai_H} {v0 : Nat} {v2 : Int64} {v4 : Int64} {s0 : Nat} {lv : ai_L} (l0 : ai_ld 0 lv = some (.ref v0)) (l2 : ai_ld 2 lv = some (.long v2)) (l4 : ai_ld 4 lv = some (.long v4)) (hh : fX11_valueOf_235 n h v0 v2 v4 s0 = some q) : bi_go 1 tX11_valueOf n (fJ n q) 235 lv [.ref s0] h := by
  unfold fX11_valueOf_235 at hh
  refine go_pi (pc := 235) rfl ?_
  refine go_goto (pc := 236) rfl ?_
  exact sX11_valueOf_240  l0 l2 l4 hh
def fX11_valueOf_259 (n : Nat) (h : ai_H) (v0 : Nat) (v1 : Int32) (v2 : Int64) (v4 : Int64) : Option (Int64 × ai_H) :=
  (pR n h v0 11 46).bind fun x1 =>
  (gX 1 n h x1 v1).bind fun x2 =>
  (fX11_compares n h x2 v2 v4).bind fun q3 =>
  if q3.1 = 0 then (
    some ((0 : Int64), q3.2))
  else (
    some ((1 : Int64), q3.2))
theorem sX11_valueOf_259 {n : Nat} {q : Int64 × ai_H} {h : ai_H} {v0 : Nat} {v1 : Int32} {v2 : Int64} {v4 : Int64} {lv : ai_L} (l0 : ai_ld 0 lv = some (.ref v0)) (l1 : ai_ld 1 lv = some (.int v1)) (l2 : ai_ld 2 lv = some (.long v2)) (l4 : ai_ld 4 lv = some (.long v4)) (hh : fX11_valueOf_259 n h v0 v1 v2 v4 = some q) : bi_go 1 tX11_valueOf n (fJ n q) 259 lv [] h := by
  unfold fX11_valueOf_259 at hh
  refine go_al (pc := 259) rfl l0 ?_
  obtain ⟨x1, ex1, hh⟩ := bi_bd hh
  refine go_gfR (pc := 260) rfl ex1 ?_
  refine go_il (pc := 263) rfl l1 ?_
  obtain ⟨x2, ex2, hh⟩ := bi_bd hh
  refine go_iald (pc := 264) rfl ex2 ?_
  refine go_ll (pc := 265) rfl l2 ?_
  refine go_ll (pc := 266) rfl l4 ?_
  obtain ⟨q3, eq3, hh⟩ := bi_bd hh
  refine go_iSI (pc := 268) rfl (Nat.le_of_ble_eq_true rfl) rfl (Nat.le_of_ble_eq_true rfl) (bi_up (sX11_compares eq3) (Nat.le_of_ble_eq_true rfl)) ?_
  refine bi_ite hh (fun hc hh => ?_) (fun hc hh => ?_)
  · refine go_ifeqT (pc := 271) rfl hc ?_
    refine go_pl (pc := 278) rfl ?_
    exact go_rl (pc := 279) rfl hh
  · refine go_ifeqF (pc := 271) rfl hc ?_
    refine go_pl (pc := 274) rfl ?_
    refine go_goto (pc := 275) rfl ?_
    exact go_rl (pc := 279) rfl hh
def fX11_valueOf (n : Nat) (h : ai_H) (a0 : Nat) (a1 : Int32) : Option (Int64 × ai_H) :=
  (kO n h a0 11).bind fun _ =>
  (pR n h a0 11 46).bind fun x1 =>
  (gX 1 n h x1 a1).bind fun x2 =>
  if ¬ x2 = 0 then (
    (pR n h a0 11 46).bind fun x3 =>
    (gX 1 n h x3 a1).bind fun x4 =>
    if ¬ x4 = (1 : Int32) then (
      (pR n h a0 11 58).bind fun x5 =>
      (pR n h a0 11 47).bind fun x6 =>
      (gX 1 n h x6 a1).bind fun x7 =>
      (gJ n h x5 x7).bind fun x8 =>
      (pR n h a0 11 46).bind fun x9 =>
      (gX 1 n h x9 a1).bind fun x10 =>
      if ¬ x10 = (2 : Int32) then (
        (pR n h a0 11 58).bind fun x11 =>
        (pR n h a0 11 48).bind fun x12 =>
        (gX 1 n h x12 a1).bind fun x13 =>
        (gJ n h x11 x13).bind fun x14 =>
        (pR n h a0 11 46).bind fun x15 =>
        (gX 1 n h x15 a1).bind fun x16 =>
        if x16 = 3 then (
          if (lg_cmp x8 (0 : Int64)) = 0 then (
            some ((0 : Int64), h))
          else (
            if (lg_cmp x14 (0 : Int64)) = 0 then (
              some ((0 : Int64), h))
            else (
              some ((1 : Int64), h))))
        else (
          if x16 = 4 then (
            if ¬ (lg_cmp x8 (0 : Int64)) = 0 then (
              fX11_valueOf_188 n h)
            else (
              if (lg_cmp x14 (0 : Int64)) = 0 then (
                some ((0 : Int64), h))
              else (
                fX11_valueOf_188 n h)))
          else (
            if x16 = 11 then (
              (fX11_bounded n h a0 (x8 + x14)).bind fun q17 =>
              some (q17.1, q17.2))
            else (
              if x16 = 12 then (
                (fX11_bounded n h a0 (x8 - x14)).bind fun q18 =>
                some (q18.1, q18.2))
              else (
                if x16 = 13 then (
                  (fX11_times n h a0 x8 x14).bind fun q19 =>
                  some (q19.1, q19.2))
                else (
                  if x16 = 14 then (
                    (pI n h a0 11 59).bind fun x20 =>
                    if ¬ x20 = 0 then (
                      fX11_valueOf_235 n h a0 x8 x14 a0)
                    else (
                      if ¬ (lg_cmp x14 (0 : Int64)) = 0 then (
                        fX11_valueOf_240 n h a0 x8 x14 (0 : Int32) a0)
                      else (
                        fX11_valueOf_235 n h a0 x8 x14 a0)))
                  else (
                    fX11_valueOf_259 n h a0 a1 x8 x14)))))))
      else (
        if ¬ (lg_cmp x8 (0 : Int64)) = 0 then (
          some ((0 : Int64), h))
        else (
          some ((1 : Int64), h))))
    else (
      (pR n h a0 11 57).bind fun x21 =>
      (pR n h a0 11 47).bind fun x22 =>
      (gX 1 n h x22 a1).bind fun x23 =>
      (gJ n h x21 x23).bind fun x24 =>
      some (x24, h)))
  else (
    (pR n h a0 11 47).bind fun x25 =>
    (gX 1 n h x25 a1).bind fun x26 =>
    some (x26.toInt64, h))
theorem gX11_valueOf {n : Nat} {h : ai_H} {a0 : Nat} {a1 : Int32} {q : Int64 × ai_H} (hh : fX11_valueOf n h a0 a1 = some q) : kO n h a0 11 = some () := by
  obtain ⟨_, e, -⟩ := bi_bd hh
  exact e
theorem sX11_valueOf {n : Nat} {h : ai_H} {a0 : Nat} {a1 : Int32} {q : Int64 × ai_H} (hh : fX11_valueOf n h a0 a1 = some q) : bi_sp 2 184 [.ref a0, .int a1] h n (fJ n q) := by
  refine bi_en (D := 1) (T := tX11_valueOf) (funext fun pc => rfl) rfl (Nat.le_of_ble_eq_true rfl) ?_
  unfold fX11_valueOf at hh
  obtain ⟨_, eO, hh⟩ := bi_bd hh
  refine go_al (pc := 0) rfl (rfl : ai_ld 0 (lv_args 0 [.ref a0, .int a1]) = some (.ref a0)) ?_
  obtain ⟨x1, ex1, hh⟩ := bi_bd hh
  refine go_gfR (pc := 1) rfl ex1 ?_
  refine go_il (pc := 4) rfl (rfl : ai_ld 1 (lv_args 0 [.ref a0, .int a1]) = some (.int a1)) ?_
  obtain ⟨x2, ex2, hh⟩ := bi_bd hh
  refine go_iald (pc := 5) rfl ex2 ?_
  refine bi_ite hh (fun hc hh => ?_) (fun hc hh => ?_)
  · refine go_ifneT (pc := 6) rfl hc ?_
    refine go_al (pc := 17) rfl (rfl : ai_ld 0 (lv_args 0 [.ref a0, .int a1]) = some (.ref a0)) ?_
    obtain ⟨x3, ex3, hh⟩ := bi_bd hh
    refine go_gfR (pc := 18) rfl ex3 ?_
    refine go_il (pc := 21) rfl (rfl : ai_ld 1 (lv_args 0 [.ref a0, .int a1]) = some (.int a1)) ?_
    obtain ⟨x4, ex4, hh⟩ := bi_bd hh
    refine go_iald (pc := 22) rfl ex4 ?_
    refine go_pi (pc := 23) rfl ?_
    refine bi_ite hh (fun hc hh => ?_) (fun hc hh => ?_)
    · refine go_cmpneT (pc := 24) rfl hc ?_
      refine go_al (pc := 39) rfl (rfl : ai_ld 0 (lv_args 0 [.ref a0, .int a1]) = some (.ref a0)) ?_
      obtain ⟨x5, ex5, hh⟩ := bi_bd hh
      refine go_gfR (pc := 40) rfl ex5 ?_
      refine go_al (pc := 43) rfl (rfl : ai_ld 0 (lv_args 0 [.ref a0, .int a1]) = some (.ref a0)) ?_
      obtain ⟨x6, ex6, hh⟩ := bi_bd hh
      refine go_gfR (pc := 44) rfl ex6 ?_
      refine go_il (pc := 47) rfl (rfl : ai_ld 1 (lv_args 0 [.ref a0, .int a1]) = some (.int a1)) ?_
      obtain ⟨x7, ex7, hh⟩ := bi_bd hh
      refine go_iald (pc := 48) rfl ex7 ?_
      obtain ⟨x8, ex8, hh⟩ := bi_bd hh
      refine go_lald (pc := 49) rfl ex8 ?_
      refine go_lst (pc := 50) rfl ?_
      refine go_al (pc := 51) rfl (bi_k2 (rfl : ai_ld 0 (lv_args 0 [.ref a0, .int a1]) = some (.ref a0)) rfl rfl rfl) ?_
      obtain ⟨x9, ex9, hh⟩ := bi_bd hh
      refine go_gfR (pc := 52) rfl ex9 ?_
      refine go_il (pc := 55) rfl (bi_k2 (rfl : ai_ld 1 (lv_args 0 [.ref a0, .int a1]) = some (.int a1)) rfl rfl rfl) ?_
      obtain ⟨x10, ex10, hh⟩ := bi_bd hh
      refine go_iald (pc := 56) rfl ex10 ?_
      refine go_pi (pc := 57) rfl ?_
      refine bi_ite hh (fun hc hh => ?_) (fun hc hh => ?_)
      · refine go_cmpneT (pc := 58) rfl hc ?_
        refine go_al (pc := 73) rfl (bi_k2 (rfl : ai_ld 0 (lv_args 0 [.ref a0, .int a1]) = some (.ref a0)) rfl rfl rfl) ?_
        obtain ⟨x11, ex11, hh⟩ := bi_bd hh
        refine go_gfR (pc := 74) rfl ex11 ?_
        refine go_al (pc := 77) rfl (bi_k2 (rfl : ai_ld 0 (lv_args 0 [.ref a0, .int a1]) = some (.ref a0)) rfl rfl rfl) ?_
        obtain ⟨x12, ex12, hh⟩ := bi_bd hh
        refine go_gfR (pc := 78) rfl ex12 ?_
        refine go_il (pc := 81) rfl (bi_k2 (rfl : ai_ld 1 (lv_args 0 [.ref a0, .int a1]) = some (.int a1)) rfl rfl rfl) ?_
        obtain ⟨x13, ex13, hh⟩ := bi_bd hh
        refine go_iald (pc := 82) rfl ex13 ?_
        obtain ⟨x14, ex14, hh⟩ := bi_bd hh
        refine go_lald (pc := 83) rfl ex14 ?_
        refine go_lst (pc := 84) rfl ?_
        refine go_al (pc := 86) rfl (bi_k2 (bi_k2 (rfl : ai_ld 0 (lv_args 0 [.ref a0, .int a1]) = some (.ref a0)) rfl rfl rfl) rfl rfl rfl) ?_
        obtain ⟨x15, ex15, hh⟩ := bi_bd hh
        refine go_gfR (pc := 87) rfl ex15 ?_
        refine go_il (pc := 90) rfl (bi_k2 (bi_k2 (rfl : ai_ld 1 (lv_args 0 [.ref a0, .int a1]) = some (.int a1)) rfl rfl rfl) rfl rfl rfl) ?_
        obtain ⟨x16, ex16, hh⟩ := bi_bd hh
        refine go_iald (pc := 91) rfl ex16 ?_
        refine bi_ite hh (fun hc0 hh => ?_) (fun hc0 hh => ?_)
        · refine go_swc (t := 156) 3 (pc := 92) rfl hc0 (by decide) ?_
          refine go_ll (pc := 156) rfl (bi_k2L bi_e2 rfl rfl rfl) ?_
          refine go_pl (pc := 157) rfl ?_
          refine go_lcmp (pc := 158) rfl ?_
          refine bi_ite hh (fun hc hh => ?_) (fun hc hh => ?_)
          · refine go_ifeqT (pc := 159) rfl hc ?_
            refine go_pl (pc := 173) rfl ?_
            exact go_rl (pc := 174) rfl hh
          · refine go_ifeqF (pc := 159) rfl hc ?_
            refine go_ll (pc := 162) rfl bi_e2 ?_
            refine go_pl (pc := 164) rfl ?_
            refine go_lcmp (pc := 165) rfl ?_
            refine bi_ite hh (fun hc hh => ?_) (fun hc hh => ?_)
            · refine go_ifeqT (pc := 166) rfl hc ?_
              refine go_pl (pc := 173) rfl ?_
              exact go_rl (pc := 174) rfl hh
            · refine go_ifeqF (pc := 166) rfl hc ?_
              refine go_pl (pc := 169) rfl ?_
              refine go_goto (pc := 170) rfl ?_
              exact go_rl (pc := 174) rfl hh
        · skip
          refine bi_ite hh (fun hc1 hh => ?_) (fun hc1 hh => ?_)
          · refine go_swc (t := 175) 4 (pc := 92) rfl hc1 (by decide) ?_
            refine go_ll (pc := 175) rfl (bi_k2L bi_e2 rfl rfl rfl) ?_
            refine go_pl (pc := 176) rfl ?_
            refine go_lcmp (pc := 177) rfl ?_
            refine bi_ite hh (fun hc hh => ?_) (fun hc hh => ?_)
            · refine go_ifneT (pc := 178) rfl hc ?_
              exact sX11_valueOf_188   hh
            · refine go_ifneF (pc := 178) rfl hc ?_
              refine go_ll (pc := 181) rfl bi_e2 ?_
              refine go_pl (pc := 183) rfl ?_
              refine go_lcmp (pc := 184) rfl ?_
              refine bi_ite hh (fun hc hh => ?_) (fun hc hh => ?_)
              · refine go_ifeqT (pc := 185) rfl hc ?_
                refine go_pl (pc := 192) rfl ?_
                exact go_rl (pc := 193) rfl hh
              · refine go_ifeqF (pc := 185) rfl hc ?_
                exact sX11_valueOf_188   hh
          · skip
            refine bi_ite hh (fun hc8 hh => ?_) (fun hc8 hh => ?_)
            · refine go_swc (t := 194) 11 (pc := 92) rfl hc8 (by decide) ?_
              refine go_al (pc := 194) rfl (bi_k2 (bi_k2 (rfl : ai_ld 0 (lv_args 0 [.ref a0, .int a1]) = some (.ref a0)) rfl rfl rfl) rfl rfl rfl) ?_
              refine go_ll (pc := 195) rfl (bi_k2L bi_e2 rfl rfl rfl) ?_
              refine go_ll (pc := 196) rfl bi_e2 ?_
              refine go_ladd (pc := 198) rfl ?_
              obtain ⟨q17, eq17, hh⟩ := bi_bd hh
              refine go_ivJ (pc := 199) rfl rfl (gX11_bounded eq17) (Nat.le_of_ble_eq_true rfl) (bi_up (sX11_bounded eq17) (Nat.le_of_ble_eq_true rfl)) ?_
              exact go_rl (pc := 202) rfl hh
            · skip
              refine bi_ite hh (fun hc9 hh => ?_) (fun hc9 hh => ?_)
              · refine go_swc (t := 203) 12 (pc := 92) rfl hc9 (by decide) ?_
                refine go_al (pc := 203) rfl (bi_k2 (bi_k2 (rfl : ai_ld 0 (lv_args 0 [.ref a0, .int a1]) = some (.ref a0)) rfl rfl rfl) rfl rfl rfl) ?_
                refine go_ll (pc := 204) rfl (bi_k2L bi_e2 rfl rfl rfl) ?_
                refine go_ll (pc := 205) rfl bi_e2 ?_
                refine go_lsub (pc := 207) rfl ?_
                obtain ⟨q18, eq18, hh⟩ := bi_bd hh
                refine go_ivJ (pc := 208) rfl rfl (gX11_bounded eq18) (Nat.le_of_ble_eq_true rfl) (bi_up (sX11_bounded eq18) (Nat.le_of_ble_eq_true rfl)) ?_
                exact go_rl (pc := 211) rfl hh
              · skip
                refine bi_ite hh (fun hc10 hh => ?_) (fun hc10 hh => ?_)
                · refine go_swc (t := 212) 13 (pc := 92) rfl hc10 (by decide) ?_
                  refine go_al (pc := 212) rfl (bi_k2 (bi_k2 (rfl : ai_ld 0 (lv_args 0 [.ref a0, .int a1]) = some (.ref a0)) rfl rfl rfl) rfl rfl rfl) ?_
                  refine go_ll (pc := 213) rfl (bi_k2L bi_e2 rfl rfl rfl) ?_
                  refine go_ll (pc := 214) rfl bi_e2 ?_
                  obtain ⟨q19, eq19, hh⟩ := bi_bd hh
                  refine go_ivJ (pc := 216) rfl rfl (gX11_times eq19) (Nat.le_of_ble_eq_true rfl) (bi_up (sX11_times eq19) (Nat.le_of_ble_eq_true rfl)) ?_
                  exact go_rl (pc := 219) rfl hh
                · skip
                  refine bi_ite hh (fun hc11 hh => ?_) (fun hc11 hh => ?_)
                  · refine go_swc (t := 220) 14 (pc := 92) rfl hc11 (by decide) ?_
                    refine go_al (pc := 220) rfl (bi_k2 (bi_k2 (rfl : ai_ld 0 (lv_args 0 [.ref a0, .int a1]) = some (.ref a0)) rfl rfl rfl) rfl rfl rfl) ?_
                    refine go_al (pc := 221) rfl (bi_k2 (bi_k2 (rfl : ai_ld 0 (lv_args 0 [.ref a0, .int a1]) = some (.ref a0)) rfl rfl rfl) rfl rfl rfl) ?_
                    obtain ⟨x20, ex20, hh⟩ := bi_bd hh
                    refine go_gfI (pc := 222) rfl ex20 ?_
                    refine bi_ite hh (fun hc hh => ?_) (fun hc hh => ?_)
                    · refine go_ifneT (pc := 225) rfl hc ?_
                      exact sX11_valueOf_235  (bi_k2 (bi_k2 (rfl : ai_ld 0 (lv_args 0 [.ref a0, .int a1]) = some (.ref a0)) rfl rfl rfl) rfl rfl rfl) (bi_k2L bi_e2 rfl rfl rfl) bi_e2 hh
                    · refine go_ifneF (pc := 225) rfl hc ?_
                      refine go_ll (pc := 228) rfl bi_e2 ?_
                      refine go_pl (pc := 230) rfl ?_
                      refine go_lcmp (pc := 231) rfl ?_
                      refine bi_ite hh (fun hc hh => ?_) (fun hc hh => ?_)
                      · refine go_ifneT (pc := 232) rfl hc ?_
                        refine go_pi (pc := 239) rfl ?_
                        exact sX11_valueOf_240  (bi_k2 (bi_k2 (rfl : ai_ld 0 (lv_args 0 [.ref a0, .int a1]) = some (.ref a0)) rfl rfl rfl) rfl rfl rfl) (bi_k2L bi_e2 rfl rfl rfl) bi_e2 hh
                      · refine go_ifneF (pc := 232) rfl hc ?_
                        exact sX11_valueOf_235  (bi_k2 (bi_k2 (rfl : ai_ld 0 (lv_args 0 [.ref a0, .int a1]) = some (.ref a0)) rfl rfl rfl) rfl rfl rfl) (bi_k2L bi_e2 rfl rfl rfl) bi_e2 hh
                  · skip
                    refine go_swd (pc := 92) rfl (fun i hi => match i, hi with | 0, _ => Or.inr (lv_neT hc0 (by decide)) | 1, _ => Or.inr (lv_neT hc1 (by decide)) | 2, _ => Or.inl rfl | 3, _ => Or.inl rfl | 4, _ => Or.inl rfl | 5, _ => Or.inl rfl | 6, _ => Or.inl rfl | 7, _ => Or.inl rfl | 8, _ => Or.inr (lv_neT hc8 (by decide)) | 9, _ => Or.inr (lv_neT hc9 (by decide)) | 10, _ => Or.inr (lv_neT hc10 (by decide)) | 11, _ => Or.inr (lv_neT hc11 (by decide)) | i + 12, hi => absurd hi (Nat.not_lt.mpr (Nat.le_add_left _ _))) ?_
                    exact sX11_valueOf_259  (bi_k2 (bi_k2 (rfl : ai_ld 0 (lv_args 0 [.ref a0, .int a1]) = some (.ref a0)) rfl rfl rfl) rfl rfl rfl) (bi_k2 (bi_k2 (rfl : ai_ld 1 (lv_args 0 [.ref a0, .int a1]) = some (.int a1)) rfl rfl rfl) rfl rfl rfl) (bi_k2L bi_e2 rfl rfl rfl) bi_e2 hh
      · refine go_cmpneF (pc := 58) rfl hc ?_
        refine go_ll (pc := 61) rfl bi_e2 ?_
        refine go_pl (pc := 62) rfl ?_
        refine go_lcmp (pc := 63) rfl ?_
        refine bi_ite hh (fun hc hh => ?_) (fun hc hh => ?_)
        · refine go_ifneT (pc := 64) rfl hc ?_
          refine go_pl (pc := 71) rfl ?_
          exact go_rl (pc := 72) rfl hh
        · refine go_ifneF (pc := 64) rfl hc ?_
          refine go_pl (pc := 67) rfl ?_
          refine go_goto (pc := 68) rfl ?_
          exact go_rl (pc := 72) rfl hh
    · refine go_cmpneF (pc := 24) rfl hc ?_
      refine go_al (pc := 27) rfl (rfl : ai_ld 0 (lv_args 0 [.ref a0, .int a1]) = some (.ref a0)) ?_
      obtain ⟨x21, ex21, hh⟩ := bi_bd hh
      refine go_gfR (pc := 28) rfl ex21 ?_
      refine go_al (pc := 31) rfl (rfl : ai_ld 0 (lv_args 0 [.ref a0, .int a1]) = some (.ref a0)) ?_
      obtain ⟨x22, ex22, hh⟩ := bi_bd hh
      refine go_gfR (pc := 32) rfl ex22 ?_
      refine go_il (pc := 35) rfl (rfl : ai_ld 1 (lv_args 0 [.ref a0, .int a1]) = some (.int a1)) ?_
      obtain ⟨x23, ex23, hh⟩ := bi_bd hh
      refine go_iald (pc := 36) rfl ex23 ?_
      obtain ⟨x24, ex24, hh⟩ := bi_bd hh
      refine go_lald (pc := 37) rfl ex24 ?_
      exact go_rl (pc := 38) rfl hh
  · refine go_ifneF (pc := 6) rfl hc ?_
    refine go_al (pc := 9) rfl (rfl : ai_ld 0 (lv_args 0 [.ref a0, .int a1]) = some (.ref a0)) ?_
    obtain ⟨x25, ex25, hh⟩ := bi_bd hh
    refine go_gfR (pc := 10) rfl ex25 ?_
    refine go_il (pc := 13) rfl (rfl : ai_ld 1 (lv_args 0 [.ref a0, .int a1]) = some (.int a1)) ?_
    obtain ⟨x26, ex26, hh⟩ := bi_bd hh
    refine go_iald (pc := 14) rfl ex26 ?_
    refine go_i2l (pc := 15) rfl ?_
    exact go_rl (pc := 16) rfl hh
def fX11_layTried_43b (n : Nat) (r43 : ai_H → Nat → Int32 → Option (Unit × ai_H)) (h : ai_H) (v0 : Nat) (v1 : Int32) : Option (Unit × ai_H) :=
  if (9 : Int32) ≤ v1 then (
    (pR n h v0 11 65).bind fun x1 =>
    (pR n h v0 11 65).bind fun x2 =>
    (gX 1 n h x2 (0 : Int32)).bind fun x3 =>
    (wX 1 (fun x => x) n h x1 (1 : Int32) x3).bind fun h4 =>
    (pR n h4 v0 11 66).bind fun x5 =>
    (pR n h4 v0 11 66).bind fun x6 =>
    (gX 1 n h4 x6 (0 : Int32)).bind fun x7 =>
    (wX 1 (fun x => x) n h4 x5 (1 : Int32) x7).bind fun h8 =>
    (pR n h8 v0 11 67).bind fun x9 =>
    (pR n h8 v0 11 67).bind fun x10 =>
    (gX 1 n h8 x10 (0 : Int32)).bind fun x11 =>
    (wX 1 (fun x => x) n h8 x9 (1 : Int32) x11).bind fun h12 =>
    (fX11_plainTried n h12 v0).bind fun q13 =>
    some ((), q13.2))
  else (
    (pR n h v0 11 62).bind fun x14 =>
    (pR n h v0 11 62).bind fun x15 =>
    (gX 1 n h x15 v1).bind fun x16 =>
    (wX 1 (fun x => x) n h x14 ((9 : Int32) + v1) x16).bind fun h17 =>
    (pR n h17 v0 11 63).bind fun x18 =>
    (pR n h17 v0 11 63).bind fun x19 =>
    (gB n h17 x19 v1).bind fun x20 =>
    (wB n h17 x18 ((9 : Int32) + v1) x20).bind fun h21 =>
    (pR n h21 v0 11 64).bind fun x22 =>
    (pR n h21 v0 11 64).bind fun x23 =>
    (gX 1 n h21 x23 v1).bind fun x24 =>
    (wX 1 (fun x => x) n h21 x22 ((9 : Int32) + v1) x24).bind fun h25 =>
    r43 h25 v0 (v1 + 1))
theorem sX11_layTried_43b {n : Nat} {r43 : ai_H → Nat → Int32 → Option (Unit × ai_H)} {q : Unit × ai_H} {h : ai_H} {v0 : Nat} {v1 : Int32} {lv : ai_L} (R43 : ∀ (h : ai_H) (v0 : Nat) (v1 : Int32) (lv : ai_L), ai_ld 0 lv = some (.ref v0) → ai_ld 1 lv = some (.int v1) → r43 h v0 v1 = some q → bi_go 1 tX11_layTried n (fV n q) 43 lv [] h) (l0 : ai_ld 0 lv = some (.ref v0)) (l1 : ai_ld 1 lv = some (.int v1)) (hh : fX11_layTried_43b n r43 h v0 v1 = some q) : bi_go 1 tX11_layTried n (fV n q) 43 lv [] h := by
  unfold fX11_layTried_43b at hh
  refine go_il (pc := 43) rfl l1 ?_
  refine go_pi (pc := 44) rfl ?_
  refine bi_ite hh (fun hc hh => ?_) (fun hc hh => ?_)
  · refine go_cmpgeT (pc := 46) rfl hc ?_
    refine go_al (pc := 100) rfl l0 ?_
    obtain ⟨x1, ex1, hh⟩ := bi_bd hh
    refine go_gfR (pc := 101) rfl ex1 ?_
    refine go_pi (pc := 104) rfl ?_
    refine go_al (pc := 105) rfl l0 ?_
    obtain ⟨x2, ex2, hh⟩ := bi_bd hh
    refine go_gfR (pc := 106) rfl ex2 ?_
    refine go_pi (pc := 109) rfl ?_
    obtain ⟨x3, ex3, hh⟩ := bi_bd hh
    refine go_iald (pc := 110) rfl ex3 ?_
    obtain ⟨h4, eh4, hh⟩ := bi_bd hh
    refine go_iast (pc := 111) rfl eh4 ?_
    refine go_al (pc := 112) rfl l0 ?_
    obtain ⟨x5, ex5, hh⟩ := bi_bd hh
    refine go_gfR (pc := 113) rfl ex5 ?_
    refine go_pi (pc := 116) rfl ?_
    refine go_al (pc := 117) rfl l0 ?_
    obtain ⟨x6, ex6, hh⟩ := bi_bd hh
    refine go_gfR (pc := 118) rfl ex6 ?_
    refine go_pi (pc := 121) rfl ?_
    obtain ⟨x7, ex7, hh⟩ := bi_bd hh
    refine go_iald (pc := 122) rfl ex7 ?_
    obtain ⟨h8, eh8, hh⟩ := bi_bd hh
    refine go_iast (pc := 123) rfl eh8 ?_
    refine go_al (pc := 124) rfl l0 ?_
    obtain ⟨x9, ex9, hh⟩ := bi_bd hh
    refine go_gfR (pc := 125) rfl ex9 ?_
    refine go_pi (pc := 128) rfl ?_
    refine go_al (pc := 129) rfl l0 ?_
    obtain ⟨x10, ex10, hh⟩ := bi_bd hh
    refine go_gfR (pc := 130) rfl ex10 ?_
    refine go_pi (pc := 133) rfl ?_
    obtain ⟨x11, ex11, hh⟩ := bi_bd hh
    refine go_iald (pc := 134) rfl ex11 ?_
    obtain ⟨h12, eh12, hh⟩ := bi_bd hh
    refine go_iast (pc := 135) rfl eh12 ?_
    refine go_al (pc := 136) rfl l0 ?_
    obtain ⟨q13, eq13, hh⟩ := bi_bd hh
    refine go_ivV (pc := 137) rfl rfl (gX11_plainTried eq13) (Nat.le_of_ble_eq_true rfl) (bi_up (sX11_plainTried eq13) (Nat.le_of_ble_eq_true rfl)) ?_
    exact go_rv (pc := 140) rfl hh
  · refine go_cmpgeF (pc := 46) rfl hc ?_
    refine go_al (pc := 49) rfl l0 ?_
    obtain ⟨x14, ex14, hh⟩ := bi_bd hh
    refine go_gfR (pc := 50) rfl ex14 ?_
    refine go_pi (pc := 53) rfl ?_
    refine go_il (pc := 55) rfl l1 ?_
    refine go_iadd (pc := 56) rfl ?_
    refine go_al (pc := 57) rfl l0 ?_
    obtain ⟨x15, ex15, hh⟩ := bi_bd hh
    refine go_gfR (pc := 58) rfl ex15 ?_
    refine go_il (pc := 61) rfl l1 ?_
    obtain ⟨x16, ex16, hh⟩ := bi_bd hh
    refine go_iald (pc := 62) rfl ex16 ?_
    obtain ⟨h17, eh17, hh⟩ := bi_bd hh
    refine go_iast (pc := 63) rfl eh17 ?_
    refine go_al (pc := 64) rfl l0 ?_
    obtain ⟨x18, ex18, hh⟩ := bi_bd hh
    refine go_gfR (pc := 65) rfl ex18 ?_
    refine go_pi (pc := 68) rfl ?_
    refine go_il (pc := 70) rfl l1 ?_
    refine go_iadd (pc := 71) rfl ?_
    refine go_al (pc := 72) rfl l0 ?_
    obtain ⟨x19, ex19, hh⟩ := bi_bd hh
    refine go_gfR (pc := 73) rfl ex19 ?_
    refine go_il (pc := 76) rfl l1 ?_
    obtain ⟨x20, ex20, hh⟩ := bi_bd hh
    refine go_bald (pc := 77) rfl ex20 ?_
    obtain ⟨h21, eh21, hh⟩ := bi_bd hh
    refine go_bast (pc := 78) rfl eh21 ?_
    refine go_al (pc := 79) rfl l0 ?_
    obtain ⟨x22, ex22, hh⟩ := bi_bd hh
    refine go_gfR (pc := 80) rfl ex22 ?_
    refine go_pi (pc := 83) rfl ?_
    refine go_il (pc := 85) rfl l1 ?_
    refine go_iadd (pc := 86) rfl ?_
    refine go_al (pc := 87) rfl l0 ?_
    obtain ⟨x23, ex23, hh⟩ := bi_bd hh
    refine go_gfR (pc := 88) rfl ex23 ?_
    refine go_il (pc := 91) rfl l1 ?_
    obtain ⟨x24, ex24, hh⟩ := bi_bd hh
    refine go_iald (pc := 92) rfl ex24 ?_
    obtain ⟨h25, eh25, hh⟩ := bi_bd hh
    refine go_iast (pc := 93) rfl eh25 ?_
    refine go_inc (pc := 94) rfl l1 ?_
    refine go_goto (pc := 97) rfl ?_
    exact R43 _ _ _ _ (bi_k1 l0 rfl rfl) bi_e1 hh
def fX11_layTried_43 (n : Nat) : Nat → ai_H → Nat → Int32 → Option (Unit × ai_H)
  | 0 => fun _ _ _ => none
  | k + 1 => fun h v0 v1 => fX11_layTried_43b n (fX11_layTried_43 n k) h v0 v1
theorem sX11_layTried_43 {n : Nat} {q : Unit × ai_H} : ∀ (k : Nat) (h : ai_H) (v0 : Nat) (v1 : Int32) (lv : ai_L), ai_ld 0 lv = some (.ref v0) → ai_ld 1 lv = some (.int v1) → fX11_layTried_43 n k h v0 v1 = some q → bi_go 1 tX11_layTried n (fV n q) 43 lv [] h
  | 0 => fun _ _ _ _ _ _ hh => by cases hh
  | k + 1 => fun h v0 v1 lv l0 l1 hh => sX11_layTried_43b  (sX11_layTried_43  k) l0 l1 hh
def fX11_layTried_2b (n : Nat) (r2 : ai_H → Nat → Int32 → Option (Unit × ai_H)) (h : ai_H) (v0 : Nat) (v1 : Int32) : Option (Unit × ai_H) :=
  if (4 : Int32) ≤ v1 then (
    fX11_layTried_43 n bi_K h v0 (0 : Int32))
  else (
    (pR n h v0 11 60).bind fun x1 =>
    (pR n h v0 11 60).bind fun x2 =>
    (gX 1 n h x2 v1).bind fun x3 =>
    (wX 1 (fun x => x) n h x1 ((4 : Int32) + v1) x3).bind fun h4 =>
    (pR n h4 v0 11 61).bind fun x5 =>
    (pR n h4 v0 11 61).bind fun x6 =>
    (gX 1 n h4 x6 v1).bind fun x7 =>
    (wX 1 (fun x => x) n h4 x5 ((4 : Int32) + v1) x7).bind fun h8 =>
    r2 h8 v0 (v1 + 1))
theorem sX11_layTried_2b {n : Nat} {r2 : ai_H → Nat → Int32 → Option (Unit × ai_H)} {q : Unit × ai_H} {h : ai_H} {v0 : Nat} {v1 : Int32} {lv : ai_L} (R2 : ∀ (h : ai_H) (v0 : Nat) (v1 : Int32) (lv : ai_L), ai_ld 0 lv = some (.ref v0) → ai_ld 1 lv = some (.int v1) → r2 h v0 v1 = some q → bi_go 1 tX11_layTried n (fV n q) 2 lv [] h) (l0 : ai_ld 0 lv = some (.ref v0)) (l1 : ai_ld 1 lv = some (.int v1)) (hh : fX11_layTried_2b n r2 h v0 v1 = some q) : bi_go 1 tX11_layTried n (fV n q) 2 lv [] h := by
  unfold fX11_layTried_2b at hh
  refine go_il (pc := 2) rfl l1 ?_
  refine go_pi (pc := 3) rfl ?_
  refine bi_ite hh (fun hc hh => ?_) (fun hc hh => ?_)
  · refine go_cmpgeT (pc := 4) rfl hc ?_
    refine go_pi (pc := 41) rfl ?_
    refine go_is (pc := 42) rfl ?_
    exact sX11_layTried_43  _ _ _ _ _ (bi_k1 l0 rfl rfl) bi_e1 hh
  · refine go_cmpgeF (pc := 4) rfl hc ?_
    refine go_al (pc := 7) rfl l0 ?_
    obtain ⟨x1, ex1, hh⟩ := bi_bd hh
    refine go_gfR (pc := 8) rfl ex1 ?_
    refine go_pi (pc := 11) rfl ?_
    refine go_il (pc := 12) rfl l1 ?_
    refine go_iadd (pc := 13) rfl ?_
    refine go_al (pc := 14) rfl l0 ?_
    obtain ⟨x2, ex2, hh⟩ := bi_bd hh
    refine go_gfR (pc := 15) rfl ex2 ?_
    refine go_il (pc := 18) rfl l1 ?_
    obtain ⟨x3, ex3, hh⟩ := bi_bd hh
    refine go_iald (pc := 19) rfl ex3 ?_
    obtain ⟨h4, eh4, hh⟩ := bi_bd hh
    refine go_iast (pc := 20) rfl eh4 ?_
    refine go_al (pc := 21) rfl l0 ?_
    obtain ⟨x5, ex5, hh⟩ := bi_bd hh
    refine go_gfR (pc := 22) rfl ex5 ?_
    refine go_pi (pc := 25) rfl ?_
    refine go_il (pc := 26) rfl l1 ?_
    refine go_iadd (pc := 27) rfl ?_
    refine go_al (pc := 28) rfl l0 ?_
    obtain ⟨x6, ex6, hh⟩ := bi_bd hh
    refine go_gfR (pc := 29) rfl ex6 ?_
    refine go_il (pc := 32) rfl l1 ?_
    obtain ⟨x7, ex7, hh⟩ := bi_bd hh
    refine go_iald (pc := 33) rfl ex7 ?_
    obtain ⟨h8, eh8, hh⟩ := bi_bd hh
    refine go_iast (pc := 34) rfl eh8 ?_
    refine go_inc (pc := 35) rfl l1 ?_
    refine go_goto (pc := 38) rfl ?_
    exact R2 _ _ _ _ (bi_k1 l0 rfl rfl) bi_e1 hh
def fX11_layTried_2 (n : Nat) : Nat → ai_H → Nat → Int32 → Option (Unit × ai_H)
  | 0 => fun _ _ _ => none
  | k + 1 => fun h v0 v1 => fX11_layTried_2b n (fX11_layTried_2 n k) h v0 v1
theorem sX11_layTried_2 {n : Nat} {q : Unit × ai_H} : ∀ (k : Nat) (h : ai_H) (v0 : Nat) (v1 : Int32) (lv : ai_L), ai_ld 0 lv = some (.ref v0) → ai_ld 1 lv = some (.int v1) → fX11_layTried_2 n k h v0 v1 = some q → bi_go 1 tX11_layTried n (fV n q) 2 lv [] h
  | 0 => fun _ _ _ _ _ _ hh => by cases hh
  | k + 1 => fun h v0 v1 lv l0 l1 hh => sX11_layTried_2b  (sX11_layTried_2  k) l0 l1 hh
def fX11_layTried (n : Nat) (h : ai_H) (a0 : Nat) : Option (Unit × ai_H) :=
  (kO n h a0 11).bind fun _ =>
  fX11_layTried_2 n bi_K h a0 (0 : Int32)
theorem gX11_layTried {n : Nat} {h : ai_H} {a0 : Nat} {q : Unit × ai_H} (hh : fX11_layTried n h a0 = some q) : kO n h a0 11 = some () := by
  obtain ⟨_, e, -⟩ := bi_bd hh
  exact e
theorem sX11_layTried {n : Nat} {h : ai_H} {a0 : Nat} {q : Unit × ai_H} (hh : fX11_layTried n h a0 = some q) : bi_sp 2 188 [.ref a0] h n (fV n q) := by
  refine bi_en (D := 1) (T := tX11_layTried) (funext fun pc => rfl) rfl (Nat.le_of_ble_eq_true rfl) ?_
  unfold fX11_layTried at hh
  obtain ⟨_, eO, hh⟩ := bi_bd hh
  refine go_pi (pc := 0) rfl ?_
  refine go_is (pc := 1) rfl ?_
  exact sX11_layTried_2  _ _ _ _ _ (bi_k1 (rfl : ai_ld 0 (lv_args 0 [.ref a0]) = some (.ref a0)) rfl rfl) bi_e1 hh
def fX11_isPlace (n : Nat) (h : ai_H) (a0 : Nat) (a1 : Int32) : Option (Int32 × ai_H) :=
  (kO n h a0 11).bind fun _ =>
  if a1 < 0 then (
    some ((0 : Int32), h))
  else (
    (pI n h a0 11 12).bind fun x1 =>
    if x1 ≤ a1 then (
      some ((0 : Int32), h))
    else (
      some ((1 : Int32), h)))
theorem gX11_isPlace {n : Nat} {h : ai_H} {a0 : Nat} {a1 : Int32} {q : Int32 × ai_H} (hh : fX11_isPlace n h a0 a1 = some q) : kO n h a0 11 = some () := by
  obtain ⟨_, e, -⟩ := bi_bd hh
  exact e
theorem sX11_isPlace {n : Nat} {h : ai_H} {a0 : Nat} {a1 : Int32} {q : Int32 × ai_H} (hh : fX11_isPlace n h a0 a1 = some q) : bi_sp 1 189 [.ref a0, .int a1] h n (fI n q) := by
  refine bi_en (D := 0) (T := tX11_isPlace) (funext fun pc => rfl) rfl (Nat.le_of_ble_eq_true rfl) ?_
  unfold fX11_isPlace at hh
  obtain ⟨_, eO, hh⟩ := bi_bd hh
  refine go_il (pc := 0) rfl (rfl : ai_ld 1 (lv_args 0 [.ref a0, .int a1]) = some (.int a1)) ?_
  refine bi_ite hh (fun hc hh => ?_) (fun hc hh => ?_)
  · refine go_ifltT (pc := 1) rfl hc ?_
    refine go_pi (pc := 16) rfl ?_
    exact go_rz (pc := 17) rfl bi_z0 hh
  · refine go_ifltF (pc := 1) rfl hc ?_
    refine go_il (pc := 4) rfl (rfl : ai_ld 1 (lv_args 0 [.ref a0, .int a1]) = some (.int a1)) ?_
    refine go_al (pc := 5) rfl (rfl : ai_ld 0 (lv_args 0 [.ref a0, .int a1]) = some (.ref a0)) ?_
    obtain ⟨x1, ex1, hh⟩ := bi_bd hh
    refine go_gfI (pc := 6) rfl ex1 ?_
    refine bi_ite hh (fun hc hh => ?_) (fun hc hh => ?_)
    · refine go_cmpgeT (pc := 9) rfl hc ?_
      refine go_pi (pc := 16) rfl ?_
      exact go_rz (pc := 17) rfl bi_z0 hh
    · refine go_cmpgeF (pc := 9) rfl hc ?_
      refine go_pi (pc := 12) rfl ?_
      refine go_goto (pc := 13) rfl ?_
      exact go_rz (pc := 17) rfl bi_z1 hh
def fX11_isPath (n : Nat) (h : ai_H) (a0 : Nat) (a1 : Int32) : Option (Int32 × ai_H) :=
  (kO n h a0 11).bind fun _ =>
  if a1 < 0 then (
    some ((0 : Int32), h))
  else (
    (pI n h a0 11 13).bind fun x1 =>
    if x1 ≤ a1 then (
      some ((0 : Int32), h))
    else (
      some ((1 : Int32), h)))
theorem gX11_isPath {n : Nat} {h : ai_H} {a0 : Nat} {a1 : Int32} {q : Int32 × ai_H} (hh : fX11_isPath n h a0 a1 = some q) : kO n h a0 11 = some () := by
  obtain ⟨_, e, -⟩ := bi_bd hh
  exact e
theorem sX11_isPath {n : Nat} {h : ai_H} {a0 : Nat} {a1 : Int32} {q : Int32 × ai_H} (hh : fX11_isPath n h a0 a1 = some q) : bi_sp 1 190 [.ref a0, .int a1] h n (fI n q) := by
  refine bi_en (D := 0) (T := tX11_isPath) (funext fun pc => rfl) rfl (Nat.le_of_ble_eq_true rfl) ?_
  unfold fX11_isPath at hh
  obtain ⟨_, eO, hh⟩ := bi_bd hh
  refine go_il (pc := 0) rfl (rfl : ai_ld 1 (lv_args 0 [.ref a0, .int a1]) = some (.int a1)) ?_
  refine bi_ite hh (fun hc hh => ?_) (fun hc hh => ?_)
  · refine go_ifltT (pc := 1) rfl hc ?_
    refine go_pi (pc := 16) rfl ?_
    exact go_rz (pc := 17) rfl bi_z0 hh
  · refine go_ifltF (pc := 1) rfl hc ?_
    refine go_il (pc := 4) rfl (rfl : ai_ld 1 (lv_args 0 [.ref a0, .int a1]) = some (.int a1)) ?_
    refine go_al (pc := 5) rfl (rfl : ai_ld 0 (lv_args 0 [.ref a0, .int a1]) = some (.ref a0)) ?_
    obtain ⟨x1, ex1, hh⟩ := bi_bd hh
    refine go_gfI (pc := 6) rfl ex1 ?_
    refine bi_ite hh (fun hc hh => ?_) (fun hc hh => ?_)
    · refine go_cmpgeT (pc := 9) rfl hc ?_
      refine go_pi (pc := 16) rfl ?_
      exact go_rz (pc := 17) rfl bi_z0 hh
    · refine go_cmpgeF (pc := 9) rfl hc ?_
      refine go_pi (pc := 12) rfl ?_
      refine go_goto (pc := 13) rfl ?_
      exact go_rz (pc := 17) rfl bi_z1 hh
def fX11_isWalker (n : Nat) (h : ai_H) (a0 : Nat) (a1 : Int32) : Option (Int32 × ai_H) :=
  (kO n h a0 11).bind fun _ =>
  if a1 < 0 then (
    some ((0 : Int32), h))
  else (
    (pI n h a0 11 14).bind fun x1 =>
    if x1 ≤ a1 then (
      some ((0 : Int32), h))
    else (
      some ((1 : Int32), h)))
theorem gX11_isWalker {n : Nat} {h : ai_H} {a0 : Nat} {a1 : Int32} {q : Int32 × ai_H} (hh : fX11_isWalker n h a0 a1 = some q) : kO n h a0 11 = some () := by
  obtain ⟨_, e, -⟩ := bi_bd hh
  exact e
theorem sX11_isWalker {n : Nat} {h : ai_H} {a0 : Nat} {a1 : Int32} {q : Int32 × ai_H} (hh : fX11_isWalker n h a0 a1 = some q) : bi_sp 1 191 [.ref a0, .int a1] h n (fI n q) := by
  refine bi_en (D := 0) (T := tX11_isWalker) (funext fun pc => rfl) rfl (Nat.le_of_ble_eq_true rfl) ?_
  unfold fX11_isWalker at hh
  obtain ⟨_, eO, hh⟩ := bi_bd hh
  refine go_il (pc := 0) rfl (rfl : ai_ld 1 (lv_args 0 [.ref a0, .int a1]) = some (.int a1)) ?_
  refine bi_ite hh (fun hc hh => ?_) (fun hc hh => ?_)
  · refine go_ifltT (pc := 1) rfl hc ?_
    refine go_pi (pc := 16) rfl ?_
    exact go_rz (pc := 17) rfl bi_z0 hh
  · refine go_ifltF (pc := 1) rfl hc ?_
    refine go_il (pc := 4) rfl (rfl : ai_ld 1 (lv_args 0 [.ref a0, .int a1]) = some (.int a1)) ?_
    refine go_al (pc := 5) rfl (rfl : ai_ld 0 (lv_args 0 [.ref a0, .int a1]) = some (.ref a0)) ?_
    obtain ⟨x1, ex1, hh⟩ := bi_bd hh
    refine go_gfI (pc := 6) rfl ex1 ?_
    refine bi_ite hh (fun hc hh => ?_) (fun hc hh => ?_)
    · refine go_cmpgeT (pc := 9) rfl hc ?_
      refine go_pi (pc := 16) rfl ?_
      exact go_rz (pc := 17) rfl bi_z0 hh
    · refine go_cmpgeF (pc := 9) rfl hc ?_
      refine go_pi (pc := 12) rfl ?_
      refine go_goto (pc := 13) rfl ?_
      exact go_rz (pc := 17) rfl bi_z1 hh
def fX11_legsIn (n : Nat) (h : ai_H) (a0 : Nat) (a1 : Int32) : Option (Int32 × ai_H) :=
  (kO n h a0 11).bind fun _ =>
  (pI n h a0 11 72).bind fun x1 =>
  if x1 = 0 then (
    (pI n h a0 11 75).bind fun x2 =>
    if ¬ a1 = x2 then (
      (pR n h a0 11 35).bind fun x3 =>
      (gX 1 n h x3 a1).bind fun x4 =>
      some (x4, h))
    else (
      (pI n h a0 11 76).bind fun x5 =>
      some (x5, h)))
  else (
    some ((9 : Int32), h))
theorem gX11_legsIn {n : Nat} {h : ai_H} {a0 : Nat} {a1 : Int32} {q : Int32 × ai_H} (hh : fX11_legsIn n h a0 a1 = some q) : kO n h a0 11 = some () := by
  obtain ⟨_, e, -⟩ := bi_bd hh
  exact e
theorem sX11_legsIn {n : Nat} {h : ai_H} {a0 : Nat} {a1 : Int32} {q : Int32 × ai_H} (hh : fX11_legsIn n h a0 a1 = some q) : bi_sp 1 192 [.ref a0, .int a1] h n (fI n q) := by
  refine bi_en (D := 0) (T := tX11_legsIn) (funext fun pc => rfl) rfl (Nat.le_of_ble_eq_true rfl) ?_
  unfold fX11_legsIn at hh
  obtain ⟨_, eO, hh⟩ := bi_bd hh
  refine go_al (pc := 0) rfl (rfl : ai_ld 0 (lv_args 0 [.ref a0, .int a1]) = some (.ref a0)) ?_
  obtain ⟨x1, ex1, hh⟩ := bi_bd hh
  refine go_gfI (pc := 1) rfl ex1 ?_
  refine bi_ite hh (fun hc hh => ?_) (fun hc hh => ?_)
  · refine go_ifeqT (pc := 4) rfl hc ?_
    refine go_il (pc := 12) rfl (rfl : ai_ld 1 (lv_args 0 [.ref a0, .int a1]) = some (.int a1)) ?_
    refine go_al (pc := 13) rfl (rfl : ai_ld 0 (lv_args 0 [.ref a0, .int a1]) = some (.ref a0)) ?_
    obtain ⟨x2, ex2, hh⟩ := bi_bd hh
    refine go_gfI (pc := 14) rfl ex2 ?_
    refine bi_ite hh (fun hc hh => ?_) (fun hc hh => ?_)
    · refine go_cmpneT (pc := 17) rfl hc ?_
      refine go_al (pc := 27) rfl (rfl : ai_ld 0 (lv_args 0 [.ref a0, .int a1]) = some (.ref a0)) ?_
      obtain ⟨x3, ex3, hh⟩ := bi_bd hh
      refine go_gfR (pc := 28) rfl ex3 ?_
      refine go_il (pc := 31) rfl (rfl : ai_ld 1 (lv_args 0 [.ref a0, .int a1]) = some (.int a1)) ?_
      obtain ⟨x4, ex4, hh⟩ := bi_bd hh
      refine go_iald (pc := 32) rfl ex4 ?_
      exact go_ri (pc := 33) rfl hh
    · refine go_cmpneF (pc := 17) rfl hc ?_
      refine go_al (pc := 20) rfl (rfl : ai_ld 0 (lv_args 0 [.ref a0, .int a1]) = some (.ref a0)) ?_
      obtain ⟨x5, ex5, hh⟩ := bi_bd hh
      refine go_gfI (pc := 21) rfl ex5 ?_
      refine go_goto (pc := 24) rfl ?_
      exact go_ri (pc := 33) rfl hh
  · refine go_ifeqF (pc := 4) rfl hc ?_
    refine go_pi (pc := 7) rfl ?_
    refine go_goto (pc := 9) rfl ?_
    exact go_ri (pc := 33) rfl hh
def fX11_layPath (n : Nat) (h : ai_H) (a0 : Nat) (a1 : Int32) (a2 : Int32) : Option (Unit × ai_H) :=
  (kO n h a0 11).bind fun _ =>
  (pR n h a0 11 57).bind fun x1 =>
  (pR n h a0 11 30).bind fun x2 =>
  (gX 1 n h x2 a2).bind fun x3 =>
  (wJ n h x1 (0 : Int32) x3.toInt64).bind fun h4 =>
  (pR n h4 a0 11 57).bind fun x5 =>
  (pR n h4 a0 11 31).bind fun x6 =>
  (gX 1 n h4 x6 a2).bind fun x7 =>
  (wJ n h4 x5 (1 : Int32) x7.toInt64).bind fun h8 =>
  (pR n h8 a0 11 57).bind fun x9 =>
  (pR n h8 a0 11 62).bind fun x10 =>
  (gX 1 n h8 x10 (((9 : Int32) * a1) + a2)).bind fun x11 =>
  (wJ n h8 x9 (2 : Int32) x11.toInt64).bind fun h12 =>
  (pR n h12 a0 11 57).bind fun x13 =>
  (wJ n h12 x13 (3 : Int32) (0 : Int64)).bind fun h14 =>
  (pR n h14 a0 11 57).bind fun x15 =>
  (wJ n h14 x15 (4 : Int32) (0 : Int64)).bind fun h16 =>
  (pR n h16 a0 11 57).bind fun x17 =>
  (pR n h16 a0 11 64).bind fun x18 =>
  (gX 1 n h16 x18 (((9 : Int32) * a1) + a2)).bind fun x19 =>
  (wJ n h16 x17 (5 : Int32) x19.toInt64).bind fun h20 =>
  (pR n h20 a0 11 57).bind fun x21 =>
  (pR n h20 a0 11 67).bind fun x22 =>
  (gX 1 n h20 x22 a1).bind fun x23 =>
  (wJ n h20 x21 (6 : Int32) x23.toInt64).bind fun h24 =>
  some ((), h24)
theorem gX11_layPath {n : Nat} {h : ai_H} {a0 : Nat} {a1 : Int32} {a2 : Int32} {q : Unit × ai_H} (hh : fX11_layPath n h a0 a1 a2 = some q) : kO n h a0 11 = some () := by
  obtain ⟨_, e, -⟩ := bi_bd hh
  exact e
theorem sX11_layPath {n : Nat} {h : ai_H} {a0 : Nat} {a1 : Int32} {a2 : Int32} {q : Unit × ai_H} (hh : fX11_layPath n h a0 a1 a2 = some q) : bi_sp 1 193 [.ref a0, .int a1, .int a2] h n (fV n q) := by
  refine bi_en (D := 0) (T := tX11_layPath) (funext fun pc => rfl) rfl (Nat.le_of_ble_eq_true rfl) ?_
  unfold fX11_layPath at hh
  obtain ⟨_, eO, hh⟩ := bi_bd hh
  refine go_al (pc := 0) rfl (rfl : ai_ld 0 (lv_args 0 [.ref a0, .int a1, .int a2]) = some (.ref a0)) ?_
  obtain ⟨x1, ex1, hh⟩ := bi_bd hh
  refine go_gfR (pc := 1) rfl ex1 ?_
  refine go_pi (pc := 4) rfl ?_
  refine go_al (pc := 5) rfl (rfl : ai_ld 0 (lv_args 0 [.ref a0, .int a1, .int a2]) = some (.ref a0)) ?_
  obtain ⟨x2, ex2, hh⟩ := bi_bd hh
  refine go_gfR (pc := 6) rfl ex2 ?_
  refine go_il (pc := 9) rfl (rfl : ai_ld 2 (lv_args 0 [.ref a0, .int a1, .int a2]) = some (.int a2)) ?_
  obtain ⟨x3, ex3, hh⟩ := bi_bd hh
  refine go_iald (pc := 10) rfl ex3 ?_
  refine go_i2l (pc := 11) rfl ?_
  obtain ⟨h4, eh4, hh⟩ := bi_bd hh
  refine go_last (pc := 12) rfl eh4 ?_
  refine go_al (pc := 13) rfl (rfl : ai_ld 0 (lv_args 0 [.ref a0, .int a1, .int a2]) = some (.ref a0)) ?_
  obtain ⟨x5, ex5, hh⟩ := bi_bd hh
  refine go_gfR (pc := 14) rfl ex5 ?_
  refine go_pi (pc := 17) rfl ?_
  refine go_al (pc := 18) rfl (rfl : ai_ld 0 (lv_args 0 [.ref a0, .int a1, .int a2]) = some (.ref a0)) ?_
  obtain ⟨x6, ex6, hh⟩ := bi_bd hh
  refine go_gfR (pc := 19) rfl ex6 ?_
  refine go_il (pc := 22) rfl (rfl : ai_ld 2 (lv_args 0 [.ref a0, .int a1, .int a2]) = some (.int a2)) ?_
  obtain ⟨x7, ex7, hh⟩ := bi_bd hh
  refine go_iald (pc := 23) rfl ex7 ?_
  refine go_i2l (pc := 24) rfl ?_
  obtain ⟨h8, eh8, hh⟩ := bi_bd hh
  refine go_last (pc := 25) rfl eh8 ?_
  refine go_al (pc := 26) rfl (rfl : ai_ld 0 (lv_args 0 [.ref a0, .int a1, .int a2]) = some (.ref a0)) ?_
  obtain ⟨x9, ex9, hh⟩ := bi_bd hh
  refine go_gfR (pc := 27) rfl ex9 ?_
  refine go_pi (pc := 30) rfl ?_
  refine go_al (pc := 31) rfl (rfl : ai_ld 0 (lv_args 0 [.ref a0, .int a1, .int a2]) = some (.ref a0)) ?_
  obtain ⟨x10, ex10, hh⟩ := bi_bd hh
  refine go_gfR (pc := 32) rfl ex10 ?_
  refine go_pi (pc := 35) rfl ?_
  refine go_il (pc := 37) rfl (rfl : ai_ld 1 (lv_args 0 [.ref a0, .int a1, .int a2]) = some (.int a1)) ?_
  refine go_imul (pc := 38) rfl ?_
  refine go_il (pc := 39) rfl (rfl : ai_ld 2 (lv_args 0 [.ref a0, .int a1, .int a2]) = some (.int a2)) ?_
  refine go_iadd (pc := 40) rfl ?_
  obtain ⟨x11, ex11, hh⟩ := bi_bd hh
  refine go_iald (pc := 41) rfl ex11 ?_
  refine go_i2l (pc := 42) rfl ?_
  obtain ⟨h12, eh12, hh⟩ := bi_bd hh
  refine go_last (pc := 43) rfl eh12 ?_
  refine go_al (pc := 44) rfl (rfl : ai_ld 0 (lv_args 0 [.ref a0, .int a1, .int a2]) = some (.ref a0)) ?_
  obtain ⟨x13, ex13, hh⟩ := bi_bd hh
  refine go_gfR (pc := 45) rfl ex13 ?_
  refine go_pi (pc := 48) rfl ?_
  refine go_pl (pc := 49) rfl ?_
  obtain ⟨h14, eh14, hh⟩ := bi_bd hh
  refine go_last (pc := 50) rfl eh14 ?_
  refine go_al (pc := 51) rfl (rfl : ai_ld 0 (lv_args 0 [.ref a0, .int a1, .int a2]) = some (.ref a0)) ?_
  obtain ⟨x15, ex15, hh⟩ := bi_bd hh
  refine go_gfR (pc := 52) rfl ex15 ?_
  refine go_pi (pc := 55) rfl ?_
  refine go_pl (pc := 56) rfl ?_
  obtain ⟨h16, eh16, hh⟩ := bi_bd hh
  refine go_last (pc := 57) rfl eh16 ?_
  refine go_al (pc := 58) rfl (rfl : ai_ld 0 (lv_args 0 [.ref a0, .int a1, .int a2]) = some (.ref a0)) ?_
  obtain ⟨x17, ex17, hh⟩ := bi_bd hh
  refine go_gfR (pc := 59) rfl ex17 ?_
  refine go_pi (pc := 62) rfl ?_
  refine go_al (pc := 63) rfl (rfl : ai_ld 0 (lv_args 0 [.ref a0, .int a1, .int a2]) = some (.ref a0)) ?_
  obtain ⟨x18, ex18, hh⟩ := bi_bd hh
  refine go_gfR (pc := 64) rfl ex18 ?_
  refine go_pi (pc := 67) rfl ?_
  refine go_il (pc := 69) rfl (rfl : ai_ld 1 (lv_args 0 [.ref a0, .int a1, .int a2]) = some (.int a1)) ?_
  refine go_imul (pc := 70) rfl ?_
  refine go_il (pc := 71) rfl (rfl : ai_ld 2 (lv_args 0 [.ref a0, .int a1, .int a2]) = some (.int a2)) ?_
  refine go_iadd (pc := 72) rfl ?_
  obtain ⟨x19, ex19, hh⟩ := bi_bd hh
  refine go_iald (pc := 73) rfl ex19 ?_
  refine go_i2l (pc := 74) rfl ?_
  obtain ⟨h20, eh20, hh⟩ := bi_bd hh
  refine go_last (pc := 75) rfl eh20 ?_
  refine go_al (pc := 76) rfl (rfl : ai_ld 0 (lv_args 0 [.ref a0, .int a1, .int a2]) = some (.ref a0)) ?_
  obtain ⟨x21, ex21, hh⟩ := bi_bd hh
  refine go_gfR (pc := 77) rfl ex21 ?_
  refine go_pi (pc := 80) rfl ?_
  refine go_al (pc := 82) rfl (rfl : ai_ld 0 (lv_args 0 [.ref a0, .int a1, .int a2]) = some (.ref a0)) ?_
  obtain ⟨x22, ex22, hh⟩ := bi_bd hh
  refine go_gfR (pc := 83) rfl ex22 ?_
  refine go_il (pc := 86) rfl (rfl : ai_ld 1 (lv_args 0 [.ref a0, .int a1, .int a2]) = some (.int a1)) ?_
  obtain ⟨x23, ex23, hh⟩ := bi_bd hh
  refine go_iald (pc := 87) rfl ex23 ?_
  refine go_i2l (pc := 88) rfl ?_
  obtain ⟨h24, eh24, hh⟩ := bi_bd hh
  refine go_last (pc := 89) rfl eh24 ?_
  exact go_rv (pc := 90) rfl hh
