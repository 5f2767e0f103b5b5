/-! ===== methods as functions, part 22 ===== -/
def fX11_keptAt_36 (n : Nat) (r4 : ai_H → Nat → Int32 → Int32 → Int32 → Option (Int32 × ai_H)) (h : ai_H) (v0 : Nat) (v1 : Int32) (v3 : Int32) (s0 : Int32) (s1 : Int32) : Option (Int32 × ai_H) :=
  r4 h v0 v1 (s1 + s0) (v3 + 1)
theorem sX11_keptAt_36 {n : Nat} {r4 : ai_H → Nat → Int32 → Int32 → Int32 → Option (Int32 × ai_H)} {q : Int32 × ai_H} {h : ai_H} {v0 : Nat} {v1 : Int32} {v3 : Int32} {s0 : Int32} {s1 : Int32} {lv : ai_L} (R4 : ∀ (h : ai_H) (v0 : Nat) (v1 : Int32) (v2 : Int32) (v3 : Int32) (lv : ai_L), ai_ld 0 lv = some (.ref v0) → ai_ld 1 lv = some (.int v1) → ai_ld 2 lv = some (.int v2) → ai_ld 3 lv = some (.int v3) → r4 h v0 v1 v2 v3 = some q → bi_go 1 tX11_keptAt n (fI n q) 4 lv [] h) (l0 : ai_ld 0 lv = some (.ref v0)) (l1 : ai_ld 1 lv = some (.int v1)) (l3 : ai_ld 3 lv = some (.int v3)) (hh : fX11_keptAt_36 n r4 h v0 v1 v3 s0 s1 = some q) : bi_go 1 tX11_keptAt n (fI n q) 36 lv [.int s0, .int s1] h := by
  unfold fX11_keptAt_36 at hh
  refine go_iadd (pc := 36) rfl ?_
  refine go_is (pc := 37) rfl ?_
  refine go_inc (pc := 38) rfl (bi_k1 l3 rfl rfl) ?_
  refine go_goto (pc := 41) rfl ?_
  exact R4 _ _ _ _ _ _ (bi_k1 (bi_k1 l0 rfl rfl) rfl rfl) (bi_k1 (bi_k1 l1 rfl rfl) rfl rfl) (bi_k1 bi_e1 rfl rfl) bi_e1 hh
def fX11_keptAt_35 (n : Nat) (r4 : ai_H → Nat → Int32 → Int32 → Int32 → Option (Int32 × ai_H)) (h : ai_H) (v0 : Nat) (v1 : Int32) (v3 : Int32) (s0 : Int32) : Option (Int32 × ai_H) :=
  fX11_keptAt_36 n r4 h v0 v1 v3 (0 : Int32) s0
theorem sX11_keptAt_35 {n : Nat} {r4 : ai_H → Nat → Int32 → Int32 → Int32 → Option (Int32 × ai_H)} {q : Int32 × ai_H} {h : ai_H} {v0 : Nat} {v1 : Int32} {v3 : Int32} {s0 : Int32} {lv : ai_L} (R4 : ∀ (h : ai_H) (v0 : Nat) (v1 : Int32) (v2 : Int32) (v3 : Int32) (lv : ai_L), ai_ld 0 lv = some (.ref v0) → ai_ld 1 lv = some (.int v1) → ai_ld 2 lv = some (.int v2) → ai_ld 3 lv = some (.int v3) → r4 h v0 v1 v2 v3 = some q → bi_go 1 tX11_keptAt n (fI n q) 4 lv [] h) (l0 : ai_ld 0 lv = some (.ref v0)) (l1 : ai_ld 1 lv = some (.int v1)) (l3 : ai_ld 3 lv = some (.int v3)) (hh : fX11_keptAt_35 n r4 h v0 v1 v3 s0 = some q) : bi_go 1 tX11_keptAt n (fI n q) 35 lv [.int s0] h := by
  unfold fX11_keptAt_35 at hh
  refine go_pi (pc := 35) rfl ?_
  exact sX11_keptAt_36 R4 l0 l1 l3 hh
def fX11_keptAt_4b (n : Nat) (r4 : ai_H → Nat → Int32 → Int32 → Int32 → Option (Int32 × ai_H)) (h : ai_H) (v0 : Nat) (v1 : Int32) (v2 : Int32) (v3 : Int32) : Option (Int32 × ai_H) :=
  (pI n h v0 11 13).bind fun x1 =>
  if x1 ≤ v3 then (
    some (v2, h))
  else (
    (pR n h v0 11 63).bind fun x2 =>
    (gB n h x2 v3).bind fun x3 =>
    if x3 = 0 then (
      fX11_keptAt_35 n r4 h v0 v1 v3 v2)
    else (
      (fX11_isAtEnd n h v0 v3 v1).bind fun q4 =>
      if q4.1 = 0 then (
        fX11_keptAt_35 n r4 q4.2 v0 v1 v3 v2)
      else (
        fX11_keptAt_36 n r4 q4.2 v0 v1 v3 (1 : Int32) v2)))
theorem sX11_keptAt_4b {n : Nat} {r4 : ai_H → Nat → Int32 → Int32 → Int32 → Option (Int32 × ai_H)} {q : Int32 × ai_H} {h : ai_H} {v0 : Nat} {v1 : Int32} {v2 : Int32} {v3 : Int32} {lv : ai_L} (R4 : ∀ (h : ai_H) (v0 : Nat) (v1 : Int32) (v2 : Int32) (v3 : Int32) (lv : ai_L), ai_ld 0 lv = some (.ref v0) → ai_ld 1 lv = some (.int v1) → ai_ld 2 lv = some (.int v2) → ai_ld 3 lv = some (.int v3) → r4 h v0 v1 v2 v3 = some q → bi_go 1 tX11_keptAt n (fI n q) 4 lv [] h) (l0 : ai_ld 0 lv = some (.ref v0)) (l1 : ai_ld 1 lv = some (.int v1)) (l2 : ai_ld 2 lv = some (.int v2)) (l3 : ai_ld 3 lv = some (.int v3)) (hh : fX11_keptAt_4b n r4 h v0 v1 v2 v3 = some q) : bi_go 1 tX11_keptAt n (fI n q) 4 lv [] h := by
  unfold fX11_keptAt_4b at hh
  refine go_il (pc := 4) rfl l3 ?_
  refine go_al (pc := 5) rfl l0 ?_
  obtain ⟨x1, ex1, hh⟩ := bi_bd hh
  refine go_gfI (pc := 6) rfl ex1 ?_
  refine bi_ite hh (fun hc hh => ?_) (fun hc hh => ?_)
  · refine go_cmpgeT (pc := 9) rfl hc ?_
    refine go_il (pc := 44) rfl l2 ?_
    exact go_ri (pc := 45) rfl hh
  · refine go_cmpgeF (pc := 9) rfl hc ?_
    refine go_il (pc := 12) rfl l2 ?_
    refine go_al (pc := 13) rfl l0 ?_
    obtain ⟨x2, ex2, hh⟩ := bi_bd hh
    refine go_gfR (pc := 14) rfl ex2 ?_
    refine go_il (pc := 17) rfl l3 ?_
    obtain ⟨x3, ex3, hh⟩ := bi_bd hh
    refine go_bald (pc := 18) rfl ex3 ?_
    refine bi_ite hh (fun hc hh => ?_) (fun hc hh => ?_)
    · refine go_ifeqT (pc := 19) rfl hc ?_
      exact sX11_keptAt_35 R4 l0 l1 l3 hh
    · refine go_ifeqF (pc := 19) rfl hc ?_
      refine go_al (pc := 22) rfl l0 ?_
      refine go_il (pc := 23) rfl l3 ?_
      refine go_il (pc := 24) rfl l1 ?_
      obtain ⟨q4, eq4, hh⟩ := bi_bd hh
      refine go_ivI (pc := 25) rfl rfl (gX11_isAtEnd eq4) (Nat.le_of_ble_eq_true rfl) (bi_up (sX11_isAtEnd eq4) (Nat.le_of_ble_eq_true rfl)) ?_
      refine bi_ite hh (fun hc hh => ?_) (fun hc hh => ?_)
      · refine go_ifeqT (pc := 28) rfl hc ?_
        exact sX11_keptAt_35 R4 l0 l1 l3 hh
      · refine go_ifeqF (pc := 28) rfl hc ?_
        refine go_pi (pc := 31) rfl ?_
        refine go_goto (pc := 32) rfl ?_
        exact sX11_keptAt_36 R4 l0 l1 l3 hh
def fX11_keptAt_4 (n : Nat) : Nat → ai_H → Nat → Int32 → Int32 → Int32 → Option (Int32 × ai_H)
  | 0 => fun _ _ _ _ _ => none
  | k + 1 => fun h v0 v1 v2 v3 => fX11_keptAt_4b n (fX11_keptAt_4 n k) h v0 v1 v2 v3
theorem sX11_keptAt_4 {n : Nat} {q : Int32 × ai_H} : ∀ (k : Nat) (h : ai_H) (v0 : Nat) (v1 : Int32) (v2 : Int32) (v3 : Int32) (lv : ai_L), ai_ld 0 lv = some (.ref v0) → ai_ld 1 lv = some (.int v1) → ai_ld 2 lv = some (.int v2) → ai_ld 3 lv = some (.int v3) → fX11_keptAt_4 n k h v0 v1 v2 v3 = some q → bi_go 1 tX11_keptAt n (fI n q) 4 lv [] h
  | 0 => fun _ _ _ _ _ _ _ _ _ _ hh => by cases hh
  | k + 1 => fun h v0 v1 v2 v3 lv l0 l1 l2 l3 hh => sX11_keptAt_4b  (sX11_keptAt_4  k) l0 l1 l2 l3 hh
def fX11_keptAt (n : Nat) (h : ai_H) (a0 : Nat) (a1 : Int32) : Option (Int32 × ai_H) :=
  (kO n h a0 11).bind fun _ =>
  fX11_keptAt_4 n bi_K h a0 a1 (0 : Int32) (0 : Int32)
theorem gX11_keptAt {n : Nat} {h : ai_H} {a0 : Nat} {a1 : Int32} {q : Int32 × ai_H} (hh : fX11_keptAt n h a0 a1 = some q) : kO n h a0 11 = some () := by
  obtain ⟨_, e, -⟩ := bi_bd hh
  exact e
theorem sX11_keptAt {n : Nat} {h : ai_H} {a0 : Nat} {a1 : Int32} {q : Int32 × ai_H} (hh : fX11_keptAt n h a0 a1 = some q) : bi_sp 2 227 [.ref a0, .int a1] h n (fI n q) := by
  refine bi_en (D := 1) (T := tX11_keptAt) (funext fun pc => rfl) rfl (Nat.le_of_ble_eq_true rfl) ?_
  unfold fX11_keptAt at hh
  obtain ⟨_, eO, hh⟩ := bi_bd hh
  refine go_pi (pc := 0) rfl ?_
  refine go_is (pc := 1) rfl ?_
  refine go_pi (pc := 2) rfl ?_
  refine go_is (pc := 3) rfl ?_
  exact sX11_keptAt_4  _ _ _ _ _ _ _ (bi_k1 (bi_k1 (rfl : ai_ld 0 (lv_args 0 [.ref a0, .int a1]) = some (.ref a0)) rfl rfl) rfl rfl) (bi_k1 (bi_k1 (rfl : ai_ld 1 (lv_args 0 [.ref a0, .int a1]) = some (.int a1)) rfl rfl) rfl rfl) (bi_k1 bi_e1 rfl rfl) bi_e1 hh
def fX11_blind_62 (n : Nat) (r9 : ai_H → Nat → Int32 → Int32 → Option (Int32 × ai_H)) (h : ai_H) (v0 : Nat) (v2 : Int32) (s0 : Int32) (s1 : Int32) : Option (Int32 × ai_H) :=
  r9 h v0 (s1 ||| s0) (v2 + 1)
theorem sX11_blind_62 {n : Nat} {r9 : ai_H → Nat → Int32 → Int32 → Option (Int32 × ai_H)} {q : Int32 × ai_H} {h : ai_H} {v0 : Nat} {v2 : Int32} {s0 : Int32} {s1 : Int32} {lv : ai_L} (R9 : ∀ (h : ai_H) (v0 : Nat) (v1 : Int32) (v2 : Int32) (lv : ai_L), ai_ld 0 lv = some (.ref v0) → ai_ld 1 lv = some (.int v1) → ai_ld 2 lv = some (.int v2) → r9 h v0 v1 v2 = some q → bi_go 2 tX11_blind n (fI n q) 9 lv [] h) (l0 : ai_ld 0 lv = some (.ref v0)) (l2 : ai_ld 2 lv = some (.int v2)) (hh : fX11_blind_62 n r9 h v0 v2 s0 s1 = some q) : bi_go 2 tX11_blind n (fI n q) 62 lv [.int s0, .int s1] h := by
  unfold fX11_blind_62 at hh
  refine go_ior (pc := 62) rfl ?_
  refine go_is (pc := 63) rfl ?_
  refine go_inc (pc := 64) rfl (bi_k1 l2 rfl rfl) ?_
  refine go_goto (pc := 67) rfl ?_
  exact R9 _ _ _ _ _ (bi_k1 (bi_k1 l0 rfl rfl) rfl rfl) (bi_k1 bi_e1 rfl rfl) bi_e1 hh
def fX11_blind_55 (n : Nat) (r9 : ai_H → Nat → Int32 → Int32 → Option (Int32 × ai_H)) (h : ai_H) (v0 : Nat) (v2 : Int32) (s0 : Int32) : Option (Int32 × ai_H) :=
  fX11_blind_62 n r9 h v0 v2 ((1 : Int32) <<< (v2 &&& 31)) s0
theorem sX11_blind_55 {n : Nat} {r9 : ai_H → Nat → Int32 → Int32 → Option (Int32 × ai_H)} {q : Int32 × ai_H} {h : ai_H} {v0 : Nat} {v2 : Int32} {s0 : Int32} {lv : ai_L} (R9 : ∀ (h : ai_H) (v0 : Nat) (v1 : Int32) (v2 : Int32) (lv : ai_L), ai_ld 0 lv = some (.ref v0) → ai_ld 1 lv = some (.int v1) → ai_ld 2 lv = some (.int v2) → r9 h v0 v1 v2 = some q → bi_go 2 tX11_blind n (fI n q) 9 lv [] h) (l0 : ai_ld 0 lv = some (.ref v0)) (l2 : ai_ld 2 lv = some (.int v2)) (hh : fX11_blind_55 n r9 h v0 v2 s0 = some q) : bi_go 2 tX11_blind n (fI n q) 55 lv [.int s0] h := by
  unfold fX11_blind_55 at hh
  refine go_pi (pc := 55) rfl ?_
  refine go_il (pc := 56) rfl l2 ?_
  refine go_ishl (pc := 57) rfl ?_
  refine go_goto (pc := 58) rfl ?_
  exact sX11_blind_62 R9 l0 l2 hh
def fX11_blind_61 (n : Nat) (r9 : ai_H → Nat → Int32 → Int32 → Option (Int32 × ai_H)) (h : ai_H) (v0 : Nat) (v2 : Int32) (s0 : Int32) : Option (Int32 × ai_H) :=
  fX11_blind_62 n r9 h v0 v2 (0 : Int32) s0
theorem sX11_blind_61 {n : Nat} {r9 : ai_H → Nat → Int32 → Int32 → Option (Int32 × ai_H)} {q : Int32 × ai_H} {h : ai_H} {v0 : Nat} {v2 : Int32} {s0 : Int32} {lv : ai_L} (R9 : ∀ (h : ai_H) (v0 : Nat) (v1 : Int32) (v2 : Int32) (lv : ai_L), ai_ld 0 lv = some (.ref v0) → ai_ld 1 lv = some (.int v1) → ai_ld 2 lv = some (.int v2) → r9 h v0 v1 v2 = some q → bi_go 2 tX11_blind n (fI n q) 9 lv [] h) (l0 : ai_ld 0 lv = some (.ref v0)) (l2 : ai_ld 2 lv = some (.int v2)) (hh : fX11_blind_61 n r9 h v0 v2 s0 = some q) : bi_go 2 tX11_blind n (fI n q) 61 lv [.int s0] h := by
  unfold fX11_blind_61 at hh
  refine go_pi (pc := 61) rfl ?_
  exact sX11_blind_62 R9 l0 l2 hh
def fX11_blind_9b (n : Nat) (r9 : ai_H → Nat → Int32 → Int32 → Option (Int32 × ai_H)) (h : ai_H) (v0 : Nat) (v1 : Int32) (v2 : Int32) : Option (Int32 × ai_H) :=
  (pI n h v0 11 13).bind fun x1 =>
  if x1 ≤ v2 then (
    some (v1, h))
  else (
    (pR n h v0 11 63).bind fun x2 =>
    (gB n h x2 v2).bind fun x3 =>
    if x3 = 0 then (
      fX11_blind_61 n r9 h v0 v2 v1)
    else (
      (pR n h v0 11 28).bind fun x4 =>
      (gX 1 n h x4 v2).bind fun x5 =>
      (fX11_keptAt n h v0 x5).bind fun q6 =>
      if q6.1 = (1 : Int32) then (
        fX11_blind_55 n r9 q6.2 v0 v2 v1)
      else (
        (pR n q6.2 v0 11 29).bind fun x7 =>
        (gX 1 n q6.2 x7 v2).bind fun x8 =>
        (fX11_keptAt n q6.2 v0 x8).bind fun q9 =>
        if ¬ q9.1 = (1 : Int32) then (
          fX11_blind_61 n r9 q9.2 v0 v2 v1)
        else (
          fX11_blind_55 n r9 q9.2 v0 v2 v1))))
theorem sX11_blind_9b {n : Nat} {r9 : ai_H → Nat → Int32 → Int32 → Option (Int32 × ai_H)} {q : Int32 × ai_H} {h : ai_H} {v0 : Nat} {v1 : Int32} {v2 : Int32} {lv : ai_L} (R9 : ∀ (h : ai_H) (v0 : Nat) (v1 : Int32) (v2 : Int32) (lv : ai_L), ai_ld 0 lv = some (.ref v0) → ai_ld 1 lv = some (.int v1) → ai_ld 2 lv = some (.int v2) → r9 h v0 v1 v2 = some q → bi_go 2 tX11_blind n (fI n q) 9 lv [] h) (l0 : ai_ld 0 lv = some (.ref v0)) (l1 : ai_ld 1 lv = some (.int v1)) (l2 : ai_ld 2 lv = some (.int v2)) (hh : fX11_blind_9b n r9 h v0 v1 v2 = some q) : bi_go 2 tX11_blind n (fI n q) 9 lv [] h := by
  unfold fX11_blind_9b at hh
  refine go_il (pc := 9) rfl l2 ?_
  refine go_al (pc := 10) rfl l0 ?_
  obtain ⟨x1, ex1, hh⟩ := bi_bd hh
  refine go_gfI (pc := 11) rfl ex1 ?_
  refine bi_ite hh (fun hc hh => ?_) (fun hc hh => ?_)
  · refine go_cmpgeT (pc := 14) rfl hc ?_
    refine go_il (pc := 70) rfl l1 ?_
    exact go_ri (pc := 71) rfl hh
  · refine go_cmpgeF (pc := 14) rfl hc ?_
    refine go_il (pc := 17) rfl l1 ?_
    refine go_al (pc := 18) rfl l0 ?_
    obtain ⟨x2, ex2, hh⟩ := bi_bd hh
    refine go_gfR (pc := 19) rfl ex2 ?_
    refine go_il (pc := 22) rfl l2 ?_
    obtain ⟨x3, ex3, hh⟩ := bi_bd hh
    refine go_bald (pc := 23) rfl ex3 ?_
    refine bi_ite hh (fun hc hh => ?_) (fun hc hh => ?_)
    · refine go_ifeqT (pc := 24) rfl hc ?_
      exact sX11_blind_61 R9 l0 l2 hh
    · refine go_ifeqF (pc := 24) rfl hc ?_
      refine go_al (pc := 27) rfl l0 ?_
      refine go_al (pc := 28) rfl l0 ?_
      obtain ⟨x4, ex4, hh⟩ := bi_bd hh
      refine go_gfR (pc := 29) rfl ex4 ?_
      refine go_il (pc := 32) rfl l2 ?_
      obtain ⟨x5, ex5, hh⟩ := bi_bd hh
      refine go_iald (pc := 33) rfl ex5 ?_
      obtain ⟨q6, eq6, hh⟩ := bi_bd hh
      refine go_ivI (pc := 34) rfl rfl (gX11_keptAt eq6) (Nat.le_of_ble_eq_true rfl) (bi_up (sX11_keptAt eq6) (Nat.le_of_ble_eq_true rfl)) ?_
      refine go_pi (pc := 37) rfl ?_
      refine bi_ite hh (fun hc hh => ?_) (fun hc hh => ?_)
      · refine go_cmpeqT (pc := 38) rfl hc ?_
        exact sX11_blind_55 R9 l0 l2 hh
      · refine go_cmpeqF (pc := 38) rfl hc ?_
        refine go_al (pc := 41) rfl l0 ?_
        refine go_al (pc := 42) rfl l0 ?_
        obtain ⟨x7, ex7, hh⟩ := bi_bd hh
        refine go_gfR (pc := 43) rfl ex7 ?_
        refine go_il (pc := 46) rfl l2 ?_
        obtain ⟨x8, ex8, hh⟩ := bi_bd hh
        refine go_iald (pc := 47) rfl ex8 ?_
        obtain ⟨q9, eq9, hh⟩ := bi_bd hh
        refine go_ivI (pc := 48) rfl rfl (gX11_keptAt eq9) (Nat.le_of_ble_eq_true rfl) (bi_up (sX11_keptAt eq9) (Nat.le_of_ble_eq_true rfl)) ?_
        refine go_pi (pc := 51) rfl ?_
        refine bi_ite hh (fun hc hh => ?_) (fun hc hh => ?_)
        · refine go_cmpneT (pc := 52) rfl hc ?_
          exact sX11_blind_61 R9 l0 l2 hh
        · refine go_cmpneF (pc := 52) rfl hc ?_
          exact sX11_blind_55 R9 l0 l2 hh
def fX11_blind_9 (n : Nat) : Nat → ai_H → Nat → Int32 → Int32 → Option (Int32 × ai_H)
  | 0 => fun _ _ _ _ => none
  | k + 1 => fun h v0 v1 v2 => fX11_blind_9b n (fX11_blind_9 n k) h v0 v1 v2
theorem sX11_blind_9 {n : Nat} {q : Int32 × ai_H} : ∀ (k : Nat) (h : ai_H) (v0 : Nat) (v1 : Int32) (v2 : Int32) (lv : ai_L), ai_ld 0 lv = some (.ref v0) → ai_ld 1 lv = some (.int v1) → ai_ld 2 lv = some (.int v2) → fX11_blind_9 n k h v0 v1 v2 = some q → bi_go 2 tX11_blind n (fI n q) 9 lv [] h
  | 0 => fun _ _ _ _ _ _ _ _ hh => by cases hh
  | k + 1 => fun h v0 v1 v2 lv l0 l1 l2 hh => sX11_blind_9b  (sX11_blind_9  k) l0 l1 l2 hh
def fX11_blind (n : Nat) (h : ai_H) (a0 : Nat) : Option (Int32 × ai_H) :=
  (kO n h a0 11).bind fun _ =>
  (sF n h a0 11 2 (.int) (.int (0 : Int32))).bind fun h1 =>
  fX11_blind_9 n bi_K h1 a0 (0 : Int32) (0 : Int32)
theorem gX11_blind {n : Nat} {h : ai_H} {a0 : Nat} {q : Int32 × ai_H} (hh : fX11_blind n h a0 = some q) : kO n h a0 11 = some () := by
  obtain ⟨_, e, -⟩ := bi_bd hh
  exact e
theorem sX11_blind {n : Nat} {h : ai_H} {a0 : Nat} {q : Int32 × ai_H} (hh : fX11_blind n h a0 = some q) : bi_sp 3 228 [.ref a0] h n (fI n q) := by
  refine bi_en (D := 2) (T := tX11_blind) (funext fun pc => rfl) rfl (Nat.le_of_ble_eq_true rfl) ?_
  unfold fX11_blind at hh
  obtain ⟨_, eO, hh⟩ := bi_bd hh
  refine go_al (pc := 0) rfl (rfl : ai_ld 0 (lv_args 0 [.ref a0]) = some (.ref a0)) ?_
  refine go_pi (pc := 1) rfl ?_
  obtain ⟨h1, eh1, hh⟩ := bi_bd hh
  refine go_pf (pc := 2) rfl eh1 ?_
  refine go_pi (pc := 5) rfl ?_
  refine go_is (pc := 6) rfl ?_
  refine go_pi (pc := 7) rfl ?_
  refine go_is (pc := 8) rfl ?_
  exact sX11_blind_9  _ _ _ _ _ _ (bi_k1 (bi_k1 (rfl : ai_ld 0 (lv_args 0 [.ref a0]) = some (.ref a0)) rfl rfl) rfl rfl) (bi_k1 bi_e1 rfl rfl) bi_e1 hh
def fX11_manyOf_4b (n : Nat) (r4 : ai_H → Int32 → Int32 → Int32 → Option (Int32 × ai_H)) (h : ai_H) (v0 : Int32) (v1 : Int32) (v2 : Int32) : Option (Int32 × ai_H) :=
  if (10 : Int32) ≤ v2 then (
    some (v1, h))
  else (
    r4 h v0 (v1 + ((v0 >>> (v2 &&& 31)) &&& (1 : Int32))) (v2 + 1))
theorem sX11_manyOf_4b {n : Nat} {r4 : ai_H → Int32 → Int32 → Int32 → Option (Int32 × ai_H)} {q : Int32 × ai_H} {h : ai_H} {v0 : Int32} {v1 : Int32} {v2 : Int32} {lv : ai_L} (R4 : ∀ (h : ai_H) (v0 : Int32) (v1 : Int32) (v2 : Int32) (lv : ai_L), ai_ld 0 lv = some (.int v0) → ai_ld 1 lv = some (.int v1) → ai_ld 2 lv = some (.int v2) → r4 h v0 v1 v2 = some q → bi_go 0 tX11_manyOf n (fI n q) 4 lv [] h) (l0 : ai_ld 0 lv = some (.int v0)) (l1 : ai_ld 1 lv = some (.int v1)) (l2 : ai_ld 2 lv = some (.int v2)) (hh : fX11_manyOf_4b n r4 h v0 v1 v2 = some q) : bi_go 0 tX11_manyOf n (fI n q) 4 lv [] h := by
  unfold fX11_manyOf_4b at hh
  refine go_il (pc := 4) rfl l2 ?_
  refine go_pi (pc := 5) rfl ?_
  refine bi_ite hh (fun hc hh => ?_) (fun hc hh => ?_)
  · refine go_cmpgeT (pc := 7) rfl hc ?_
    refine go_il (pc := 24) rfl l1 ?_
    exact go_ri (pc := 25) rfl hh
  · refine go_cmpgeF (pc := 7) rfl hc ?_
    refine go_il (pc := 10) rfl l1 ?_
    refine go_il (pc := 11) rfl l0 ?_
    refine go_il (pc := 12) rfl l2 ?_
    refine go_ishr (pc := 13) rfl ?_
    refine go_pi (pc := 14) rfl ?_
    refine go_iand (pc := 15) rfl ?_
    refine go_iadd (pc := 16) rfl ?_
    refine go_is (pc := 17) rfl ?_
    refine go_inc (pc := 18) rfl (bi_k1 l2 rfl rfl) ?_
    refine go_goto (pc := 21) rfl ?_
    exact R4 _ _ _ _ _ (bi_k1 (bi_k1 l0 rfl rfl) rfl rfl) (bi_k1 bi_e1 rfl rfl) bi_e1 hh
def fX11_manyOf_4 (n : Nat) : Nat → ai_H → Int32 → Int32 → Int32 → Option (Int32 × ai_H)
  | 0 => fun _ _ _ _ => none
  | k + 1 => fun h v0 v1 v2 => fX11_manyOf_4b n (fX11_manyOf_4 n k) h v0 v1 v2
theorem sX11_manyOf_4 {n : Nat} {q : Int32 × ai_H} : ∀ (k : Nat) (h : ai_H) (v0 : Int32) (v1 : Int32) (v2 : Int32) (lv : ai_L), ai_ld 0 lv = some (.int v0) → ai_ld 1 lv = some (.int v1) → ai_ld 2 lv = some (.int v2) → fX11_manyOf_4 n k h v0 v1 v2 = some q → bi_go 0 tX11_manyOf n (fI n q) 4 lv [] h
  | 0 => fun _ _ _ _ _ _ _ _ hh => by cases hh
  | k + 1 => fun h v0 v1 v2 lv l0 l1 l2 hh => sX11_manyOf_4b  (sX11_manyOf_4  k) l0 l1 l2 hh
def fX11_manyOf (n : Nat) (h : ai_H) (a0 : Int32) : Option (Int32 × ai_H) :=
  fX11_manyOf_4 n bi_K h a0 (0 : Int32) (0 : Int32)
theorem sX11_manyOf {n : Nat} {h : ai_H} {a0 : Int32} {q : Int32 × ai_H} (hh : fX11_manyOf n h a0 = some q) : bi_sp 1 229 [.int a0] h n (fI n q) := by
  refine bi_en (D := 0) (T := tX11_manyOf) (funext fun pc => rfl) rfl (Nat.le_of_ble_eq_true rfl) ?_
  unfold fX11_manyOf at hh
  refine go_pi (pc := 0) rfl ?_
  refine go_is (pc := 1) rfl ?_
  refine go_pi (pc := 2) rfl ?_
  refine go_is (pc := 3) rfl ?_
  exact sX11_manyOf_4  _ _ _ _ _ _ (bi_k1 (bi_k1 (rfl : ai_ld 0 (lv_args 0 [.int a0]) = some (.int a0)) rfl rfl) rfl rfl) (bi_k1 bi_e1 rfl rfl) bi_e1 hh
def fX11_watch_98 (n : Nat) (r9 : ai_H → Nat → Int32 → Int32 → Option (Int32 × ai_H)) (r42 : ai_H → Nat → Int32 → Int32 → Int32 → Int32 → Option (Int32 × ai_H)) (h : ai_H) (v0 : Nat) (v1 : Int32) (v2 : Int32) (v4 : Int32) (s0 : Int32) : Option (Int32 × ai_H) :=
  r42 h v0 v1 v2 s0 (v4 + 1)
theorem sX11_watch_98 {n : Nat} {r9 : ai_H → Nat → Int32 → Int32 → Option (Int32 × ai_H)} {r42 : ai_H → Nat → Int32 → Int32 → Int32 → Int32 → Option (Int32 × ai_H)} {q : Int32 × ai_H} {h : ai_H} {v0 : Nat} {v1 : Int32} {v2 : Int32} {v4 : Int32} {s0 : Int32} {lv : ai_L} (R9 : ∀ (h : ai_H) (v0 : Nat) (v1 : Int32) (v2 : Int32) (lv : ai_L), ai_ld 0 lv = some (.ref v0) → ai_ld 1 lv = some (.int v1) → ai_ld 2 lv = some (.int v2) → r9 h v0 v1 v2 = some q → bi_go 1 tX11_watch n (fI n q) 9 lv [] h) (R42 : ∀ (h : ai_H) (v0 : Nat) (v1 : Int32) (v2 : Int32) (v3 : Int32) (v4 : Int32) (lv : ai_L), ai_ld 0 lv = some (.ref v0) → ai_ld 1 lv = some (.int v1) → ai_ld 2 lv = some (.int v2) → ai_ld 3 lv = some (.int v3) → ai_ld 4 lv = some (.int v4) → r42 h v0 v1 v2 v3 v4 = some q → bi_go 1 tX11_watch n (fI n q) 42 lv [] h) (l0 : ai_ld 0 lv = some (.ref v0)) (l1 : ai_ld 1 lv = some (.int v1)) (l2 : ai_ld 2 lv = some (.int v2)) (l4 : ai_ld 4 lv = some (.int v4)) (hh : fX11_watch_98 n r9 r42 h v0 v1 v2 v4 s0 = some q) : bi_go 1 tX11_watch n (fI n q) 98 lv [.int s0] h := by
  unfold fX11_watch_98 at hh
  refine go_is (pc := 98) rfl ?_
  refine go_inc (pc := 99) rfl (bi_k1 l4 rfl rfl) ?_
  refine go_goto (pc := 102) rfl ?_
  exact R42 _ _ _ _ _ _ _ (bi_k1 (bi_k1 l0 rfl rfl) rfl rfl) (bi_k1 (bi_k1 l1 rfl rfl) rfl rfl) (bi_k1 (bi_k1 l2 rfl rfl) rfl rfl) (bi_k1 bi_e1 rfl rfl) bi_e1 hh
def fX11_watch_93 (n : Nat) (r9 : ai_H → Nat → Int32 → Int32 → Option (Int32 × ai_H)) (r42 : ai_H → Nat → Int32 → Int32 → Int32 → Int32 → Option (Int32 × ai_H)) (h : ai_H) (v0 : Nat) (v1 : Int32) (v2 : Int32) (v4 : Int32) : Option (Int32 × ai_H) :=
  fX11_watch_98 n r9 r42 h v0 v1 v2 v4 (1 : Int32)
theorem sX11_watch_93 {n : Nat} {r9 : ai_H → Nat → Int32 → Int32 → Option (Int32 × ai_H)} {r42 : ai_H → Nat → Int32 → Int32 → Int32 → Int32 → Option (Int32 × ai_H)} {q : Int32 × ai_H} {h : ai_H} {v0 : Nat} {v1 : Int32} {v2 : Int32} {v4 : Int32} {lv : ai_L} (R9 : ∀ (h : ai_H) (v0 : Nat) (v1 : Int32) (v2 : Int32) (lv : ai_L), ai_ld 0 lv = some (.ref v0) → ai_ld 1 lv = some (.int v1) → ai_ld 2 lv = some (.int v2) → r9 h v0 v1 v2 = some q → bi_go 1 tX11_watch n (fI n q) 9 lv [] h) (R42 : ∀ (h : ai_H) (v0 : Nat) (v1 : Int32) (v2 : Int32) (v3 : Int32) (v4 : Int32) (lv : ai_L), ai_ld 0 lv = some (.ref v0) → ai_ld 1 lv = some (.int v1) → ai_ld 2 lv = some (.int v2) → ai_ld 3 lv = some (.int v3) → ai_ld 4 lv = some (.int v4) → r42 h v0 v1 v2 v3 v4 = some q → bi_go 1 tX11_watch n (fI n q) 42 lv [] h) (l0 : ai_ld 0 lv = some (.ref v0)) (l1 : ai_ld 1 lv = some (.int v1)) (l2 : ai_ld 2 lv = some (.int v2)) (l4 : ai_ld 4 lv = some (.int v4)) (hh : fX11_watch_93 n r9 r42 h v0 v1 v2 v4 = some q) : bi_go 1 tX11_watch n (fI n q) 93 lv [] h := by
  unfold fX11_watch_93 at hh
  refine go_pi (pc := 93) rfl ?_
  refine go_goto (pc := 94) rfl ?_
  exact sX11_watch_98 R9 R42 l0 l1 l2 l4 hh
def fX11_watch_97 (n : Nat) (r9 : ai_H → Nat → Int32 → Int32 → Option (Int32 × ai_H)) (r42 : ai_H → Nat → Int32 → Int32 → Int32 → Int32 → Option (Int32 × ai_H)) (h : ai_H) (v0 : Nat) (v1 : Int32) (v2 : Int32) (v4 : Int32) : Option (Int32 × ai_H) :=
  fX11_watch_98 n r9 r42 h v0 v1 v2 v4 (0 : Int32)
theorem sX11_watch_97 {n : Nat} {r9 : ai_H → Nat → Int32 → Int32 → Option (Int32 × ai_H)} {r42 : ai_H → Nat → Int32 → Int32 → Int32 → Int32 → Option (Int32 × ai_H)} {q : Int32 × ai_H} {h : ai_H} {v0 : Nat} {v1 : Int32} {v2 : Int32} {v4 : Int32} {lv : ai_L} (R9 : ∀ (h : ai_H) (v0 : Nat) (v1 : Int32) (v2 : Int32) (lv : ai_L), ai_ld 0 lv = some (.ref v0) → ai_ld 1 lv = some (.int v1) → ai_ld 2 lv = some (.int v2) → r9 h v0 v1 v2 = some q → bi_go 1 tX11_watch n (fI n q) 9 lv [] h) (R42 : ∀ (h : ai_H) (v0 : Nat) (v1 : Int32) (v2 : Int32) (v3 : Int32) (v4 : Int32) (lv : ai_L), ai_ld 0 lv = some (.ref v0) → ai_ld 1 lv = some (.int v1) → ai_ld 2 lv = some (.int v2) → ai_ld 3 lv = some (.int v3) → ai_ld 4 lv = some (.int v4) → r42 h v0 v1 v2 v3 v4 = some q → bi_go 1 tX11_watch n (fI n q) 42 lv [] h) (l0 : ai_ld 0 lv = some (.ref v0)) (l1 : ai_ld 1 lv = some (.int v1)) (l2 : ai_ld 2 lv = some (.int v2)) (l4 : ai_ld 4 lv = some (.int v4)) (hh : fX11_watch_97 n r9 r42 h v0 v1 v2 v4 = some q) : bi_go 1 tX11_watch n (fI n q) 97 lv [] h := by
  unfold fX11_watch_97 at hh
  refine go_pi (pc := 97) rfl ?_
  exact sX11_watch_98 R9 R42 l0 l1 l2 l4 hh
def fX11_watch_111 (n : Nat) (r9 : ai_H → Nat → Int32 → Int32 → Option (Int32 × ai_H)) (h : ai_H) (v0 : Nat) (v1 : Int32) (v2 : Int32) : Option (Int32 × ai_H) :=
  r9 h v0 v1 (v2 + 1)
theorem sX11_watch_111 {n : Nat} {r9 : ai_H → Nat → Int32 → Int32 → Option (Int32 × ai_H)} {q : Int32 × ai_H} {h : ai_H} {v0 : Nat} {v1 : Int32} {v2 : Int32} {lv : ai_L} (R9 : ∀ (h : ai_H) (v0 : Nat) (v1 : Int32) (v2 : Int32) (lv : ai_L), ai_ld 0 lv = some (.ref v0) → ai_ld 1 lv = some (.int v1) → ai_ld 2 lv = some (.int v2) → r9 h v0 v1 v2 = some q → bi_go 1 tX11_watch n (fI n q) 9 lv [] h) (l0 : ai_ld 0 lv = some (.ref v0)) (l1 : ai_ld 1 lv = some (.int v1)) (l2 : ai_ld 2 lv = some (.int v2)) (hh : fX11_watch_111 n r9 h v0 v1 v2 = some q) : bi_go 1 tX11_watch n (fI n q) 111 lv [] h := by
  unfold fX11_watch_111 at hh
  refine go_inc (pc := 111) rfl l2 ?_
  refine go_goto (pc := 114) rfl ?_
  exact R9 _ _ _ _ _ (bi_k1 l0 rfl rfl) (bi_k1 l1 rfl rfl) bi_e1 hh
def fX11_watch_42b (n : Nat) (r9 : ai_H → Nat → Int32 → Int32 → Option (Int32 × ai_H)) (r42 : ai_H → Nat → Int32 → Int32 → Int32 → Int32 → Option (Int32 × ai_H)) (h : ai_H) (v0 : Nat) (v1 : Int32) (v2 : Int32) (v3 : Int32) (v4 : Int32) : Option (Int32 × ai_H) :=
  (pI n h v0 11 13).bind fun x1 =>
  if x1 ≤ v4 then (
    if v3 = 0 then (
      fX11_watch_111 n r9 h v0 v1 v2)
    else (
      fX11_watch_111 n r9 h v0 v2 v2))
  else (
    if v3 = 0 then (
      fX11_watch_97 n r9 r42 h v0 v1 v2 v4)
    else (
      (pR n h v0 11 63).bind fun x2 =>
      (gB n h x2 v4).bind fun x3 =>
      if x3 = 0 then (
        fX11_watch_93 n r9 r42 h v0 v1 v2 v4)
      else (
        (pR n h v0 11 28).bind fun x4 =>
        (gX 1 n h x4 v4).bind fun x5 =>
        (fX11_isOf n h v2 x5).bind fun q6 =>
        if ¬ q6.1 = 0 then (
          fX11_watch_93 n r9 r42 q6.2 v0 v1 v2 v4)
        else (
          (pR n q6.2 v0 11 29).bind fun x7 =>
          (gX 1 n q6.2 x7 v4).bind fun x8 =>
          (fX11_isOf n q6.2 v2 x8).bind fun q9 =>
          if q9.1 = 0 then (
            fX11_watch_97 n r9 r42 q9.2 v0 v1 v2 v4)
          else (
            fX11_watch_93 n r9 r42 q9.2 v0 v1 v2 v4)))))
theorem sX11_watch_42b {n : Nat} {r9 : ai_H → Nat → Int32 → Int32 → Option (Int32 × ai_H)} {r42 : ai_H → Nat → Int32 → Int32 → Int32 → Int32 → Option (Int32 × ai_H)} {q : Int32 × ai_H} {h : ai_H} {v0 : Nat} {v1 : Int32} {v2 : Int32} {v3 : Int32} {v4 : Int32} {lv : ai_L} (R9 : ∀ (h : ai_H) (v0 : Nat) (v1 : Int32) (v2 : Int32) (lv : ai_L), ai_ld 0 lv = some (.ref v0) → ai_ld 1 lv = some (.int v1) → ai_ld 2 lv = some (.int v2) → r9 h v0 v1 v2 = some q → bi_go 1 tX11_watch n (fI n q) 9 lv [] h) (R42 : ∀ (h : ai_H) (v0 : Nat) (v1 : Int32) (v2 : Int32) (v3 : Int32) (v4 : Int32) (lv : ai_L), ai_ld 0 lv = some (.ref v0) → ai_ld 1 lv = some (.int v1) → ai_ld 2 lv = some (.int v2) → ai_ld 3 lv = some (.int v3) → ai_ld 4 lv = some (.int v4) → r42 h v0 v1 v2 v3 v4 = some q → bi_go 1 tX11_watch n (fI n q) 42 lv [] h) (l0 : ai_ld 0 lv = some (.ref v0)) (l1 : ai_ld 1 lv = some (.int v1)) (l2 : ai_ld 2 lv = some (.int v2)) (l3 : ai_ld 3 lv = some (.int v3)) (l4 : ai_ld 4 lv = some (.int v4)) (hh : fX11_watch_42b n r9 r42 h v0 v1 v2 v3 v4 = some q) : bi_go 1 tX11_watch n (fI n q) 42 lv [] h := by
  unfold fX11_watch_42b at hh
  refine go_il (pc := 42) rfl l4 ?_
  refine go_al (pc := 44) rfl l0 ?_
  obtain ⟨x1, ex1, hh⟩ := bi_bd hh
  refine go_gfI (pc := 45) rfl ex1 ?_
  refine bi_ite hh (fun hc hh => ?_) (fun hc hh => ?_)
  · refine go_cmpgeT (pc := 48) rfl hc ?_
    refine go_il (pc := 105) rfl l3 ?_
    refine bi_ite hh (fun hc hh => ?_) (fun hc hh => ?_)
    · refine go_ifeqT (pc := 106) rfl hc ?_
      exact sX11_watch_111 R9 l0 l1 l2 hh
    · refine go_ifeqF (pc := 106) rfl hc ?_
      refine go_il (pc := 109) rfl l2 ?_
      refine go_is (pc := 110) rfl ?_
      exact sX11_watch_111 R9 (bi_k1 l0 rfl rfl) bi_e1 (bi_k1 l2 rfl rfl) hh
  · refine go_cmpgeF (pc := 48) rfl hc ?_
    refine go_il (pc := 51) rfl l3 ?_
    refine bi_ite hh (fun hc hh => ?_) (fun hc hh => ?_)
    · refine go_ifeqT (pc := 52) rfl hc ?_
      exact sX11_watch_97 R9 R42 l0 l1 l2 l4 hh
    · refine go_ifeqF (pc := 52) rfl hc ?_
      refine go_al (pc := 55) rfl l0 ?_
      obtain ⟨x2, ex2, hh⟩ := bi_bd hh
      refine go_gfR (pc := 56) rfl ex2 ?_
      refine go_il (pc := 59) rfl l4 ?_
      obtain ⟨x3, ex3, hh⟩ := bi_bd hh
      refine go_bald (pc := 61) rfl ex3 ?_
      refine bi_ite hh (fun hc hh => ?_) (fun hc hh => ?_)
      · refine go_ifeqT (pc := 62) rfl hc ?_
        exact sX11_watch_93 R9 R42 l0 l1 l2 l4 hh
      · refine go_ifeqF (pc := 62) rfl hc ?_
        refine go_il (pc := 65) rfl l2 ?_
        refine go_al (pc := 66) rfl l0 ?_
        obtain ⟨x4, ex4, hh⟩ := bi_bd hh
        refine go_gfR (pc := 67) rfl ex4 ?_
        refine go_il (pc := 70) rfl l4 ?_
        obtain ⟨x5, ex5, hh⟩ := bi_bd hh
        refine go_iald (pc := 72) rfl ex5 ?_
        obtain ⟨q6, eq6, hh⟩ := bi_bd hh
        refine go_iSI (pc := 73) rfl (Nat.le_of_ble_eq_true rfl) rfl (Nat.le_of_ble_eq_true rfl) (bi_up (sX11_isOf eq6) (Nat.le_of_ble_eq_true rfl)) ?_
        refine bi_ite hh (fun hc hh => ?_) (fun hc hh => ?_)
        · refine go_ifneT (pc := 76) rfl hc ?_
          exact sX11_watch_93 R9 R42 l0 l1 l2 l4 hh
        · refine go_ifneF (pc := 76) rfl hc ?_
          refine go_il (pc := 79) rfl l2 ?_
          refine go_al (pc := 80) rfl l0 ?_
          obtain ⟨x7, ex7, hh⟩ := bi_bd hh
          refine go_gfR (pc := 81) rfl ex7 ?_
          refine go_il (pc := 84) rfl l4 ?_
          obtain ⟨x8, ex8, hh⟩ := bi_bd hh
          refine go_iald (pc := 86) rfl ex8 ?_
          obtain ⟨q9, eq9, hh⟩ := bi_bd hh
          refine go_iSI (pc := 87) rfl (Nat.le_of_ble_eq_true rfl) rfl (Nat.le_of_ble_eq_true rfl) (bi_up (sX11_isOf eq9) (Nat.le_of_ble_eq_true rfl)) ?_
          refine bi_ite hh (fun hc hh => ?_) (fun hc hh => ?_)
          · refine go_ifeqT (pc := 90) rfl hc ?_
            exact sX11_watch_97 R9 R42 l0 l1 l2 l4 hh
          · refine go_ifeqF (pc := 90) rfl hc ?_
            exact sX11_watch_93 R9 R42 l0 l1 l2 l4 hh
def fX11_watch_42 (n : Nat) (r9 : ai_H → Nat → Int32 → Int32 → Option (Int32 × ai_H)) : Nat → ai_H → Nat → Int32 → Int32 → Int32 → Int32 → Option (Int32 × ai_H)
  | 0 => fun _ _ _ _ _ _ => none
  | k + 1 => fun h v0 v1 v2 v3 v4 => fX11_watch_42b n r9 (fX11_watch_42 n r9 k) h v0 v1 v2 v3 v4
theorem sX11_watch_42 {n : Nat} {r9 : ai_H → Nat → Int32 → Int32 → Option (Int32 × ai_H)} {q : Int32 × ai_H} (R9 : ∀ (h : ai_H) (v0 : Nat) (v1 : Int32) (v2 : Int32) (lv : ai_L), ai_ld 0 lv = some (.ref v0) → ai_ld 1 lv = some (.int v1) → ai_ld 2 lv = some (.int v2) → r9 h v0 v1 v2 = some q → bi_go 1 tX11_watch n (fI n q) 9 lv [] h) : ∀ (k : Nat) (h : ai_H) (v0 : Nat) (v1 : Int32) (v2 : Int32) (v3 : Int32) (v4 : Int32) (lv : ai_L), ai_ld 0 lv = some (.ref v0) → ai_ld 1 lv = some (.int v1) → ai_ld 2 lv = some (.int v2) → ai_ld 3 lv = some (.int v3) → ai_ld 4 lv = some (.int v4) → fX11_watch_42 n r9 k h v0 v1 v2 v3 v4 = some q → bi_go 1 tX11_watch n (fI n q) 42 lv [] h
  | 0 => fun _ _ _ _ _ _ _ _ _ _ _ _ hh => by cases hh
  | k + 1 => fun h v0 v1 v2 v3 v4 lv l0 l1 l2 l3 l4 hh => sX11_watch_42b R9 (sX11_watch_42 R9 k) l0 l1 l2 l3 l4 hh
def fX11_watch_37 (n : Nat) (r9 : ai_H → Nat → Int32 → Int32 → Option (Int32 × ai_H)) (h : ai_H) (v0 : Nat) (v1 : Int32) (v2 : Int32) : Option (Int32 × ai_H) :=
  fX11_watch_42 n r9 bi_K h v0 v1 v2 (1 : Int32) (0 : Int32)
theorem sX11_watch_37 {n : Nat} {r9 : ai_H → Nat → Int32 → Int32 → Option (Int32 × ai_H)} {q : Int32 × ai_H} {h : ai_H} {v0 : Nat} {v1 : Int32} {v2 : Int32} {lv : ai_L} (R9 : ∀ (h : ai_H) (v0 : Nat) (v1 : Int32) (v2 : Int32) (lv : ai_L), ai_ld 0 lv = some (.ref v0) → ai_ld 1 lv = some (.int v1) → ai_ld 2 lv = some (.int v2) → r9 h v0 v1 v2 = some q → bi_go 1 tX11_watch n (fI n q) 9 lv [] h) (l0 : ai_ld 0 lv = some (.ref v0)) (l1 : ai_ld 1 lv = some (.int v1)) (l2 : ai_ld 2 lv = some (.int v2)) (hh : fX11_watch_37 n r9 h v0 v1 v2 = some q) : bi_go 1 tX11_watch n (fI n q) 37 lv [] h := by
  unfold fX11_watch_37 at hh
  refine go_pi (pc := 37) rfl ?_
  refine go_is (pc := 38) rfl ?_
  refine go_pi (pc := 39) rfl ?_
  refine go_is (pc := 40) rfl ?_
  exact sX11_watch_42 R9 _ _ _ _ _ _ _ _ (bi_k1 (bi_k1 l0 rfl rfl) rfl rfl) (bi_k1 (bi_k1 l1 rfl rfl) rfl rfl) (bi_k1 (bi_k1 l2 rfl rfl) rfl rfl) (bi_k1 bi_e1 rfl rfl) bi_e1 hh
def fX11_watch_9b (n : Nat) (r9 : ai_H → Nat → Int32 → Int32 → Option (Int32 × ai_H)) (h : ai_H) (v0 : Nat) (v1 : Int32) (v2 : Int32) : Option (Int32 × ai_H) :=
  (pI n h v0 11 12).bind fun x1 =>
  if ((1 : Int32) <<< (x1 &&& 31)) ≤ v2 then (
    some (v1, h))
  else (
    if v1 < 0 then (
      fX11_watch_37 n r9 h v0 v1 v2)
    else (
      (fX11_manyOf n h v2).bind fun q2 =>
      (fX11_manyOf n q2.2 v1).bind fun q3 =>
      if q2.1 < q3.1 then (
        fX11_watch_37 n r9 q3.2 v0 v1 v2)
      else (
        fX11_watch_111 n r9 q3.2 v0 v1 v2)))
theorem sX11_watch_9b {n : Nat} {r9 : ai_H → Nat → Int32 → Int32 → Option (Int32 × ai_H)} {q : Int32 × ai_H} {h : ai_H} {v0 : Nat} {v1 : Int32} {v2 : Int32} {lv : ai_L} (R9 : ∀ (h : ai_H) (v0 : Nat) (v1 : Int32) (v2 : Int32) (lv : ai_L), ai_ld 0 lv = some (.ref v0) → ai_ld 1 lv = some (.int v1) → ai_ld 2 lv = some (.int v2) → r9 h v0 v1 v2 = some q → bi_go 1 tX11_watch n (fI n q) 9 lv [] h) (l0 : ai_ld 0 lv = some (.ref v0)) (l1 : ai_ld 1 lv = some (.int v1)) (l2 : ai_ld 2 lv = some (.int v2)) (hh : fX11_watch_9b n r9 h v0 v1 v2 = some q) : bi_go 1 tX11_watch n (fI n q) 9 lv [] h := by
  unfold fX11_watch_9b at hh
  refine go_il (pc := 9) rfl l2 ?_
  refine go_pi (pc := 10) rfl ?_
  refine go_al (pc := 11) rfl l0 ?_
  obtain ⟨x1, ex1, hh⟩ := bi_bd hh
  refine go_gfI (pc := 12) rfl ex1 ?_
  refine go_ishl (pc := 15) rfl ?_
  refine bi_ite hh (fun hc hh => ?_) (fun hc hh => ?_)
  · refine go_cmpgeT (pc := 16) rfl hc ?_
    refine go_il (pc := 117) rfl l1 ?_
    exact go_ri (pc := 118) rfl hh
  · refine go_cmpgeF (pc := 16) rfl hc ?_
    refine go_il (pc := 19) rfl l1 ?_
    refine bi_ite hh (fun hc hh => ?_) (fun hc hh => ?_)
    · refine go_ifltT (pc := 20) rfl hc ?_
      exact sX11_watch_37 R9 l0 l1 l2 hh
    · refine go_ifltF (pc := 20) rfl hc ?_
      refine go_il (pc := 23) rfl l2 ?_
      obtain ⟨q2, eq2, hh⟩ := bi_bd hh
      refine go_iSI (pc := 24) rfl (Nat.le_of_ble_eq_true rfl) rfl (Nat.le_of_ble_eq_true rfl) (bi_up (sX11_manyOf eq2) (Nat.le_of_ble_eq_true rfl)) ?_
      refine go_il (pc := 27) rfl l1 ?_
      obtain ⟨q3, eq3, hh⟩ := bi_bd hh
      refine go_iSI (pc := 28) rfl (Nat.le_of_ble_eq_true rfl) rfl (Nat.le_of_ble_eq_true rfl) (bi_up (sX11_manyOf eq3) (Nat.le_of_ble_eq_true rfl)) ?_
      refine bi_ite hh (fun hc hh => ?_) (fun hc hh => ?_)
      · refine go_cmpltT (pc := 31) rfl hc ?_
        exact sX11_watch_37 R9 l0 l1 l2 hh
      · refine go_cmpltF (pc := 31) rfl hc ?_
        refine go_goto (pc := 34) rfl ?_
        exact sX11_watch_111 R9 l0 l1 l2 hh
def fX11_watch_9 (n : Nat) : Nat → ai_H → Nat → Int32 → Int32 → Option (Int32 × ai_H)
  | 0 => fun _ _ _ _ => none
  | k + 1 => fun h v0 v1 v2 => fX11_watch_9b n (fX11_watch_9 n k) h v0 v1 v2
theorem sX11_watch_9 {n : Nat} {q : Int32 × ai_H} : ∀ (k : Nat) (h : ai_H) (v0 : Nat) (v1 : Int32) (v2 : Int32) (lv : ai_L), ai_ld 0 lv = some (.ref v0) → ai_ld 1 lv = some (.int v1) → ai_ld 2 lv = some (.int v2) → fX11_watch_9 n k h v0 v1 v2 = some q → bi_go 1 tX11_watch n (fI n q) 9 lv [] h
  | 0 => fun _ _ _ _ _ _ _ _ hh => by cases hh
  | k + 1 => fun h v0 v1 v2 lv l0 l1 l2 hh => sX11_watch_9b  (sX11_watch_9  k) l0 l1 l2 hh
def fX11_watch (n : Nat) (h : ai_H) (a0 : Nat) : Option (Int32 × ai_H) :=
  (kO n h a0 11).bind fun _ =>
  (sF n h a0 11 2 (.int) (.int (0 : Int32))).bind fun h1 =>
  fX11_watch_9 n bi_K h1 a0 (-1 : Int32) (0 : Int32)
theorem gX11_watch {n : Nat} {h : ai_H} {a0 : Nat} {q : Int32 × ai_H} (hh : fX11_watch n h a0 = some q) : kO n h a0 11 = some () := by
  obtain ⟨_, e, -⟩ := bi_bd hh
  exact e
theorem sX11_watch {n : Nat} {h : ai_H} {a0 : Nat} {q : Int32 × ai_H} (hh : fX11_watch n h a0 = some q) : bi_sp 2 230 [.ref a0] h n (fI n q) := by
  refine bi_en (D := 1) (T := tX11_watch) (funext fun pc => rfl) rfl (Nat.le_of_ble_eq_true rfl) ?_
  unfold fX11_watch at hh
  obtain ⟨_, eO, hh⟩ := bi_bd hh
  refine go_al (pc := 0) rfl (rfl : ai_ld 0 (lv_args 0 [.ref a0]) = some (.ref a0)) ?_
  refine go_pi (pc := 1) rfl ?_
  obtain ⟨h1, eh1, hh⟩ := bi_bd hh
  refine go_pf (pc := 2) rfl eh1 ?_
  refine go_pi (pc := 5) rfl ?_
  refine go_is (pc := 6) rfl ?_
  refine go_pi (pc := 7) rfl ?_
  refine go_is (pc := 8) rfl ?_
  exact sX11_watch_9  _ _ _ _ _ _ (bi_k1 (bi_k1 (rfl : ai_ld 0 (lv_args 0 [.ref a0]) = some (.ref a0)) rfl rfl) rfl rfl) (bi_k1 bi_e1 rfl rfl) bi_e1 hh
def fX11_ageBy_140 (n : Nat) (r53 : ai_H → Nat → Int32 → Int32 → Int32 → Option (Int32 × ai_H)) (h : ai_H) (v0 : Nat) (v3 : Int32) (v4 : Int32) (v5 : Int32) : Option (Int32 × ai_H) :=
  r53 h v0 v3 v4 (v5 + 1)
theorem sX11_ageBy_140 {n : Nat} {r53 : ai_H → Nat → Int32 → Int32 → Int32 → Option (Int32 × ai_H)} {q : Int32 × ai_H} {h : ai_H} {v0 : Nat} {v3 : Int32} {v4 : Int32} {v5 : Int32} {lv : ai_L} (R53 : ∀ (h : ai_H) (v0 : Nat) (v3 : Int32) (v4 : Int32) (v5 : Int32) (lv : ai_L), ai_ld 0 lv = some (.ref v0) → ai_ld 3 lv = some (.int v3) → ai_ld 4 lv = some (.int v4) → ai_ld 5 lv = some (.int v5) → r53 h v0 v3 v4 v5 = some q → bi_go 1 tX11_ageBy n (fI n q) 53 lv [] h) (l0 : ai_ld 0 lv = some (.ref v0)) (l3 : ai_ld 3 lv = some (.int v3)) (l4 : ai_ld 4 lv = some (.int v4)) (l5 : ai_ld 5 lv = some (.int v5)) (hh : fX11_ageBy_140 n r53 h v0 v3 v4 v5 = some q) : bi_go 1 tX11_ageBy n (fI n q) 140 lv [] h := by
  unfold fX11_ageBy_140 at hh
  refine go_inc (pc := 140) rfl l5 ?_
  refine go_goto (pc := 143) rfl ?_
  exact R53 _ _ _ _ _ _ (bi_k1 l0 rfl rfl) (bi_k1 l3 rfl rfl) (bi_k1 l4 rfl rfl) bi_e1 hh
def fX11_ageBy_53b (n : Nat) (r53 : ai_H → Nat → Int32 → Int32 → Int32 → Option (Int32 × ai_H)) (h : ai_H) (v0 : Nat) (v3 : Int32) (v4 : Int32) (v5 : Int32) : Option (Int32 × ai_H) :=
  (pI n h v0 11 14).bind fun x1 =>
  if x1 ≤ v5 then (
    some (v4, h))
  else (
    (pR n h v0 11 80).bind fun x2 =>
    (gX 1 n h x2 v5).bind fun x3 =>
    (pI n h v0 11 13).bind fun x4 =>
    if ¬ x3 = x4 then (
      (fX11_isOf n h v3 x3).bind fun q5 =>
      if ¬ q5.1 = 0 then (
        some ((-1 : Int32), q5.2))
      else (
        (fX11_isOpen n q5.2 v0 x3 v5).bind fun q6 =>
        if q6.1 = 0 then (
          some ((-1 : Int32), q6.2))
        else (
          (pR n q6.2 v0 11 60).bind fun x7 =>
          (gX 1 n q6.2 x7 v5).bind fun x8 =>
          (fX11_isAtEnd n q6.2 v0 x3 x8).bind fun q9 =>
          if ¬ q9.1 = 0 then (
            (pR n q9.2 v0 11 62).bind fun x10 =>
            (gX 1 n q9.2 x10 x3).bind fun x11 =>
            fX11_ageBy_140 n r53 q9.2 v0 (v3 ||| ((1 : Int32) <<< (x3 &&& 31))) (v4 + x11) v5)
          else (
            some ((-1 : Int32), q9.2)))))
    else (
      fX11_ageBy_140 n r53 h v0 v3 v4 v5))
theorem sX11_ageBy_53b {n : Nat} {r53 : ai_H → Nat → Int32 → Int32 → Int32 → Option (Int32 × ai_H)} {q : Int32 × ai_H} {h : ai_H} {v0 : Nat} {v3 : Int32} {v4 : Int32} {v5 : Int32} {lv : ai_L} (R53 : ∀ (h : ai_H) (v0 : Nat) (v3 : Int32) (v4 : Int32) (v5 : Int32) (lv : ai_L), ai_ld 0 lv = some (.ref v0) → ai_ld 3 lv = some (.int v3) → ai_ld 4 lv = some (.int v4) → ai_ld 5 lv = some (.int v5) → r53 h v0 v3 v4 v5 = some q → bi_go 1 tX11_ageBy n (fI n q) 53 lv [] h) (l0 : ai_ld 0 lv = some (.ref v0)) (l3 : ai_ld 3 lv = some (.int v3)) (l4 : ai_ld 4 lv = some (.int v4)) (l5 : ai_ld 5 lv = some (.int v5)) (hh : fX11_ageBy_53b n r53 h v0 v3 v4 v5 = some q) : bi_go 1 tX11_ageBy n (fI n q) 53 lv [] h := by
  unfold fX11_ageBy_53b at hh
  refine go_il (pc := 53) rfl l5 ?_
  refine go_al (pc := 55) rfl l0 ?_
  obtain ⟨x1, ex1, hh⟩ := bi_bd hh
  refine go_gfI (pc := 56) rfl ex1 ?_
  refine bi_ite hh (fun hc hh => ?_) (fun hc hh => ?_)
  · refine go_cmpgeT (pc := 59) rfl hc ?_
    refine go_il (pc := 146) rfl l4 ?_
    exact go_ri (pc := 148) rfl hh
  · refine go_cmpgeF (pc := 59) rfl hc ?_
    refine go_al (pc := 62) rfl l0 ?_
    obtain ⟨x2, ex2, hh⟩ := bi_bd hh
    refine go_gfR (pc := 63) rfl ex2 ?_
    refine go_il (pc := 66) rfl l5 ?_
    obtain ⟨x3, ex3, hh⟩ := bi_bd hh
    refine go_iald (pc := 68) rfl ex3 ?_
    refine go_is (pc := 69) rfl ?_
    refine go_il (pc := 71) rfl bi_e1 ?_
    refine go_al (pc := 73) rfl (bi_k1 l0 rfl rfl) ?_
    obtain ⟨x4, ex4, hh⟩ := bi_bd hh
    refine go_gfI (pc := 74) rfl ex4 ?_
    refine bi_ite hh (fun hc hh => ?_) (fun hc hh => ?_)
    · refine go_cmpneT (pc := 77) rfl hc ?_
      refine go_il (pc := 83) rfl (bi_k1 l3 rfl rfl) ?_
      refine go_il (pc := 84) rfl bi_e1 ?_
      obtain ⟨q5, eq5, hh⟩ := bi_bd hh
      refine go_iSI (pc := 86) rfl (Nat.le_of_ble_eq_true rfl) rfl (Nat.le_of_ble_eq_true rfl) (bi_up (sX11_isOf eq5) (Nat.le_of_ble_eq_true rfl)) ?_
      refine bi_ite hh (fun hc hh => ?_) (fun hc hh => ?_)
      · refine go_ifneT (pc := 89) rfl hc ?_
        refine go_pi (pc := 119) rfl ?_
        exact go_ri (pc := 120) rfl hh
      · refine go_ifneF (pc := 89) rfl hc ?_
        refine go_al (pc := 92) rfl (bi_k1 l0 rfl rfl) ?_
        refine go_il (pc := 93) rfl bi_e1 ?_
        refine go_il (pc := 95) rfl (bi_k1 l5 rfl rfl) ?_
        obtain ⟨q6, eq6, hh⟩ := bi_bd hh
        refine go_ivI (pc := 97) rfl rfl (gX11_isOpen eq6) (Nat.le_of_ble_eq_true rfl) (bi_up (sX11_isOpen eq6) (Nat.le_of_ble_eq_true rfl)) ?_
        refine bi_ite hh (fun hc hh => ?_) (fun hc hh => ?_)
        · refine go_ifeqT (pc := 100) rfl hc ?_
          refine go_pi (pc := 119) rfl ?_
          exact go_ri (pc := 120) rfl hh
        · refine go_ifeqF (pc := 100) rfl hc ?_
          refine go_al (pc := 103) rfl (bi_k1 l0 rfl rfl) ?_
          refine go_il (pc := 104) rfl bi_e1 ?_
          refine go_al (pc := 106) rfl (bi_k1 l0 rfl rfl) ?_
          obtain ⟨x7, ex7, hh⟩ := bi_bd hh
          refine go_gfR (pc := 107) rfl ex7 ?_
          refine go_il (pc := 110) rfl (bi_k1 l5 rfl rfl) ?_
          obtain ⟨x8, ex8, hh⟩ := bi_bd hh
          refine go_iald (pc := 112) rfl ex8 ?_
          obtain ⟨q9, eq9, hh⟩ := bi_bd hh
          refine go_ivI (pc := 113) rfl rfl (gX11_isAtEnd eq9) (Nat.le_of_ble_eq_true rfl) (bi_up (sX11_isAtEnd eq9) (Nat.le_of_ble_eq_true rfl)) ?_
          refine bi_ite hh (fun hc hh => ?_) (fun hc hh => ?_)
          · refine go_ifneT (pc := 116) rfl hc ?_
            refine go_il (pc := 121) rfl (bi_k1 l3 rfl rfl) ?_
            refine go_pi (pc := 122) rfl ?_
            refine go_il (pc := 123) rfl bi_e1 ?_
            refine go_ishl (pc := 125) rfl ?_
            refine go_ior (pc := 126) rfl ?_
            refine go_is (pc := 127) rfl ?_
            refine go_il (pc := 128) rfl (bi_k1 (bi_k1 l4 rfl rfl) rfl rfl) ?_
            refine go_al (pc := 130) rfl (bi_k1 (bi_k1 l0 rfl rfl) rfl rfl) ?_
            obtain ⟨x10, ex10, hh⟩ := bi_bd hh
            refine go_gfR (pc := 131) rfl ex10 ?_
            refine go_il (pc := 134) rfl (bi_k1 bi_e1 rfl rfl) ?_
            obtain ⟨x11, ex11, hh⟩ := bi_bd hh
            refine go_iald (pc := 136) rfl ex11 ?_
            refine go_iadd (pc := 137) rfl ?_
            refine go_is (pc := 138) rfl ?_
            exact sX11_ageBy_140 R53 (bi_k1 (bi_k1 (bi_k1 l0 rfl rfl) rfl rfl) rfl rfl) (bi_k1 bi_e1 rfl rfl) bi_e1 (bi_k1 (bi_k1 (bi_k1 l5 rfl rfl) rfl rfl) rfl rfl) hh
          · refine go_ifneF (pc := 116) rfl hc ?_
            refine go_pi (pc := 119) rfl ?_
            exact go_ri (pc := 120) rfl hh
    · refine go_cmpneF (pc := 77) rfl hc ?_
      refine go_goto (pc := 80) rfl ?_
      exact sX11_ageBy_140 R53 (bi_k1 l0 rfl rfl) (bi_k1 l3 rfl rfl) (bi_k1 l4 rfl rfl) (bi_k1 l5 rfl rfl) hh
def fX11_ageBy_53 (n : Nat) : Nat → ai_H → Nat → Int32 → Int32 → Int32 → Option (Int32 × ai_H)
  | 0 => fun _ _ _ _ _ => none
  | k + 1 => fun h v0 v3 v4 v5 => fX11_ageBy_53b n (fX11_ageBy_53 n k) h v0 v3 v4 v5
theorem sX11_ageBy_53 {n : Nat} {q : Int32 × ai_H} : ∀ (k : Nat) (h : ai_H) (v0 : Nat) (v3 : Int32) (v4 : Int32) (v5 : Int32) (lv : ai_L), ai_ld 0 lv = some (.ref v0) → ai_ld 3 lv = some (.int v3) → ai_ld 4 lv = some (.int v4) → ai_ld 5 lv = some (.int v5) → fX11_ageBy_53 n k h v0 v3 v4 v5 = some q → bi_go 1 tX11_ageBy n (fI n q) 53 lv [] h
  | 0 => fun _ _ _ _ _ _ _ _ _ _ hh => by cases hh
  | k + 1 => fun h v0 v3 v4 v5 lv l0 l3 l4 l5 hh => sX11_ageBy_53b  (sX11_ageBy_53  k) l0 l3 l4 l5 hh
def fX11_ageBy_15b (n : Nat) (r15 : ai_H → Nat → Int32 → Int32 → Int32 → Int32 → Option (Int32 × ai_H)) (h : ai_H) (v0 : Nat) (v2 : Int32) (v3 : Int32) (v4 : Int32) (v5 : Int32) : Option (Int32 × ai_H) :=
  if v5 < 0 then (
    fX11_ageBy_53 n bi_K h v0 v3 v4 (0 : Int32))
  else (
    (pR n h v0 11 80).bind fun x1 =>
    (pI n h v0 11 13).bind fun x2 =>
    (rI v2 (x2 + (1 : Int32))).bind fun x3 =>
    (wX 1 (fun x => x) n h x1 v5 x3).bind fun h4 =>
    (pI n h4 v0 11 13).bind fun x5 =>
    (dI v2 (x5 + (1 : Int32))).bind fun x6 =>
    r15 h4 v0 x6 v3 v4 (v5 + (-1)))
theorem sX11_ageBy_15b {n : Nat} {r15 : ai_H → Nat → Int32 → Int32 → Int32 → Int32 → Option (Int32 × ai_H)} {q : Int32 × ai_H} {h : ai_H} {v0 : Nat} {v2 : Int32} {v3 : Int32} {v4 : Int32} {v5 : Int32} {lv : ai_L} (R15 : ∀ (h : ai_H) (v0 : Nat) (v2 : Int32) (v3 : Int32) (v4 : Int32) (v5 : Int32) (lv : ai_L), ai_ld 0 lv = some (.ref v0) → ai_ld 2 lv = some (.int v2) → ai_ld 3 lv = some (.int v3) → ai_ld 4 lv = some (.int v4) → ai_ld 5 lv = some (.int v5) → r15 h v0 v2 v3 v4 v5 = some q → bi_go 1 tX11_ageBy n (fI n q) 15 lv [] h) (l0 : ai_ld 0 lv = some (.ref v0)) (l2 : ai_ld 2 lv = some (.int v2)) (l3 : ai_ld 3 lv = some (.int v3)) (l4 : ai_ld 4 lv = some (.int v4)) (l5 : ai_ld 5 lv = some (.int v5)) (hh : fX11_ageBy_15b n r15 h v0 v2 v3 v4 v5 = some q) : bi_go 1 tX11_ageBy n (fI n q) 15 lv [] h := by
  unfold fX11_ageBy_15b at hh
  refine go_il (pc := 15) rfl l5 ?_
  refine bi_ite hh (fun hc hh => ?_) (fun hc hh => ?_)
  · refine go_ifltT (pc := 17) rfl hc ?_
    refine go_pi (pc := 50) rfl ?_
    refine go_is (pc := 51) rfl ?_
    exact sX11_ageBy_53  _ _ _ _ _ _ _ (bi_k1 l0 rfl rfl) (bi_k1 l3 rfl rfl) (bi_k1 l4 rfl rfl) bi_e1 hh
  · refine go_ifltF (pc := 17) rfl hc ?_
    refine go_al (pc := 20) rfl l0 ?_
    obtain ⟨x1, ex1, hh⟩ := bi_bd hh
    refine go_gfR (pc := 21) rfl ex1 ?_
    refine go_il (pc := 24) rfl l5 ?_
    refine go_il (pc := 26) rfl l2 ?_
    refine go_al (pc := 27) rfl l0 ?_
    obtain ⟨x2, ex2, hh⟩ := bi_bd hh
    refine go_gfI (pc := 28) rfl ex2 ?_
    refine go_pi (pc := 31) rfl ?_
    refine go_iadd (pc := 32) rfl ?_
    obtain ⟨x3, ex3, hh⟩ := bi_bd hh
    refine go_irem (pc := 33) rfl ex3 ?_
    obtain ⟨h4, eh4, hh⟩ := bi_bd hh
    refine go_iast (pc := 34) rfl eh4 ?_
    refine go_il (pc := 35) rfl l2 ?_
    refine go_al (pc := 36) rfl l0 ?_
    obtain ⟨x5, ex5, hh⟩ := bi_bd hh
    refine go_gfI (pc := 37) rfl ex5 ?_
    refine go_pi (pc := 40) rfl ?_
    refine go_iadd (pc := 41) rfl ?_
    obtain ⟨x6, ex6, hh⟩ := bi_bd hh
    refine go_idiv (pc := 42) rfl ex6 ?_
    refine go_is (pc := 43) rfl ?_
    refine go_inc (pc := 44) rfl (bi_k1 l5 rfl rfl) ?_
    refine go_goto (pc := 47) rfl ?_
    exact R15 _ _ _ _ _ _ _ (bi_k1 (bi_k1 l0 rfl rfl) rfl rfl) (bi_k1 bi_e1 rfl rfl) (bi_k1 (bi_k1 l3 rfl rfl) rfl rfl) (bi_k1 (bi_k1 l4 rfl rfl) rfl rfl) bi_e1 hh
def fX11_ageBy_15 (n : Nat) : Nat → ai_H → Nat → Int32 → Int32 → Int32 → Int32 → Option (Int32 × ai_H)
  | 0 => fun _ _ _ _ _ _ => none
  | k + 1 => fun h v0 v2 v3 v4 v5 => fX11_ageBy_15b n (fX11_ageBy_15 n k) h v0 v2 v3 v4 v5
theorem sX11_ageBy_15 {n : Nat} {q : Int32 × ai_H} : ∀ (k : Nat) (h : ai_H) (v0 : Nat) (v2 : Int32) (v3 : Int32) (v4 : Int32) (v5 : Int32) (lv : ai_L), ai_ld 0 lv = some (.ref v0) → ai_ld 2 lv = some (.int v2) → ai_ld 3 lv = some (.int v3) → ai_ld 4 lv = some (.int v4) → ai_ld 5 lv = some (.int v5) → fX11_ageBy_15 n k h v0 v2 v3 v4 v5 = some q → bi_go 1 tX11_ageBy n (fI n q) 15 lv [] h
  | 0 => fun _ _ _ _ _ _ _ _ _ _ _ _ hh => by cases hh
  | k + 1 => fun h v0 v2 v3 v4 v5 lv l0 l2 l3 l4 l5 hh => sX11_ageBy_15b  (sX11_ageBy_15  k) l0 l2 l3 l4 l5 hh
def fX11_ageBy (n : Nat) (h : ai_H) (a0 : Nat) (a1 : Int32) : Option (Int32 × ai_H) :=
  (kO n h a0 11).bind fun _ =>
  (pI n h a0 11 14).bind fun x1 =>
  fX11_ageBy_15 n bi_K h a0 a1 (0 : Int32) (0 : Int32) (x1 - (1 : Int32))
theorem gX11_ageBy {n : Nat} {h : ai_H} {a0 : Nat} {a1 : Int32} {q : Int32 × ai_H} (hh : fX11_ageBy n h a0 a1 = some q) : kO n h a0 11 = some () := by
  obtain ⟨_, e, -⟩ := bi_bd hh
  exact e
theorem sX11_ageBy {n : Nat} {h : ai_H} {a0 : Nat} {a1 : Int32} {q : Int32 × ai_H} (hh : fX11_ageBy n h a0 a1 = some q) : bi_sp 2 231 [.ref a0, .int a1] h n (fI n q) := by
  refine bi_en (D := 1) (T := tX11_ageBy) (funext fun pc => rfl) rfl (Nat.le_of_ble_eq_true rfl) ?_
  unfold fX11_ageBy at hh
  obtain ⟨_, eO, hh⟩ := bi_bd hh
  refine go_il (pc := 0) rfl (rfl : ai_ld 1 (lv_args 0 [.ref a0, .int a1]) = some (.int a1)) ?_
  refine go_is (pc := 1) rfl ?_
  refine go_pi (pc := 2) rfl ?_
  refine go_is (pc := 3) rfl ?_
  refine go_pi (pc := 4) rfl ?_
  refine go_is (pc := 5) rfl ?_
  refine go_al (pc := 7) rfl (bi_k1 (bi_k1 (bi_k1 (rfl : ai_ld 0 (lv_args 0 [.ref a0, .int a1]) = some (.ref a0)) rfl rfl) rfl rfl) rfl rfl) ?_
  obtain ⟨x1, ex1, hh⟩ := bi_bd hh
  refine go_gfI (pc := 8) rfl ex1 ?_
  refine go_pi (pc := 11) rfl ?_
  refine go_isub (pc := 12) rfl ?_
  refine go_is (pc := 13) rfl ?_
  exact sX11_ageBy_15  _ _ _ _ _ _ _ _ (bi_k1 (bi_k1 (bi_k1 (bi_k1 (rfl : ai_ld 0 (lv_args 0 [.ref a0, .int a1]) = some (.ref a0)) rfl rfl) rfl rfl) rfl rfl) rfl rfl) (bi_k1 (bi_k1 (bi_k1 bi_e1 rfl rfl) rfl rfl) rfl rfl) (bi_k1 (bi_k1 bi_e1 rfl rfl) rfl rfl) (bi_k1 bi_e1 rfl rfl) bi_e1 hh
def fX11_match_98 (n : Nat) (r67 : ai_H → Nat → Int32 → Int32 → Int32 → Int32 → Int32 → Option (Int32 × ai_H)) (h : ai_H) (v0 : Nat) (v1 : Int32) (v2 : Int32) (v3 : Int32) (v4 : Int32) (v5 : Int32) : Option (Int32 × ai_H) :=
  r67 h v0 v1 v2 v3 v4 (v5 + 1)
theorem sX11_match_98 {n : Nat} {r67 : ai_H → Nat → Int32 → Int32 → Int32 → Int32 → Int32 → Option (Int32 × ai_H)} {q : Int32 × ai_H} {h : ai_H} {v0 : Nat} {v1 : Int32} {v2 : Int32} {v3 : Int32} {v4 : Int32} {v5 : Int32} {lv : ai_L} (R67 : ∀ (h : ai_H) (v0 : Nat) (v1 : Int32) (v2 : Int32) (v3 : Int32) (v4 : Int32) (v5 : Int32) (lv : ai_L), ai_ld 0 lv = some (.ref v0) → ai_ld 1 lv = some (.int v1) → ai_ld 2 lv = some (.int v2) → ai_ld 3 lv = some (.int v3) → ai_ld 4 lv = some (.int v4) → ai_ld 5 lv = some (.int v5) → r67 h v0 v1 v2 v3 v4 v5 = some q → bi_go 2 tX11_match n (fI n q) 67 lv [] h) (l0 : ai_ld 0 lv = some (.ref v0)) (l1 : ai_ld 1 lv = some (.int v1)) (l2 : ai_ld 2 lv = some (.int v2)) (l3 : ai_ld 3 lv = some (.int v3)) (l4 : ai_ld 4 lv = some (.int v4)) (l5 : ai_ld 5 lv = some (.int v5)) (hh : fX11_match_98 n r67 h v0 v1 v2 v3 v4 v5 = some q) : bi_go 2 tX11_match n (fI n q) 98 lv [] h := by
  unfold fX11_match_98 at hh
  refine go_inc (pc := 98) rfl l5 ?_
  refine go_goto (pc := 101) rfl ?_
  exact R67 _ _ _ _ _ _ _ _ (bi_k1 l0 rfl rfl) (bi_k1 l1 rfl rfl) (bi_k1 l2 rfl rfl) (bi_k1 l3 rfl rfl) (bi_k1 l4 rfl rfl) bi_e1 hh
def fX11_match_67b (n : Nat) (r67 : ai_H → Nat → Int32 → Int32 → Int32 → Int32 → Int32 → Option (Int32 × ai_H)) (h : ai_H) (v0 : Nat) (v1 : Int32) (v2 : Int32) (v3 : Int32) (v4 : Int32) (v5 : Int32) : Option (Int32 × ai_H) :=
  if v2 ≤ v5 then (
    if ¬ v1 = (4 : Int32) then (
      (fX11_ageBy n h v0 v3).bind fun q1 =>
      (pR n q1.2 v0 11 80).bind fun x2 =>
      (gX 1 n q1.2 x2 v1).bind fun x3 =>
      (pI n q1.2 v0 11 13).bind fun x4 =>
      if ¬ x3 = x4 then (
        (pR n q1.2 v0 11 80).bind fun x5 =>
        (gX 1 n q1.2 x5 v1).bind fun x6 =>
        some (x6, q1.2))
      else (
        some ((-2 : Int32), q1.2)))
    else (
      some (v4, h)))
  else (
    (fX11_ageBy n h v0 v5).bind fun q7 =>
    if v4 < q7.1 then (
      fX11_match_98 n r67 q7.2 v0 v1 v2 v5 q7.1 v5)
    else (
      fX11_match_98 n r67 q7.2 v0 v1 v2 v3 v4 v5))
theorem sX11_match_67b {n : Nat} {r67 : ai_H → Nat → Int32 → Int32 → Int32 → Int32 → Int32 → Option (Int32 × ai_H)} {q : Int32 × ai_H} {h : ai_H} {v0 : Nat} {v1 : Int32} {v2 : Int32} {v3 : Int32} {v4 : Int32} {v5 : Int32} {lv : ai_L} (R67 : ∀ (h : ai_H) (v0 : Nat) (v1 : Int32) (v2 : Int32) (v3 : Int32) (v4 : Int32) (v5 : Int32) (lv : ai_L), ai_ld 0 lv = some (.ref v0) → ai_ld 1 lv = some (.int v1) → ai_ld 2 lv = some (.int v2) → ai_ld 3 lv = some (.int v3) → ai_ld 4 lv = some (.int v4) → ai_ld 5 lv = some (.int v5) → r67 h v0 v1 v2 v3 v4 v5 = some q → bi_go 2 tX11_match n (fI n q) 67 lv [] h) (l0 : ai_ld 0 lv = some (.ref v0)) (l1 : ai_ld 1 lv = some (.int v1)) (l2 : ai_ld 2 lv = some (.int v2)) (l3 : ai_ld 3 lv = some (.int v3)) (l4 : ai_ld 4 lv = some (.int v4)) (l5 : ai_ld 5 lv = some (.int v5)) (hh : fX11_match_67b n r67 h v0 v1 v2 v3 v4 v5 = some q) : bi_go 2 tX11_match n (fI n q) 67 lv [] h := by
  unfold fX11_match_67b at hh
  refine go_il (pc := 67) rfl l5 ?_
  refine go_il (pc := 69) rfl l2 ?_
  refine bi_ite hh (fun hc hh => ?_) (fun hc hh => ?_)
  · refine go_cmpgeT (pc := 70) rfl hc ?_
    refine go_il (pc := 104) rfl l1 ?_
    refine go_pi (pc := 105) rfl ?_
    refine bi_ite hh (fun hc hh => ?_) (fun hc hh => ?_)
    · refine go_cmpneT (pc := 106) rfl hc ?_
      refine go_al (pc := 112) rfl l0 ?_
      refine go_il (pc := 113) rfl l3 ?_
      obtain ⟨q1, eq1, hh⟩ := bi_bd hh
      refine go_ivI (pc := 114) rfl rfl (gX11_ageBy eq1) (Nat.le_of_ble_eq_true rfl) (bi_up (sX11_ageBy eq1) (Nat.le_of_ble_eq_true rfl)) ?_
      refine go_is (pc := 117) rfl ?_
      refine go_al (pc := 119) rfl (bi_k1 l0 rfl rfl) ?_
      obtain ⟨x2, ex2, hh⟩ := bi_bd hh
      refine go_gfR (pc := 120) rfl ex2 ?_
      refine go_il (pc := 123) rfl (bi_k1 l1 rfl rfl) ?_
      obtain ⟨x3, ex3, hh⟩ := bi_bd hh
      refine go_iald (pc := 124) rfl ex3 ?_
      refine go_al (pc := 125) rfl (bi_k1 l0 rfl rfl) ?_
      obtain ⟨x4, ex4, hh⟩ := bi_bd hh
      refine go_gfI (pc := 126) rfl ex4 ?_
      refine bi_ite hh (fun hc hh => ?_) (fun hc hh => ?_)
      · refine go_cmpneT (pc := 129) rfl hc ?_
        refine go_al (pc := 137) rfl (bi_k1 l0 rfl rfl) ?_
        obtain ⟨x5, ex5, hh⟩ := bi_bd hh
        refine go_gfR (pc := 138) rfl ex5 ?_
        refine go_il (pc := 141) rfl (bi_k1 l1 rfl rfl) ?_
        obtain ⟨x6, ex6, hh⟩ := bi_bd hh
        refine go_iald (pc := 142) rfl ex6 ?_
        exact go_ri (pc := 143) rfl hh
      · refine go_cmpneF (pc := 129) rfl hc ?_
        refine go_pi (pc := 132) rfl ?_
        refine go_goto (pc := 134) rfl ?_
        exact go_ri (pc := 143) rfl hh
    · refine go_cmpneF (pc := 106) rfl hc ?_
      refine go_il (pc := 109) rfl l4 ?_
      exact go_ri (pc := 111) rfl hh
  · refine go_cmpgeF (pc := 70) rfl hc ?_
    refine go_al (pc := 73) rfl l0 ?_
    refine go_il (pc := 74) rfl l5 ?_
    obtain ⟨q7, eq7, hh⟩ := bi_bd hh
    refine go_ivI (pc := 76) rfl rfl (gX11_ageBy eq7) (Nat.le_of_ble_eq_true rfl) (bi_up (sX11_ageBy eq7) (Nat.le_of_ble_eq_true rfl)) ?_
    refine go_is (pc := 79) rfl ?_
    refine go_il (pc := 81) rfl bi_e1 ?_
    refine go_il (pc := 83) rfl (bi_k1 l4 rfl rfl) ?_
    refine bi_ite hh (fun hc hh => ?_) (fun hc hh => ?_)
    · refine go_cmpgtT (pc := 85) rfl hc ?_
      refine go_il (pc := 91) rfl (bi_k1 l5 rfl rfl) ?_
      refine go_is (pc := 93) rfl ?_
      refine go_il (pc := 94) rfl (bi_k1 bi_e1 rfl rfl) ?_
      refine go_is (pc := 96) rfl ?_
      exact sX11_match_98 R67 (bi_k1 (bi_k1 (bi_k1 l0 rfl rfl) rfl rfl) rfl rfl) (bi_k1 (bi_k1 (bi_k1 l1 rfl rfl) rfl rfl) rfl rfl) (bi_k1 (bi_k1 (bi_k1 l2 rfl rfl) rfl rfl) rfl rfl) (bi_k1 bi_e1 rfl rfl) bi_e1 (bi_k1 (bi_k1 (bi_k1 l5 rfl rfl) rfl rfl) rfl rfl) hh
    · refine go_cmpgtF (pc := 85) rfl hc ?_
      refine go_goto (pc := 88) rfl ?_
      exact sX11_match_98 R67 (bi_k1 l0 rfl rfl) (bi_k1 l1 rfl rfl) (bi_k1 l2 rfl rfl) (bi_k1 l3 rfl rfl) (bi_k1 l4 rfl rfl) (bi_k1 l5 rfl rfl) hh
def fX11_match_67 (n : Nat) : Nat → ai_H → Nat → Int32 → Int32 → Int32 → Int32 → Int32 → Option (Int32 × ai_H)
  | 0 => fun _ _ _ _ _ _ _ => none
  | k + 1 => fun h v0 v1 v2 v3 v4 v5 => fX11_match_67b n (fX11_match_67 n k) h v0 v1 v2 v3 v4 v5
theorem sX11_match_67 {n : Nat} {q : Int32 × ai_H} : ∀ (k : Nat) (h : ai_H) (v0 : Nat) (v1 : Int32) (v2 : Int32) (v3 : Int32) (v4 : Int32) (v5 : Int32) (lv : ai_L), ai_ld 0 lv = some (.ref v0) → ai_ld 1 lv = some (.int v1) → ai_ld 2 lv = some (.int v2) → ai_ld 3 lv = some (.int v3) → ai_ld 4 lv = some (.int v4) → ai_ld 5 lv = some (.int v5) → fX11_match_67 n k h v0 v1 v2 v3 v4 v5 = some q → bi_go 2 tX11_match n (fI n q) 67 lv [] h
  | 0 => fun _ _ _ _ _ _ _ _ _ _ _ _ _ _ hh => by cases hh
  | k + 1 => fun h v0 v1 v2 v3 v4 v5 lv l0 l1 l2 l3 l4 l5 hh => sX11_match_67b  (sX11_match_67  k) l0 l1 l2 l3 l4 l5 hh
def fX11_match_36b (n : Nat) (r36 : ai_H → Nat → Int32 → Int32 → Int32 → Option (Int32 × ai_H)) (h : ai_H) (v0 : Nat) (v1 : Int32) (v2 : Int32) (v3 : Int32) : Option (Int32 × ai_H) :=
  (pI n h v0 11 14).bind fun x1 =>
  if x1 ≤ v3 then (
    fX11_match_67 n bi_K h v0 v1 v2 (-1 : Int32) (-1 : Int32) (0 : Int32))
  else (
    (pI n h v0 11 13).bind fun x2 =>
    r36 h v0 v1 (v2 * (x2 + (1 : Int32))) (v3 + 1))
theorem sX11_match_36b {n : Nat} {r36 : ai_H → Nat → Int32 → Int32 → Int32 → Option (Int32 × ai_H)} {q : Int32 × ai_H} {h : ai_H} {v0 : Nat} {v1 : Int32} {v2 : Int32} {v3 : Int32} {lv : ai_L} (R36 : ∀ (h : ai_H) (v0 : Nat) (v1 : Int32) (v2 : Int32) (v3 : Int32) (lv : ai_L), ai_ld 0 lv = some (.ref v0) → ai_ld 1 lv = some (.int v1) → ai_ld 2 lv = some (.int v2) → ai_ld 3 lv = some (.int v3) → r36 h v0 v1 v2 v3 = some q → bi_go 2 tX11_match n (fI n q) 36 lv [] h) (l0 : ai_ld 0 lv = some (.ref v0)) (l1 : ai_ld 1 lv = some (.int v1)) (l2 : ai_ld 2 lv = some (.int v2)) (l3 : ai_ld 3 lv = some (.int v3)) (hh : fX11_match_36b n r36 h v0 v1 v2 v3 = some q) : bi_go 2 tX11_match n (fI n q) 36 lv [] h := by
  unfold fX11_match_36b at hh
  refine go_il (pc := 36) rfl l3 ?_
  refine go_al (pc := 37) rfl l0 ?_
  obtain ⟨x1, ex1, hh⟩ := bi_bd hh
  refine go_gfI (pc := 38) rfl ex1 ?_
  refine bi_ite hh (fun hc hh => ?_) (fun hc hh => ?_)
  · refine go_cmpgeT (pc := 41) rfl hc ?_
    refine go_pi (pc := 59) rfl ?_
    refine go_is (pc := 60) rfl ?_
    refine go_pi (pc := 61) rfl ?_
    refine go_is (pc := 62) rfl ?_
    refine go_pi (pc := 64) rfl ?_
    refine go_is (pc := 65) rfl ?_
    exact sX11_match_67  _ _ _ _ _ _ _ _ _ (bi_k1 (bi_k1 (bi_k1 l0 rfl rfl) rfl rfl) rfl rfl) (bi_k1 (bi_k1 (bi_k1 l1 rfl rfl) rfl rfl) rfl rfl) (bi_k1 (bi_k1 (bi_k1 l2 rfl rfl) rfl rfl) rfl rfl) (bi_k1 (bi_k1 bi_e1 rfl rfl) rfl rfl) (bi_k1 bi_e1 rfl rfl) bi_e1 hh
  · refine go_cmpgeF (pc := 41) rfl hc ?_
    refine go_il (pc := 44) rfl l2 ?_
    refine go_al (pc := 45) rfl l0 ?_
    obtain ⟨x2, ex2, hh⟩ := bi_bd hh
    refine go_gfI (pc := 46) rfl ex2 ?_
    refine go_pi (pc := 49) rfl ?_
    refine go_iadd (pc := 50) rfl ?_
    refine go_imul (pc := 51) rfl ?_
    refine go_is (pc := 52) rfl ?_
    refine go_inc (pc := 53) rfl (bi_k1 l3 rfl rfl) ?_
    refine go_goto (pc := 56) rfl ?_
    exact R36 _ _ _ _ _ _ (bi_k1 (bi_k1 l0 rfl rfl) rfl rfl) (bi_k1 (bi_k1 l1 rfl rfl) rfl rfl) (bi_k1 bi_e1 rfl rfl) bi_e1 hh
def fX11_match_36 (n : Nat) : Nat → ai_H → Nat → Int32 → Int32 → Int32 → Option (Int32 × ai_H)
  | 0 => fun _ _ _ _ _ => none
  | k + 1 => fun h v0 v1 v2 v3 => fX11_match_36b n (fX11_match_36 n k) h v0 v1 v2 v3
theorem sX11_match_36 {n : Nat} {q : Int32 × ai_H} : ∀ (k : Nat) (h : ai_H) (v0 : Nat) (v1 : Int32) (v2 : Int32) (v3 : Int32) (lv : ai_L), ai_ld 0 lv = some (.ref v0) → ai_ld 1 lv = some (.int v1) → ai_ld 2 lv = some (.int v2) → ai_ld 3 lv = some (.int v3) → fX11_match_36 n k h v0 v1 v2 v3 = some q → bi_go 2 tX11_match n (fI n q) 36 lv [] h
  | 0 => fun _ _ _ _ _ _ _ _ _ _ hh => by cases hh
  | k + 1 => fun h v0 v1 v2 v3 lv l0 l1 l2 l3 hh => sX11_match_36b  (sX11_match_36  k) l0 l1 l2 l3 hh
def fX11_match_32 (n : Nat) (h : ai_H) (v0 : Nat) (v1 : Int32) : Option (Int32 × ai_H) :=
  fX11_match_36 n bi_K h v0 v1 (1 : Int32) (0 : Int32)
theorem sX11_match_32 {n : Nat} {q : Int32 × ai_H} {h : ai_H} {v0 : Nat} {v1 : Int32} {lv : ai_L} (l0 : ai_ld 0 lv = some (.ref v0)) (l1 : ai_ld 1 lv = some (.int v1)) (hh : fX11_match_32 n h v0 v1 = some q) : bi_go 2 tX11_match n (fI n q) 32 lv [] h := by
  unfold fX11_match_32 at hh
  refine go_pi (pc := 32) rfl ?_
  refine go_is (pc := 33) rfl ?_
  refine go_pi (pc := 34) rfl ?_
  refine go_is (pc := 35) rfl ?_
  exact sX11_match_36  _ _ _ _ _ _ _ (bi_k1 (bi_k1 l0 rfl rfl) rfl rfl) (bi_k1 (bi_k1 l1 rfl rfl) rfl rfl) (bi_k1 bi_e1 rfl rfl) bi_e1 hh
def fX11_match (n : Nat) (h : ai_H) (a0 : Nat) (a1 : Int32) : Option (Int32 × ai_H) :=
  (kO n h a0 11).bind fun _ =>
  (sF n h a0 11 2 (.int) (.int (0 : Int32))).bind fun h1 =>
  (fX11_isIn n h1 a1 (0 : Int32) (4 : Int32)).bind fun q2 =>
  if ¬ q2.1 = 0 then (
    if (4 : Int32) ≤ a1 then (
      fX11_match_32 n q2.2 a0 a1)
    else (
      (pI n q2.2 a0 11 14).bind fun x3 =>
      if a1 < x3 then (
        fX11_match_32 n q2.2 a0 a1)
      else (
        some ((-2 : Int32), q2.2))))
  else (
    some ((-1 : Int32), q2.2))
theorem gX11_match {n : Nat} {h : ai_H} {a0 : Nat} {a1 : Int32} {q : Int32 × ai_H} (hh : fX11_match n h a0 a1 = some q) : kO n h a0 11 = some () := by
  obtain ⟨_, e, -⟩ := bi_bd hh
  exact e
theorem sX11_match {n : Nat} {h : ai_H} {a0 : Nat} {a1 : Int32} {q : Int32 × ai_H} (hh : fX11_match n h a0 a1 = some q) : bi_sp 3 232 [.ref a0, .int a1] h n (fI n q) := by
  refine bi_en (D := 2) (T := tX11_match) (funext fun pc => rfl) rfl (Nat.le_of_ble_eq_true rfl) ?_
  unfold fX11_match at hh
  obtain ⟨_, eO, hh⟩ := bi_bd hh
  refine go_al (pc := 0) rfl (rfl : ai_ld 0 (lv_args 0 [.ref a0, .int a1]) = some (.ref a0)) ?_
  refine go_pi (pc := 1) rfl ?_
  obtain ⟨h1, eh1, hh⟩ := bi_bd hh
  refine go_pf (pc := 2) rfl eh1 ?_
  refine go_il (pc := 5) rfl (rfl : ai_ld 1 (lv_args 0 [.ref a0, .int a1]) = some (.int a1)) ?_
  refine go_pi (pc := 6) rfl ?_
  refine go_pi (pc := 7) rfl ?_
  obtain ⟨q2, eq2, hh⟩ := bi_bd hh
  refine go_iSI (pc := 8) rfl (Nat.le_of_ble_eq_true rfl) rfl (Nat.le_of_ble_eq_true rfl) (bi_up (sX11_isIn eq2) (Nat.le_of_ble_eq_true rfl)) ?_
  refine bi_ite hh (fun hc hh => ?_) (fun hc hh => ?_)
  · refine go_ifneT (pc := 11) rfl hc ?_
    refine go_il (pc := 16) rfl (rfl : ai_ld 1 (lv_args 0 [.ref a0, .int a1]) = some (.int a1)) ?_
    refine go_pi (pc := 17) rfl ?_
    refine bi_ite hh (fun hc hh => ?_) (fun hc hh => ?_)
    · refine go_cmpgeT (pc := 18) rfl hc ?_
      exact sX11_match_32  (rfl : ai_ld 0 (lv_args 0 [.ref a0, .int a1]) = some (.ref a0)) (rfl : ai_ld 1 (lv_args 0 [.ref a0, .int a1]) = some (.int a1)) hh
    · refine go_cmpgeF (pc := 18) rfl hc ?_
      refine go_il (pc := 21) rfl (rfl : ai_ld 1 (lv_args 0 [.ref a0, .int a1]) = some (.int a1)) ?_
      refine go_al (pc := 22) rfl (rfl : ai_ld 0 (lv_args 0 [.ref a0, .int a1]) = some (.ref a0)) ?_
      obtain ⟨x3, ex3, hh⟩ := bi_bd hh
      refine go_gfI (pc := 23) rfl ex3 ?_
      refine bi_ite hh (fun hc hh => ?_) (fun hc hh => ?_)
      · refine go_cmpltT (pc := 26) rfl hc ?_
        exact sX11_match_32  (rfl : ai_ld 0 (lv_args 0 [.ref a0, .int a1]) = some (.ref a0)) (rfl : ai_ld 1 (lv_args 0 [.ref a0, .int a1]) = some (.int a1)) hh
      · refine go_cmpltF (pc := 26) rfl hc ?_
        refine go_pi (pc := 29) rfl ?_
        exact go_ri (pc := 31) rfl hh
  · refine go_ifneF (pc := 11) rfl hc ?_
    refine go_pi (pc := 14) rfl ?_
    exact go_ri (pc := 15) rfl hh
def fX11_digit_4b (n : Nat) (r4 : ai_H → Int32 → Int32 → Int32 → Option (Int32 × ai_H)) (h : ai_H) (v1 : Int32) (v2 : Int32) (v3 : Int32) : Option (Int32 × ai_H) :=
  if v1 ≤ v3 then (
    (rI v2 (3 : Int32)).bind fun x1 =>
    some (x1, h))
  else (
    (dI v2 (3 : Int32)).bind fun x2 =>
    r4 h v1 x2 (v3 + 1))
theorem sX11_digit_4b {n : Nat} {r4 : ai_H → Int32 → Int32 → Int32 → Option (Int32 × ai_H)} {q : Int32 × ai_H} {h : ai_H} {v1 : Int32} {v2 : Int32} {v3 : Int32} {lv : ai_L} (R4 : ∀ (h : ai_H) (v1 : Int32) (v2 : Int32) (v3 : Int32) (lv : ai_L), ai_ld 1 lv = some (.int v1) → ai_ld 2 lv = some (.int v2) → ai_ld 3 lv = some (.int v3) → r4 h v1 v2 v3 = some q → bi_go 0 tX11_digit n (fI n q) 4 lv [] h) (l1 : ai_ld 1 lv = some (.int v1)) (l2 : ai_ld 2 lv = some (.int v2)) (l3 : ai_ld 3 lv = some (.int v3)) (hh : fX11_digit_4b n r4 h v1 v2 v3 = some q) : bi_go 0 tX11_digit n (fI n q) 4 lv [] h := by
  unfold fX11_digit_4b at hh
  refine go_il (pc := 4) rfl l3 ?_
  refine go_il (pc := 5) rfl l1 ?_
  refine bi_ite hh (fun hc hh => ?_) (fun hc hh => ?_)
  · refine go_cmpgeT (pc := 6) rfl hc ?_
    refine go_il (pc := 19) rfl l2 ?_
    refine go_pi (pc := 20) rfl ?_
    obtain ⟨x1, ex1, hh⟩ := bi_bd hh
    refine go_irem (pc := 21) rfl ex1 ?_
    exact go_ri (pc := 22) rfl hh
  · refine go_cmpgeF (pc := 6) rfl hc ?_
    refine go_il (pc := 9) rfl l2 ?_
    refine go_pi (pc := 10) rfl ?_
    obtain ⟨x2, ex2, hh⟩ := bi_bd hh
    refine go_idiv (pc := 11) rfl ex2 ?_
    refine go_is (pc := 12) rfl ?_
    refine go_inc (pc := 13) rfl (bi_k1 l3 rfl rfl) ?_
    refine go_goto (pc := 16) rfl ?_
    exact R4 _ _ _ _ _ (bi_k1 (bi_k1 l1 rfl rfl) rfl rfl) (bi_k1 bi_e1 rfl rfl) bi_e1 hh
def fX11_digit_4 (n : Nat) : Nat → ai_H → Int32 → Int32 → Int32 → Option (Int32 × ai_H)
  | 0 => fun _ _ _ _ => none
  | k + 1 => fun h v1 v2 v3 => fX11_digit_4b n (fX11_digit_4 n k) h v1 v2 v3
theorem sX11_digit_4 {n : Nat} {q : Int32 × ai_H} : ∀ (k : Nat) (h : ai_H) (v1 : Int32) (v2 : Int32) (v3 : Int32) (lv : ai_L), ai_ld 1 lv = some (.int v1) → ai_ld 2 lv = some (.int v2) → ai_ld 3 lv = some (.int v3) → fX11_digit_4 n k h v1 v2 v3 = some q → bi_go 0 tX11_digit n (fI n q) 4 lv [] h
  | 0 => fun _ _ _ _ _ _ _ _ hh => by cases hh
  | k + 1 => fun h v1 v2 v3 lv l1 l2 l3 hh => sX11_digit_4b  (sX11_digit_4  k) l1 l2 l3 hh
def fX11_digit (n : Nat) (h : ai_H) (a0 : Int32) (a1 : Int32) : Option (Int32 × ai_H) :=
  fX11_digit_4 n bi_K h a1 a0 (0 : Int32)
theorem sX11_digit {n : Nat} {h : ai_H} {a0 : Int32} {a1 : Int32} {q : Int32 × ai_H} (hh : fX11_digit n h a0 a1 = some q) : bi_sp 1 233 [.int a0, .int a1] h n (fI n q) := by
  refine bi_en (D := 0) (T := tX11_digit) (funext fun pc => rfl) rfl (Nat.le_of_ble_eq_true rfl) ?_
  unfold fX11_digit at hh
  refine go_il (pc := 0) rfl (rfl : ai_ld 0 (lv_args 0 [.int a0, .int a1]) = some (.int a0)) ?_
  refine go_is (pc := 1) rfl ?_
  refine go_pi (pc := 2) rfl ?_
  refine go_is (pc := 3) rfl ?_
  exact sX11_digit_4  _ _ _ _ _ _ (bi_k1 (bi_k1 (rfl : ai_ld 1 (lv_args 0 [.int a0, .int a1]) = some (.int a1)) rfl rfl) rfl rfl) (bi_k1 bi_e1 rfl rfl) bi_e1 hh
def fX11_power_4b (n : Nat) (r4 : ai_H → Int32 → Int32 → Int32 → Option (Int32 × ai_H)) (h : ai_H) (v0 : Int32) (v1 : Int32) (v2 : Int32) : Option (Int32 × ai_H) :=
  if v0 ≤ v2 then (
    some (v1, h))
  else (
    r4 h v0 (v1 * (3 : Int32)) (v2 + 1))
theorem sX11_power_4b {n : Nat} {r4 : ai_H → Int32 → Int32 → Int32 → Option (Int32 × ai_H)} {q : Int32 × ai_H} {h : ai_H} {v0 : Int32} {v1 : Int32} {v2 : Int32} {lv : ai_L} (R4 : ∀ (h : ai_H) (v0 : Int32) (v1 : Int32) (v2 : Int32) (lv : ai_L), ai_ld 0 lv = some (.int v0) → ai_ld 1 lv = some (.int v1) → ai_ld 2 lv = some (.int v2) → r4 h v0 v1 v2 = some q → bi_go 0 tX11_power n (fI n q) 4 lv [] h) (l0 : ai_ld 0 lv = some (.int v0)) (l1 : ai_ld 1 lv = some (.int v1)) (l2 : ai_ld 2 lv = some (.int v2)) (hh : fX11_power_4b n r4 h v0 v1 v2 = some q) : bi_go 0 tX11_power n (fI n q) 4 lv [] h := by
  unfold fX11_power_4b at hh
  refine go_il (pc := 4) rfl l2 ?_
  refine go_il (pc := 5) rfl l0 ?_
  refine bi_ite hh (fun hc hh => ?_) (fun hc hh => ?_)
  · refine go_cmpgeT (pc := 6) rfl hc ?_
    refine go_il (pc := 19) rfl l1 ?_
    exact go_ri (pc := 20) rfl hh
  · refine go_cmpgeF (pc := 6) rfl hc ?_
    refine go_il (pc := 9) rfl l1 ?_
    refine go_pi (pc := 10) rfl ?_
    refine go_imul (pc := 11) rfl ?_
    refine go_is (pc := 12) rfl ?_
    refine go_inc (pc := 13) rfl (bi_k1 l2 rfl rfl) ?_
    refine go_goto (pc := 16) rfl ?_
    exact R4 _ _ _ _ _ (bi_k1 (bi_k1 l0 rfl rfl) rfl rfl) (bi_k1 bi_e1 rfl rfl) bi_e1 hh
def fX11_power_4 (n : Nat) : Nat → ai_H → Int32 → Int32 → Int32 → Option (Int32 × ai_H)
  | 0 => fun _ _ _ _ => none
  | k + 1 => fun h v0 v1 v2 => fX11_power_4b n (fX11_power_4 n k) h v0 v1 v2
theorem sX11_power_4 {n : Nat} {q : Int32 × ai_H} : ∀ (k : Nat) (h : ai_H) (v0 : Int32) (v1 : Int32) (v2 : Int32) (lv : ai_L), ai_ld 0 lv = some (.int v0) → ai_ld 1 lv = some (.int v1) → ai_ld 2 lv = some (.int v2) → fX11_power_4 n k h v0 v1 v2 = some q → bi_go 0 tX11_power n (fI n q) 4 lv [] h
  | 0 => fun _ _ _ _ _ _ _ _ hh => by cases hh
  | k + 1 => fun h v0 v1 v2 lv l0 l1 l2 hh => sX11_power_4b  (sX11_power_4  k) l0 l1 l2 hh
def fX11_power (n : Nat) (h : ai_H) (a0 : Int32) : Option (Int32 × ai_H) :=
  fX11_power_4 n bi_K h a0 (1 : Int32) (0 : Int32)
theorem sX11_power {n : Nat} {h : ai_H} {a0 : Int32} {q : Int32 × ai_H} (hh : fX11_power n h a0 = some q) : bi_sp 1 234 [.int a0] h n (fI n q) := by
  refine bi_en (D := 0) (T := tX11_power) (funext fun pc => rfl) rfl (Nat.le_of_ble_eq_true rfl) ?_
  unfold fX11_power at hh
  refine go_pi (pc := 0) rfl ?_
  refine go_is (pc := 1) rfl ?_
  refine go_pi (pc := 2) rfl ?_
  refine go_is (pc := 3) rfl ?_
  exact sX11_power_4  _ _ _ _ _ _ (bi_k1 (bi_k1 (rfl : ai_ld 0 (lv_args 0 [.int a0]) = some (.int a0)) rfl rfl) rfl rfl) (bi_k1 bi_e1 rfl rfl) bi_e1 hh
def fX11_isLed_86 (n : Nat) (r8 : ai_H → Nat → Int32 → Int32 → Int32 → Int32 → Option (Int32 × ai_H)) (r18 : ai_H → Nat → Int32 → Int32 → Int32 → Int32 → Int32 → Option (Int32 × ai_H)) (h : ai_H) (v0 : Nat) (v1 : Int32) (v3 : Int32) (v4 : Int32) (v5 : Int32) (v6 : Int32) : Option (Int32 × ai_H) :=
  r18 h v0 v1 v3 v4 v5 (v6 + 1)
theorem sX11_isLed_86 {n : Nat} {r8 : ai_H → Nat → Int32 → Int32 → Int32 → Int32 → Option (Int32 × ai_H)} {r18 : ai_H → Nat → Int32 → Int32 → Int32 → Int32 → Int32 → Option (Int32 × ai_H)} {q : Int32 × ai_H} {h : ai_H} {v0 : Nat} {v1 : Int32} {v3 : Int32} {v4 : Int32} {v5 : Int32} {v6 : Int32} {lv : ai_L} (R8 : ∀ (h : ai_H) (v0 : Nat) (v1 : Int32) (v3 : Int32) (v4 : Int32) (v5 : Int32) (lv : ai_L), ai_ld 0 lv = some (.ref v0) → ai_ld 1 lv = some (.int v1) → ai_ld 3 lv = some (.int v3) → ai_ld 4 lv = some (.int v4) → ai_ld 5 lv = some (.int v5) → r8 h v0 v1 v3 v4 v5 = some q → bi_go 1 tX11_isLed n (fI n q) 8 lv [] h) (R18 : ∀ (h : ai_H) (v0 : Nat) (v1 : Int32) (v3 : Int32) (v4 : Int32) (v5 : Int32) (v6 : Int32) (lv : ai_L), ai_ld 0 lv = some (.ref v0) → ai_ld 1 lv = some (.int v1) → ai_ld 3 lv = some (.int v3) → ai_ld 4 lv = some (.int v4) → ai_ld 5 lv = some (.int v5) → ai_ld 6 lv = some (.int v6) → r18 h v0 v1 v3 v4 v5 v6 = some q → bi_go 1 tX11_isLed n (fI n q) 18 lv [] h) (l0 : ai_ld 0 lv = some (.ref v0)) (l1 : ai_ld 1 lv = some (.int v1)) (l3 : ai_ld 3 lv = some (.int v3)) (l4 : ai_ld 4 lv = some (.int v4)) (l5 : ai_ld 5 lv = some (.int v5)) (l6 : ai_ld 6 lv = some (.int v6)) (hh : fX11_isLed_86 n r8 r18 h v0 v1 v3 v4 v5 v6 = some q) : bi_go 1 tX11_isLed n (fI n q) 86 lv [] h := by
  unfold fX11_isLed_86 at hh
  refine go_inc (pc := 86) rfl l6 ?_
  refine go_goto (pc := 89) rfl ?_
  exact R18 _ _ _ _ _ _ _ _ (bi_k1 l0 rfl rfl) (bi_k1 l1 rfl rfl) (bi_k1 l3 rfl rfl) (bi_k1 l4 rfl rfl) (bi_k1 l5 rfl rfl) bi_e1 hh
def fX11_isLed_18b (n : Nat) (r8 : ai_H → Nat → Int32 → Int32 → Int32 → Int32 → Option (Int32 × ai_H)) (r18 : ai_H → Nat → Int32 → Int32 → Int32 → Int32 → Int32 → Option (Int32 × ai_H)) (h : ai_H) (v0 : Nat) (v1 : Int32) (v3 : Int32) (v4 : Int32) (v5 : Int32) (v6 : Int32) : Option (Int32 × ai_H) :=
  (pI n h v0 11 82).bind fun x1 =>
  if x1 ≤ v6 then (
    r8 h v0 v1 v3 v4 (v5 + 1))
  else (
    (fX11_digit n h v1 v6).bind fun q2 =>
    if q2.1 = (2 : Int32) then (
      (pR n q2.2 v0 11 28).bind fun x3 =>
      (pR n q2.2 v0 11 81).bind fun x4 =>
      (gX 1 n q2.2 x4 v6).bind fun x5 =>
      (gX 1 n q2.2 x3 x5).bind fun x6 =>
      (pR n q2.2 v0 11 29).bind fun x7 =>
      (pR n q2.2 v0 11 81).bind fun x8 =>
      (gX 1 n q2.2 x8 v6).bind fun x9 =>
      (gX 1 n q2.2 x7 x9).bind fun x10 =>
      if (v4 &&& (((1 : Int32) <<< (x6 &&& 31)) ||| ((1 : Int32) <<< (x10 &&& 31)))) = 0 then (
        fX11_isLed_86 n r8 r18 q2.2 v0 v1 v3 v4 v5 v6)
      else (
        fX11_isLed_86 n r8 r18 q2.2 v0 v1 v3 (v4 ||| (((1 : Int32) <<< (x6 &&& 31)) ||| ((1 : Int32) <<< (x10 &&& 31)))) v5 v6))
    else (
      fX11_isLed_86 n r8 r18 q2.2 v0 v1 v3 v4 v5 v6))
theorem sX11_isLed_18b {n : Nat} {r8 : ai_H → Nat → Int32 → Int32 → Int32 → Int32 → Option (Int32 × ai_H)} {r18 : ai_H → Nat → Int32 → Int32 → Int32 → Int32 → Int32 → Option (Int32 × ai_H)} {q : Int32 × ai_H} {h : ai_H} {v0 : Nat} {v1 : Int32} {v3 : Int32} {v4 : Int32} {v5 : Int32} {v6 : Int32} {lv : ai_L} (R8 : ∀ (h : ai_H) (v0 : Nat) (v1 : Int32) (v3 : Int32) (v4 : Int32) (v5 : Int32) (lv : ai_L), ai_ld 0 lv = some (.ref v0) → ai_ld 1 lv = some (.int v1) → ai_ld 3 lv = some (.int v3) → ai_ld 4 lv = some (.int v4) → ai_ld 5 lv = some (.int v5) → r8 h v0 v1 v3 v4 v5 = some q → bi_go 1 tX11_isLed n (fI n q) 8 lv [] h) (R18 : ∀ (h : ai_H) (v0 : Nat) (v1 : Int32) (v3 : Int32) (v4 : Int32) (v5 : Int32) (v6 : Int32) (lv : ai_L), ai_ld 0 lv = some (.ref v0) → ai_ld 1 lv = some (.int v1) → ai_ld 3 lv = some (.int v3) → ai_ld 4 lv = some (.int v4) → ai_ld 5 lv = some (.int v5) → ai_ld 6 lv = some (.int v6) → r18 h v0 v1 v3 v4 v5 v6 = some q → bi_go 1 tX11_isLed n (fI n q) 18 lv [] h) (l0 : ai_ld 0 lv = some (.ref v0)) (l1 : ai_ld 1 lv = some (.int v1)) (l3 : ai_ld 3 lv = some (.int v3)) (l4 : ai_ld 4 lv = some (.int v4)) (l5 : ai_ld 5 lv = some (.int v5)) (l6 : ai_ld 6 lv = some (.int v6)) (hh : fX11_isLed_18b n r8 r18 h v0 v1 v3 v4 v5 v6 = some q) : bi_go 1 tX11_isLed n (fI n q) 18 lv [] h := by
  unfold fX11_isLed_18b at hh
  refine go_il (pc := 18) rfl l6 ?_
  refine go_al (pc := 20) rfl l0 ?_
  obtain ⟨x1, ex1, hh⟩ := bi_bd hh
  refine go_gfI (pc := 21) rfl ex1 ?_
  refine bi_ite hh (fun hc hh => ?_) (fun hc hh => ?_)
  · refine go_cmpgeT (pc := 24) rfl hc ?_
    refine go_inc (pc := 92) rfl l5 ?_
    refine go_goto (pc := 95) rfl ?_
    exact R8 _ _ _ _ _ _ _ (bi_k1 l0 rfl rfl) (bi_k1 l1 rfl rfl) (bi_k1 l3 rfl rfl) (bi_k1 l4 rfl rfl) bi_e1 hh
  · refine go_cmpgeF (pc := 24) rfl hc ?_
    refine go_il (pc := 27) rfl l1 ?_
    refine go_il (pc := 28) rfl l6 ?_
    obtain ⟨q2, eq2, hh⟩ := bi_bd hh
    refine go_iSI (pc := 30) rfl (Nat.le_of_ble_eq_true rfl) rfl (Nat.le_of_ble_eq_true rfl) (bi_up (sX11_digit eq2) (Nat.le_of_ble_eq_true rfl)) ?_
    refine go_pi (pc := 33) rfl ?_
    refine bi_ite hh (fun hc hh => ?_) (fun hc hh => ?_)
    · refine go_cmpeqT (pc := 34) rfl hc ?_
      refine go_pi (pc := 40) rfl ?_
      refine go_al (pc := 41) rfl l0 ?_
      obtain ⟨x3, ex3, hh⟩ := bi_bd hh
      refine go_gfR (pc := 42) rfl ex3 ?_
      refine go_al (pc := 45) rfl l0 ?_
      obtain ⟨x4, ex4, hh⟩ := bi_bd hh
      refine go_gfR (pc := 46) rfl ex4 ?_
      refine go_il (pc := 49) rfl l6 ?_
      obtain ⟨x5, ex5, hh⟩ := bi_bd hh
      refine go_iald (pc := 51) rfl ex5 ?_
      obtain ⟨x6, ex6, hh⟩ := bi_bd hh
      refine go_iald (pc := 52) rfl ex6 ?_
      refine go_ishl (pc := 53) rfl ?_
      refine go_pi (pc := 54) rfl ?_
      refine go_al (pc := 55) rfl l0 ?_
      obtain ⟨x7, ex7, hh⟩ := bi_bd hh
      refine go_gfR (pc := 56) rfl ex7 ?_
      refine go_al (pc := 59) rfl l0 ?_
      obtain ⟨x8, ex8, hh⟩ := bi_bd hh
      refine go_gfR (pc := 60) rfl ex8 ?_
      refine go_il (pc := 63) rfl l6 ?_
      obtain ⟨x9, ex9, hh⟩ := bi_bd hh
      refine go_iald (pc := 65) rfl ex9 ?_
      obtain ⟨x10, ex10, hh⟩ := bi_bd hh
      refine go_iald (pc := 66) rfl ex10 ?_
      refine go_ishl (pc := 67) rfl ?_
      refine go_ior (pc := 68) rfl ?_
      refine go_is (pc := 69) rfl ?_
      refine go_il (pc := 71) rfl (bi_k1 l4 rfl rfl) ?_
      refine go_il (pc := 73) rfl bi_e1 ?_
      refine go_iand (pc := 75) rfl ?_
      refine bi_ite hh (fun hc hh => ?_) (fun hc hh => ?_)
      · refine go_ifeqT (pc := 76) rfl hc ?_
        exact sX11_isLed_86 R8 R18 (bi_k1 l0 rfl rfl) (bi_k1 l1 rfl rfl) (bi_k1 l3 rfl rfl) (bi_k1 l4 rfl rfl) (bi_k1 l5 rfl rfl) (bi_k1 l6 rfl rfl) hh
      · refine go_ifeqF (pc := 76) rfl hc ?_
        refine go_il (pc := 79) rfl (bi_k1 l4 rfl rfl) ?_
        refine go_il (pc := 81) rfl bi_e1 ?_
        refine go_ior (pc := 83) rfl ?_
        refine go_is (pc := 84) rfl ?_
        exact sX11_isLed_86 R8 R18 (bi_k1 (bi_k1 l0 rfl rfl) rfl rfl) (bi_k1 (bi_k1 l1 rfl rfl) rfl rfl) (bi_k1 (bi_k1 l3 rfl rfl) rfl rfl) bi_e1 (bi_k1 (bi_k1 l5 rfl rfl) rfl rfl) (bi_k1 (bi_k1 l6 rfl rfl) rfl rfl) hh
    · refine go_cmpeqF (pc := 34) rfl hc ?_
      refine go_goto (pc := 37) rfl ?_
      exact sX11_isLed_86 R8 R18 l0 l1 l3 l4 l5 l6 hh
def fX11_isLed_18 (n : Nat) (r8 : ai_H → Nat → Int32 → Int32 → Int32 → Int32 → Option (Int32 × ai_H)) : Nat → ai_H → Nat → Int32 → Int32 → Int32 → Int32 → Int32 → Option (Int32 × ai_H)
  | 0 => fun _ _ _ _ _ _ _ => none
  | k + 1 => fun h v0 v1 v3 v4 v5 v6 => fX11_isLed_18b n r8 (fX11_isLed_18 n r8 k) h v0 v1 v3 v4 v5 v6
theorem sX11_isLed_18 {n : Nat} {r8 : ai_H → Nat → Int32 → Int32 → Int32 → Int32 → Option (Int32 × ai_H)} {q : Int32 × ai_H} (R8 : ∀ (h : ai_H) (v0 : Nat) (v1 : Int32) (v3 : Int32) (v4 : Int32) (v5 : Int32) (lv : ai_L), ai_ld 0 lv = some (.ref v0) → ai_ld 1 lv = some (.int v1) → ai_ld 3 lv = some (.int v3) → ai_ld 4 lv = some (.int v4) → ai_ld 5 lv = some (.int v5) → r8 h v0 v1 v3 v4 v5 = some q → bi_go 1 tX11_isLed n (fI n q) 8 lv [] h) : ∀ (k : Nat) (h : ai_H) (v0 : Nat) (v1 : Int32) (v3 : Int32) (v4 : Int32) (v5 : Int32) (v6 : Int32) (lv : ai_L), ai_ld 0 lv = some (.ref v0) → ai_ld 1 lv = some (.int v1) → ai_ld 3 lv = some (.int v3) → ai_ld 4 lv = some (.int v4) → ai_ld 5 lv = some (.int v5) → ai_ld 6 lv = some (.int v6) → fX11_isLed_18 n r8 k h v0 v1 v3 v4 v5 v6 = some q → bi_go 1 tX11_isLed n (fI n q) 18 lv [] h
  | 0 => fun _ _ _ _ _ _ _ _ _ _ _ _ _ _ hh => by cases hh
  | k + 1 => fun h v0 v1 v3 v4 v5 v6 lv l0 l1 l3 l4 l5 l6 hh => sX11_isLed_18b R8 (sX11_isLed_18 R8 k) l0 l1 l3 l4 l5 l6 hh
def fX11_isLed_8b (n : Nat) (r8 : ai_H → Nat → Int32 → Int32 → Int32 → Int32 → Option (Int32 × ai_H)) (h : ai_H) (v0 : Nat) (v1 : Int32) (v3 : Int32) (v4 : Int32) (v5 : Int32) : Option (Int32 × ai_H) :=
  if (7 : Int32) ≤ v5 then (
    (fX11_isOf n h v4 v3).bind fun q1 =>
    (gZ q1.1).bind fun _ =>
    some (q1.1, q1.2))
  else (
    fX11_isLed_18 n r8 bi_K h v0 v1 v3 v4 v5 (0 : Int32))
theorem sX11_isLed_8b {n : Nat} {r8 : ai_H → Nat → Int32 → Int32 → Int32 → Int32 → Option (Int32 × ai_H)} {q : Int32 × ai_H} {h : ai_H} {v0 : Nat} {v1 : Int32} {v3 : Int32} {v4 : Int32} {v5 : Int32} {lv : ai_L} (R8 : ∀ (h : ai_H) (v0 : Nat) (v1 : Int32) (v3 : Int32) (v4 : Int32) (v5 : Int32) (lv : ai_L), ai_ld 0 lv = some (.ref v0) → ai_ld 1 lv = some (.int v1) → ai_ld 3 lv = some (.int v3) → ai_ld 4 lv = some (.int v4) → ai_ld 5 lv = some (.int v5) → r8 h v0 v1 v3 v4 v5 = some q → bi_go 1 tX11_isLed n (fI n q) 8 lv [] h) (l0 : ai_ld 0 lv = some (.ref v0)) (l1 : ai_ld 1 lv = some (.int v1)) (l3 : ai_ld 3 lv = some (.int v3)) (l4 : ai_ld 4 lv = some (.int v4)) (l5 : ai_ld 5 lv = some (.int v5)) (hh : fX11_isLed_8b n r8 h v0 v1 v3 v4 v5 = some q) : bi_go 1 tX11_isLed n (fI n q) 8 lv [] h := by
  unfold fX11_isLed_8b at hh
  refine go_il (pc := 8) rfl l5 ?_
  refine go_pi (pc := 10) rfl ?_
  refine bi_ite hh (fun hc hh => ?_) (fun hc hh => ?_)
  · refine go_cmpgeT (pc := 12) rfl hc ?_
    refine go_il (pc := 98) rfl l4 ?_
    refine go_il (pc := 100) rfl l3 ?_
    obtain ⟨q1, eq1, hh⟩ := bi_bd hh
    refine go_iSI (pc := 101) rfl (Nat.le_of_ble_eq_true rfl) rfl (Nat.le_of_ble_eq_true rfl) (bi_up (sX11_isOf eq1) (Nat.le_of_ble_eq_true rfl)) ?_
    obtain ⟨_, ez, hh⟩ := bi_bd hh
    exact go_rz (pc := 104) rfl ez hh
  · refine go_cmpgeF (pc := 12) rfl hc ?_
    refine go_pi (pc := 15) rfl ?_
    refine go_is (pc := 16) rfl ?_
    exact sX11_isLed_18 R8 _ _ _ _ _ _ _ _ _ (bi_k1 l0 rfl rfl) (bi_k1 l1 rfl rfl) (bi_k1 l3 rfl rfl) (bi_k1 l4 rfl rfl) (bi_k1 l5 rfl rfl) bi_e1 hh
def fX11_isLed_8 (n : Nat) : Nat → ai_H → Nat → Int32 → Int32 → Int32 → Int32 → Option (Int32 × ai_H)
  | 0 => fun _ _ _ _ _ _ => none
  | k + 1 => fun h v0 v1 v3 v4 v5 => fX11_isLed_8b n (fX11_isLed_8 n k) h v0 v1 v3 v4 v5
theorem sX11_isLed_8 {n : Nat} {q : Int32 × ai_H} : ∀ (k : Nat) (h : ai_H) (v0 : Nat) (v1 : Int32) (v3 : Int32) (v4 : Int32) (v5 : Int32) (lv : ai_L), ai_ld 0 lv = some (.ref v0) → ai_ld 1 lv = some (.int v1) → ai_ld 3 lv = some (.int v3) → ai_ld 4 lv = some (.int v4) → ai_ld 5 lv = some (.int v5) → fX11_isLed_8 n k h v0 v1 v3 v4 v5 = some q → bi_go 1 tX11_isLed n (fI n q) 8 lv [] h
  | 0 => fun _ _ _ _ _ _ _ _ _ _ _ _ hh => by cases hh
  | k + 1 => fun h v0 v1 v3 v4 v5 lv l0 l1 l3 l4 l5 hh => sX11_isLed_8b  (sX11_isLed_8  k) l0 l1 l3 l4 l5 hh
def fX11_isLed (n : Nat) (h : ai_H) (a0 : Nat) (a1 : Int32) (a2 : Int32) (a3 : Int32) : Option (Int32 × ai_H) :=
  (kO n h a0 11).bind fun _ =>
  fX11_isLed_8 n bi_K h a0 a1 a3 ((1 : Int32) <<< (a2 &&& 31)) (0 : Int32)
theorem gX11_isLed {n : Nat} {h : ai_H} {a0 : Nat} {a1 : Int32} {a2 : Int32} {a3 : Int32} {q : Int32 × ai_H} (hh : fX11_isLed n h a0 a1 a2 a3 = some q) : kO n h a0 11 = some () := by
  obtain ⟨_, e, -⟩ := bi_bd hh
  exact e
theorem sX11_isLed {n : Nat} {h : ai_H} {a0 : Nat} {a1 : Int32} {a2 : Int32} {a3 : Int32} {q : Int32 × ai_H} (hh : fX11_isLed n h a0 a1 a2 a3 = some q) : bi_sp 2 235 [.ref a0, .int a1, .int a2, .int a3] h n (fI n q) := by
  refine bi_en (D := 1) (T := tX11_isLed) (funext fun pc => rfl) rfl (Nat.le_of_ble_eq_true rfl) ?_
  unfold fX11_isLed at hh
  obtain ⟨_, eO, hh⟩ := bi_bd hh
  refine go_pi (pc := 0) rfl ?_
  refine go_il (pc := 1) rfl (rfl : ai_ld 2 (lv_args 0 [.ref a0, .int a1, .int a2, .int a3]) = some (.int a2)) ?_
  refine go_ishl (pc := 2) rfl ?_
  refine go_is (pc := 3) rfl ?_
  refine go_pi (pc := 5) rfl ?_
  refine go_is (pc := 6) rfl ?_
  exact sX11_isLed_8  _ _ _ _ _ _ _ _ (bi_k1 (bi_k1 (rfl : ai_ld 0 (lv_args 0 [.ref a0, .int a1, .int a2, .int a3]) = some (.ref a0)) rfl rfl) rfl rfl) (bi_k1 (bi_k1 (rfl : ai_ld 1 (lv_args 0 [.ref a0, .int a1, .int a2, .int a3]) = some (.int a1)) rfl rfl) rfl rfl) (bi_k1 (bi_k1 (rfl : ai_ld 3 (lv_args 0 [.ref a0, .int a1, .int a2, .int a3]) = some (.int a3)) rfl rfl) rfl rfl) (bi_k1 bi_e1 rfl rfl) bi_e1 hh
def fX11_winsBy_48 (n : Nat) (r2 : ai_H → Nat → Int32 → Int32 → Int32 → Option (Int32 × ai_H)) (h : ai_H) (v0 : Nat) (v1 : Int32) (v2 : Int32) (v3 : Int32) : Option (Int32 × ai_H) :=
  r2 h v0 v1 v2 (v3 + 1)
theorem sX11_winsBy_48 {n : Nat} {r2 : ai_H → Nat → Int32 → Int32 → Int32 → Option (Int32 × ai_H)} {q : Int32 × ai_H} {h : ai_H} {v0 : Nat} {v1 : Int32} {v2 : Int32} {v3 : Int32} {lv : ai_L} (R2 : ∀ (h : ai_H) (v0 : Nat) (v1 : Int32) (v2 : Int32) (v3 : Int32) (lv : ai_L), ai_ld 0 lv = some (.ref v0) → ai_ld 1 lv = some (.int v1) → ai_ld 2 lv = some (.int v2) → ai_ld 3 lv = some (.int v3) → r2 h v0 v1 v2 v3 = some q → bi_go 1 tX11_winsBy n (fI n q) 2 lv [] h) (l0 : ai_ld 0 lv = some (.ref v0)) (l1 : ai_ld 1 lv = some (.int v1)) (l2 : ai_ld 2 lv = some (.int v2)) (l3 : ai_ld 3 lv = some (.int v3)) (hh : fX11_winsBy_48 n r2 h v0 v1 v2 v3 = some q) : bi_go 1 tX11_winsBy n (fI n q) 48 lv [] h := by
  unfold fX11_winsBy_48 at hh
  refine go_inc (pc := 48) rfl l3 ?_
  refine go_goto (pc := 51) rfl ?_
  exact R2 _ _ _ _ _ _ (bi_k1 l0 rfl rfl) (bi_k1 l1 rfl rfl) (bi_k1 l2 rfl rfl) bi_e1 hh
def fX11_winsBy_43 (n : Nat) (r2 : ai_H → Nat → Int32 → Int32 → Int32 → Option (Int32 × ai_H)) (h : ai_H) (v0 : Nat) (v1 : Int32) (v2 : Int32) (v3 : Int32) (s0 : Int32) (s1 : Int32) : Option (Int32 × ai_H) :=
  if ¬ s1 = s0 then (
    fX11_winsBy_48 n r2 h v0 v1 v2 v3)
  else (
    some (v3, h))
theorem sX11_winsBy_43 {n : Nat} {r2 : ai_H → Nat → Int32 → Int32 → Int32 → Option (Int32 × ai_H)} {q : Int32 × ai_H} {h : ai_H} {v0 : Nat} {v1 : Int32} {v2 : Int32} {v3 : Int32} {s0 : Int32} {s1 : Int32} {lv : ai_L} (R2 : ∀ (h : ai_H) (v0 : Nat) (v1 : Int32) (v2 : Int32) (v3 : Int32) (lv : ai_L), ai_ld 0 lv = some (.ref v0) → ai_ld 1 lv = some (.int v1) → ai_ld 2 lv = some (.int v2) → ai_ld 3 lv = some (.int v3) → r2 h v0 v1 v2 v3 = some q → bi_go 1 tX11_winsBy n (fI n q) 2 lv [] h) (l0 : ai_ld 0 lv = some (.ref v0)) (l1 : ai_ld 1 lv = some (.int v1)) (l2 : ai_ld 2 lv = some (.int v2)) (l3 : ai_ld 3 lv = some (.int v3)) (hh : fX11_winsBy_43 n r2 h v0 v1 v2 v3 s0 s1 = some q) : bi_go 1 tX11_winsBy n (fI n q) 43 lv [.int s0, .int s1] h := by
  unfold fX11_winsBy_43 at hh
  refine bi_ite hh (fun hc hh => ?_) (fun hc hh => ?_)
  · refine go_cmpneT (pc := 43) rfl hc ?_
    exact sX11_winsBy_48 R2 l0 l1 l2 l3 hh
  · refine go_cmpneF (pc := 43) rfl hc ?_
    refine go_il (pc := 46) rfl l3 ?_
    exact go_ri (pc := 47) rfl hh
def fX11_winsBy_2b (n : Nat) (r2 : ai_H → Nat → Int32 → Int32 → Int32 → Option (Int32 × ai_H)) (h : ai_H) (v0 : Nat) (v1 : Int32) (v2 : Int32) (v3 : Int32) : Option (Int32 × ai_H) :=
  (pI n h v0 11 82).bind fun x1 =>
  if x1 ≤ v3 then (
    some ((-1 : Int32), h))
  else (
    (fX11_digit n h v1 v3).bind fun q2 =>
    if ¬ q2.1 = 0 then (
      fX11_winsBy_48 n r2 q2.2 v0 v1 v2 v3)
    else (
      (pR n q2.2 v0 11 83).bind fun x3 =>
      (fX11_power n q2.2 v3).bind fun q4 =>
      (gB n q4.2 x3 (v1 + ((v2 + (1 : Int32)) * q4.1))).bind fun x5 =>
      if ¬ v2 = (1 : Int32) then (
        fX11_winsBy_43 n r2 q4.2 v0 v1 v2 v3 (0 : Int32) x5)
      else (
        fX11_winsBy_43 n r2 q4.2 v0 v1 v2 v3 (1 : Int32) x5)))
theorem sX11_winsBy_2b {n : Nat} {r2 : ai_H → Nat → Int32 → Int32 → Int32 → Option (Int32 × ai_H)} {q : Int32 × ai_H} {h : ai_H} {v0 : Nat} {v1 : Int32} {v2 : Int32} {v3 : Int32} {lv : ai_L} (R2 : ∀ (h : ai_H) (v0 : Nat) (v1 : Int32) (v2 : Int32) (v3 : Int32) (lv : ai_L), ai_ld 0 lv = some (.ref v0) → ai_ld 1 lv = some (.int v1) → ai_ld 2 lv = some (.int v2) → ai_ld 3 lv = some (.int v3) → r2 h v0 v1 v2 v3 = some q → bi_go 1 tX11_winsBy n (fI n q) 2 lv [] h) (l0 : ai_ld 0 lv = some (.ref v0)) (l1 : ai_ld 1 lv = some (.int v1)) (l2 : ai_ld 2 lv = some (.int v2)) (l3 : ai_ld 3 lv = some (.int v3)) (hh : fX11_winsBy_2b n r2 h v0 v1 v2 v3 = some q) : bi_go 1 tX11_winsBy n (fI n q) 2 lv [] h := by
  unfold fX11_winsBy_2b at hh
  refine go_il (pc := 2) rfl l3 ?_
  refine go_al (pc := 3) rfl l0 ?_
  obtain ⟨x1, ex1, hh⟩ := bi_bd hh
  refine go_gfI (pc := 4) rfl ex1 ?_
  refine bi_ite hh (fun hc hh => ?_) (fun hc hh => ?_)
  · refine go_cmpgeT (pc := 7) rfl hc ?_
    refine go_pi (pc := 54) rfl ?_
    exact go_ri (pc := 55) rfl hh
  · refine go_cmpgeF (pc := 7) rfl hc ?_
    refine go_il (pc := 10) rfl l1 ?_
    refine go_il (pc := 11) rfl l3 ?_
    obtain ⟨q2, eq2, hh⟩ := bi_bd hh
    refine go_iSI (pc := 12) rfl (Nat.le_of_ble_eq_true rfl) rfl (Nat.le_of_ble_eq_true rfl) (bi_up (sX11_digit eq2) (Nat.le_of_ble_eq_true rfl)) ?_
    refine bi_ite hh (fun hc hh => ?_) (fun hc hh => ?_)
    · refine go_ifneT (pc := 15) rfl hc ?_
      exact sX11_winsBy_48 R2 l0 l1 l2 l3 hh
    · refine go_ifneF (pc := 15) rfl hc ?_
      refine go_al (pc := 18) rfl l0 ?_
      obtain ⟨x3, ex3, hh⟩ := bi_bd hh
      refine go_gfR (pc := 19) rfl ex3 ?_
      refine go_il (pc := 22) rfl l1 ?_
      refine go_il (pc := 23) rfl l2 ?_
      refine go_pi (pc := 24) rfl ?_
      refine go_iadd (pc := 25) rfl ?_
      refine go_il (pc := 26) rfl l3 ?_
      obtain ⟨q4, eq4, hh⟩ := bi_bd hh
      refine go_iSI (pc := 27) rfl (Nat.le_of_ble_eq_true rfl) rfl (Nat.le_of_ble_eq_true rfl) (bi_up (sX11_power eq4) (Nat.le_of_ble_eq_true rfl)) ?_
      refine go_imul (pc := 30) rfl ?_
      refine go_iadd (pc := 31) rfl ?_
      obtain ⟨x5, ex5, hh⟩ := bi_bd hh
      refine go_bald (pc := 32) rfl ex5 ?_
      refine go_il (pc := 33) rfl l2 ?_
      refine go_pi (pc := 34) rfl ?_
      refine bi_ite hh (fun hc hh => ?_) (fun hc hh => ?_)
      · refine go_cmpneT (pc := 35) rfl hc ?_
        refine go_pi (pc := 42) rfl ?_
        exact sX11_winsBy_43 R2 l0 l1 l2 l3 hh
      · refine go_cmpneF (pc := 35) rfl hc ?_
        refine go_pi (pc := 38) rfl ?_
        refine go_goto (pc := 39) rfl ?_
        exact sX11_winsBy_43 R2 l0 l1 l2 l3 hh
def fX11_winsBy_2 (n : Nat) : Nat → ai_H → Nat → Int32 → Int32 → Int32 → Option (Int32 × ai_H)
  | 0 => fun _ _ _ _ _ => none
  | k + 1 => fun h v0 v1 v2 v3 => fX11_winsBy_2b n (fX11_winsBy_2 n k) h v0 v1 v2 v3
theorem sX11_winsBy_2 {n : Nat} {q : Int32 × ai_H} : ∀ (k : Nat) (h : ai_H) (v0 : Nat) (v1 : Int32) (v2 : Int32) (v3 : Int32) (lv : ai_L), ai_ld 0 lv = some (.ref v0) → ai_ld 1 lv = some (.int v1) → ai_ld 2 lv = some (.int v2) → ai_ld 3 lv = some (.int v3) → fX11_winsBy_2 n k h v0 v1 v2 v3 = some q → bi_go 1 tX11_winsBy n (fI n q) 2 lv [] h
  | 0 => fun _ _ _ _ _ _ _ _ _ _ hh => by cases hh
  | k + 1 => fun h v0 v1 v2 v3 lv l0 l1 l2 l3 hh => sX11_winsBy_2b  (sX11_winsBy_2  k) l0 l1 l2 l3 hh
def fX11_winsBy (n : Nat) (h : ai_H) (a0 : Nat) (a1 : Int32) (a2 : Int32) : Option (Int32 × ai_H) :=
  (kO n h a0 11).bind fun _ =>
  fX11_winsBy_2 n bi_K h a0 a1 a2 (0 : Int32)
theorem gX11_winsBy {n : Nat} {h : ai_H} {a0 : Nat} {a1 : Int32} {a2 : Int32} {q : Int32 × ai_H} (hh : fX11_winsBy n h a0 a1 a2 = some q) : kO n h a0 11 = some () := by
  obtain ⟨_, e, -⟩ := bi_bd hh
  exact e
theorem sX11_winsBy {n : Nat} {h : ai_H} {a0 : Nat} {a1 : Int32} {a2 : Int32} {q : Int32 × ai_H} (hh : fX11_winsBy n h a0 a1 a2 = some q) : bi_sp 2 236 [.ref a0, .int a1, .int a2] h n (fI n q) := by
  refine bi_en (D := 1) (T := tX11_winsBy) (funext fun pc => rfl) rfl (Nat.le_of_ble_eq_true rfl) ?_
  unfold fX11_winsBy at hh
  obtain ⟨_, eO, hh⟩ := bi_bd hh
  refine go_pi (pc := 0) rfl ?_
  refine go_is (pc := 1) rfl ?_
  exact sX11_winsBy_2  _ _ _ _ _ _ _ (bi_k1 (rfl : ai_ld 0 (lv_args 0 [.ref a0, .int a1, .int a2]) = some (.ref a0)) rfl rfl) (bi_k1 (rfl : ai_ld 1 (lv_args 0 [.ref a0, .int a1, .int a2]) = some (.int a1)) rfl rfl) (bi_k1 (rfl : ai_ld 2 (lv_args 0 [.ref a0, .int a1, .int a2]) = some (.int a2)) rfl rfl) bi_e1 hh
