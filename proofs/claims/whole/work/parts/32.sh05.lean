/-! ===== methods as functions, part 5 ===== -/
def fX3_readNots_38b (n : Nat) (cX3_readNots : ai_H → Nat → Int32 → Option ((Unit ⊕ Nat) × ai_H)) (cX3_readPart : ai_H → Nat → Int32 → Option ((Unit ⊕ Nat) × ai_H)) (cX3_readLevel : ai_H → Nat → Int32 → Int32 → Option ((Unit ⊕ Nat) × ai_H)) (r38 : ai_H → Nat → Int32 → Int32 → Option ((Unit ⊕ Nat) × ai_H)) (h : ai_H) (v0 : Nat) (v2 : Int32) (v3 : Int32) : Option ((Unit ⊕ Nat) × ai_H) :=
  if v2 ≤ v3 then (
    some (.inl (), h))
  else (
    (pR n h v0 3 1).bind fun x1 =>
    (pR n h x1 8 5).bind fun x2 =>
    (fX2_put n h x2 (14 : Int32) (0 : Int32)).bind fun q3 =>
    r38 q3.2 v0 v2 (v3 + 1))
theorem sX3_readNots_38b {n : Nat} {D : Nat} {cX3_readNots : ai_H → Nat → Int32 → Option ((Unit ⊕ Nat) × ai_H)} {cX3_readPart : ai_H → Nat → Int32 → Option ((Unit ⊕ Nat) × ai_H)} {cX3_readLevel : ai_H → Nat → Int32 → Int32 → Option ((Unit ⊕ Nat) × ai_H)} {r38 : ai_H → Nat → Int32 → Int32 → Option ((Unit ⊕ Nat) × ai_H)} {q : (Unit ⊕ Nat) × ai_H} {h : ai_H} {v0 : Nat} {v2 : Int32} {v3 : Int32} {lv : ai_L} (hD : 3 ≤ D) (CX3_readNots : ∀ (h : ai_H) (a0 : Nat) (a1 : Int32) (q : (Unit ⊕ Nat) × ai_H), cX3_readNots h a0 a1 = some q → kO n h a0 3 = some () ∧ bi_sp D 38 [.ref a0, .int a1] h n (tV n q)) (CX3_readPart : ∀ (h : ai_H) (a0 : Nat) (a1 : Int32) (q : (Unit ⊕ Nat) × ai_H), cX3_readPart h a0 a1 = some q → kO n h a0 3 = some () ∧ bi_sp D 39 [.ref a0, .int a1] h n (tV n q)) (CX3_readLevel : ∀ (h : ai_H) (a0 : Nat) (a1 : Int32) (a2 : Int32) (q : (Unit ⊕ Nat) × ai_H), cX3_readLevel h a0 a1 a2 = some q → kO n h a0 3 = some () ∧ bi_sp D 37 [.ref a0, .int a1, .int a2] h n (tV n q)) (R38 : ∀ (h : ai_H) (v0 : Nat) (v2 : Int32) (v3 : Int32) (lv : ai_L), ai_ld 0 lv = some (.ref v0) → ai_ld 2 lv = some (.int v2) → ai_ld 3 lv = some (.int v3) → r38 h v0 v2 v3 = some q → bi_go D tX3_readNots n (tV n q) 38 lv [] h) (l0 : ai_ld 0 lv = some (.ref v0)) (l2 : ai_ld 2 lv = some (.int v2)) (l3 : ai_ld 3 lv = some (.int v3)) (hh : fX3_readNots_38b n cX3_readNots cX3_readPart cX3_readLevel r38 h v0 v2 v3 = some q) : bi_go D tX3_readNots n (tV n q) 38 lv [] h := by
  unfold fX3_readNots_38b at hh
  refine go_il (pc := 38) rfl l3 ?_
  refine go_il (pc := 39) rfl l2 ?_
  refine bi_ite hh (fun hc hh => ?_) (fun hc hh => ?_)
  · refine go_cmpgeT (pc := 40) rfl hc ?_
    exact go_trv (pc := 62) rfl hh
  · refine go_cmpgeF (pc := 40) rfl hc ?_
    refine go_al (pc := 43) rfl l0 ?_
    obtain ⟨x1, ex1, hh⟩ := bi_bd hh
    refine go_gfR (pc := 44) rfl ex1 ?_
    obtain ⟨x2, ex2, hh⟩ := bi_bd hh
    refine go_gfR (pc := 47) rfl ex2 ?_
    refine go_pi (pc := 50) rfl ?_
    refine go_pi (pc := 52) rfl ?_
    obtain ⟨q3, eq3, hh⟩ := bi_bd hh
    refine go_ivV (pc := 53) rfl rfl (gX2_put eq3) (Nat.le_of_ble_eq_true rfl) (bi_up (sX2_put eq3) (Nat.le_trans (Nat.le_of_ble_eq_true rfl) hD)) ?_
    refine go_inc (pc := 56) rfl l3 ?_
    refine go_goto (pc := 59) rfl ?_
    exact R38 _ _ _ _ _ (bi_k1 l0 rfl rfl) (bi_k1 l2 rfl rfl) bi_e1 hh
def fX3_readNots_38 (n : Nat) (cX3_readNots : ai_H → Nat → Int32 → Option ((Unit ⊕ Nat) × ai_H)) (cX3_readPart : ai_H → Nat → Int32 → Option ((Unit ⊕ Nat) × ai_H)) (cX3_readLevel : ai_H → Nat → Int32 → Int32 → Option ((Unit ⊕ Nat) × ai_H)) : Nat → ai_H → Nat → Int32 → Int32 → Option ((Unit ⊕ Nat) × ai_H)
  | 0 => fun _ _ _ _ => none
  | k + 1 => fun h v0 v2 v3 => fX3_readNots_38b n cX3_readNots cX3_readPart cX3_readLevel (fX3_readNots_38 n cX3_readNots cX3_readPart cX3_readLevel k) h v0 v2 v3
theorem sX3_readNots_38 {n : Nat} {D : Nat} {cX3_readNots : ai_H → Nat → Int32 → Option ((Unit ⊕ Nat) × ai_H)} {cX3_readPart : ai_H → Nat → Int32 → Option ((Unit ⊕ Nat) × ai_H)} {cX3_readLevel : ai_H → Nat → Int32 → Int32 → Option ((Unit ⊕ Nat) × ai_H)} {q : (Unit ⊕ Nat) × ai_H} (hD : 3 ≤ D) (CX3_readNots : ∀ (h : ai_H) (a0 : Nat) (a1 : Int32) (q : (Unit ⊕ Nat) × ai_H), cX3_readNots h a0 a1 = some q → kO n h a0 3 = some () ∧ bi_sp D 38 [.ref a0, .int a1] h n (tV n q)) (CX3_readPart : ∀ (h : ai_H) (a0 : Nat) (a1 : Int32) (q : (Unit ⊕ Nat) × ai_H), cX3_readPart h a0 a1 = some q → kO n h a0 3 = some () ∧ bi_sp D 39 [.ref a0, .int a1] h n (tV n q)) (CX3_readLevel : ∀ (h : ai_H) (a0 : Nat) (a1 : Int32) (a2 : Int32) (q : (Unit ⊕ Nat) × ai_H), cX3_readLevel h a0 a1 a2 = some q → kO n h a0 3 = some () ∧ bi_sp D 37 [.ref a0, .int a1, .int a2] h n (tV n q)) : ∀ (k : Nat) (h : ai_H) (v0 : Nat) (v2 : Int32) (v3 : Int32) (lv : ai_L), ai_ld 0 lv = some (.ref v0) → ai_ld 2 lv = some (.int v2) → ai_ld 3 lv = some (.int v3) → fX3_readNots_38 n cX3_readNots cX3_readPart cX3_readLevel k h v0 v2 v3 = some q → bi_go D tX3_readNots n (tV n q) 38 lv [] h
  | 0 => fun _ _ _ _ _ _ _ _ hh => by cases hh
  | k + 1 => fun h v0 v2 v3 lv l0 l2 l3 hh => sX3_readNots_38b hD CX3_readNots CX3_readPart CX3_readLevel (sX3_readNots_38 hD CX3_readNots CX3_readPart CX3_readLevel k) l0 l2 l3 hh
def fX3_readNots_30 (n : Nat) (cX3_readNots : ai_H → Nat → Int32 → Option ((Unit ⊕ Nat) × ai_H)) (cX3_readPart : ai_H → Nat → Int32 → Option ((Unit ⊕ Nat) × ai_H)) (cX3_readLevel : ai_H → Nat → Int32 → Int32 → Option ((Unit ⊕ Nat) × ai_H)) (h : ai_H) (v0 : Nat) (v1 : Int32) (v2 : Int32) : Option ((Unit ⊕ Nat) × ai_H) :=
  bt (cX3_readLevel h v0 (3 : Int32) v1) fun x1 h2 =>
  fX3_readNots_38 n cX3_readNots cX3_readPart cX3_readLevel bi_K h2 v0 v2 (0 : Int32)
theorem sX3_readNots_30 {n : Nat} {D : Nat} {cX3_readNots : ai_H → Nat → Int32 → Option ((Unit ⊕ Nat) × ai_H)} {cX3_readPart : ai_H → Nat → Int32 → Option ((Unit ⊕ Nat) × ai_H)} {cX3_readLevel : ai_H → Nat → Int32 → Int32 → Option ((Unit ⊕ Nat) × ai_H)} {q : (Unit ⊕ Nat) × ai_H} {h : ai_H} {v0 : Nat} {v1 : Int32} {v2 : Int32} {lv : ai_L} (hD : 3 ≤ D) (CX3_readNots : ∀ (h : ai_H) (a0 : Nat) (a1 : Int32) (q : (Unit ⊕ Nat) × ai_H), cX3_readNots h a0 a1 = some q → kO n h a0 3 = some () ∧ bi_sp D 38 [.ref a0, .int a1] h n (tV n q)) (CX3_readPart : ∀ (h : ai_H) (a0 : Nat) (a1 : Int32) (q : (Unit ⊕ Nat) × ai_H), cX3_readPart h a0 a1 = some q → kO n h a0 3 = some () ∧ bi_sp D 39 [.ref a0, .int a1] h n (tV n q)) (CX3_readLevel : ∀ (h : ai_H) (a0 : Nat) (a1 : Int32) (a2 : Int32) (q : (Unit ⊕ Nat) × ai_H), cX3_readLevel h a0 a1 a2 = some q → kO n h a0 3 = some () ∧ bi_sp D 37 [.ref a0, .int a1, .int a2] h n (tV n q)) (l0 : ai_ld 0 lv = some (.ref v0)) (l1 : ai_ld 1 lv = some (.int v1)) (l2 : ai_ld 2 lv = some (.int v2)) (hh : fX3_readNots_30 n cX3_readNots cX3_readPart cX3_readLevel h v0 v1 v2 = some q) : bi_go D tX3_readNots n (tV n q) 30 lv [] h := by
  unfold fX3_readNots_30 at hh
  refine go_al (pc := 30) rfl l0 ?_
  refine go_pi (pc := 31) rfl ?_
  refine go_il (pc := 32) rfl l1 ?_
  refine bt_c hh (fun E hE ee hh => go_ivX (pc := 33) rfl rfl (CX3_readLevel _ _ _ _ _ ee).1 (Nat.le_of_ble_eq_true rfl) (CX3_readLevel _ _ _ _ _ ee).2 (bi_xV hh)) ?_
  intro x1 h2 ex1 hh
  refine go_ivV (pc := 33) rfl rfl (CX3_readLevel _ _ _ _ _ ex1).1 (Nat.le_of_ble_eq_true rfl) (CX3_readLevel _ _ _ _ _ ex1).2 ?_
  refine go_pi (pc := 36) rfl ?_
  refine go_is (pc := 37) rfl ?_
  exact sX3_readNots_38 hD CX3_readNots CX3_readPart CX3_readLevel _ _ _ _ _ _ (bi_k1 l0 rfl rfl) (bi_k1 l2 rfl rfl) bi_e1 hh
def fX3_readNots_2b (n : Nat) (cX3_readNots : ai_H → Nat → Int32 → Option ((Unit ⊕ Nat) × ai_H)) (cX3_readPart : ai_H → Nat → Int32 → Option ((Unit ⊕ Nat) × ai_H)) (cX3_readLevel : ai_H → Nat → Int32 → Int32 → Option ((Unit ⊕ Nat) × ai_H)) (r2 : ai_H → Nat → Int32 → Int32 → Option ((Unit ⊕ Nat) × ai_H)) (h : ai_H) (v0 : Nat) (v1 : Int32) (v2 : Int32) : Option ((Unit ⊕ Nat) × ai_H) :=
  if (64 : Int32) < v2 then (
    fX3_readNots_30 n cX3_readNots cX3_readPart cX3_readLevel h v0 v1 v2)
  else (
    (pR n h v0 3 0).bind fun x1 =>
    (pI n h x1 7 4).bind fun x2 =>
    if ¬ x2 = (14 : Int32) then (
      fX3_readNots_30 n cX3_readNots cX3_readPart cX3_readLevel h v0 v1 v2)
    else (
      bt (fX3_takeKnot n h v0) fun x3 h4 =>
      r2 h4 v0 v1 (v2 + 1)))
theorem sX3_readNots_2b {n : Nat} {D : Nat} {cX3_readNots : ai_H → Nat → Int32 → Option ((Unit ⊕ Nat) × ai_H)} {cX3_readPart : ai_H → Nat → Int32 → Option ((Unit ⊕ Nat) × ai_H)} {cX3_readLevel : ai_H → Nat → Int32 → Int32 → Option ((Unit ⊕ Nat) × ai_H)} {r2 : ai_H → Nat → Int32 → Int32 → Option ((Unit ⊕ Nat) × ai_H)} {q : (Unit ⊕ Nat) × ai_H} {h : ai_H} {v0 : Nat} {v1 : Int32} {v2 : Int32} {lv : ai_L} (hD : 3 ≤ D) (CX3_readNots : ∀ (h : ai_H) (a0 : Nat) (a1 : Int32) (q : (Unit ⊕ Nat) × ai_H), cX3_readNots h a0 a1 = some q → kO n h a0 3 = some () ∧ bi_sp D 38 [.ref a0, .int a1] h n (tV n q)) (CX3_readPart : ∀ (h : ai_H) (a0 : Nat) (a1 : Int32) (q : (Unit ⊕ Nat) × ai_H), cX3_readPart h a0 a1 = some q → kO n h a0 3 = some () ∧ bi_sp D 39 [.ref a0, .int a1] h n (tV n q)) (CX3_readLevel : ∀ (h : ai_H) (a0 : Nat) (a1 : Int32) (a2 : Int32) (q : (Unit ⊕ Nat) × ai_H), cX3_readLevel h a0 a1 a2 = some q → kO n h a0 3 = some () ∧ bi_sp D 37 [.ref a0, .int a1, .int a2] h n (tV n q)) (R2 : ∀ (h : ai_H) (v0 : Nat) (v1 : Int32) (v2 : Int32) (lv : ai_L), ai_ld 0 lv = some (.ref v0) → ai_ld 1 lv = some (.int v1) → ai_ld 2 lv = some (.int v2) → r2 h v0 v1 v2 = some q → bi_go D tX3_readNots n (tV n q) 2 lv [] h) (l0 : ai_ld 0 lv = some (.ref v0)) (l1 : ai_ld 1 lv = some (.int v1)) (l2 : ai_ld 2 lv = some (.int v2)) (hh : fX3_readNots_2b n cX3_readNots cX3_readPart cX3_readLevel r2 h v0 v1 v2 = some q) : bi_go D tX3_readNots n (tV n q) 2 lv [] h := by
  unfold fX3_readNots_2b at hh
  refine go_il (pc := 2) rfl l2 ?_
  refine go_pi (pc := 3) rfl ?_
  refine bi_ite hh (fun hc hh => ?_) (fun hc hh => ?_)
  · refine go_cmpgtT (pc := 5) rfl hc ?_
    exact sX3_readNots_30 hD CX3_readNots CX3_readPart CX3_readLevel l0 l1 l2 hh
  · refine go_cmpgtF (pc := 5) rfl hc ?_
    refine go_al (pc := 8) rfl l0 ?_
    obtain ⟨x1, ex1, hh⟩ := bi_bd hh
    refine go_gfR (pc := 9) rfl ex1 ?_
    obtain ⟨x2, ex2, hh⟩ := bi_bd hh
    refine go_gfI (pc := 12) rfl ex2 ?_
    refine go_pi (pc := 15) rfl ?_
    refine bi_ite hh (fun hc hh => ?_) (fun hc hh => ?_)
    · refine go_cmpneT (pc := 17) rfl hc ?_
      exact sX3_readNots_30 hD CX3_readNots CX3_readPart CX3_readLevel l0 l1 l2 hh
    · refine go_cmpneF (pc := 17) rfl hc ?_
      refine go_al (pc := 20) rfl l0 ?_
      refine bt_c hh (fun E hE ee hh => go_ivX (pc := 21) rfl rfl (gX3_takeKnot ee) (Nat.le_of_ble_eq_true rfl) (bi_up (sX3_takeKnot ee) (Nat.le_trans (Nat.le_of_ble_eq_true rfl) hD)) (bi_xV hh)) ?_
      intro x3 h4 ex3 hh
      refine go_ivV (pc := 21) rfl rfl (gX3_takeKnot ex3) (Nat.le_of_ble_eq_true rfl) (bi_up (sX3_takeKnot ex3) (Nat.le_trans (Nat.le_of_ble_eq_true rfl) hD)) ?_
      refine go_inc (pc := 24) rfl l2 ?_
      refine go_goto (pc := 27) rfl ?_
      exact R2 _ _ _ _ _ (bi_k1 l0 rfl rfl) (bi_k1 l1 rfl rfl) bi_e1 hh
def fX3_readNots_2 (n : Nat) (cX3_readNots : ai_H → Nat → Int32 → Option ((Unit ⊕ Nat) × ai_H)) (cX3_readPart : ai_H → Nat → Int32 → Option ((Unit ⊕ Nat) × ai_H)) (cX3_readLevel : ai_H → Nat → Int32 → Int32 → Option ((Unit ⊕ Nat) × ai_H)) : Nat → ai_H → Nat → Int32 → Int32 → Option ((Unit ⊕ Nat) × ai_H)
  | 0 => fun _ _ _ _ => none
  | k + 1 => fun h v0 v1 v2 => fX3_readNots_2b n cX3_readNots cX3_readPart cX3_readLevel (fX3_readNots_2 n cX3_readNots cX3_readPart cX3_readLevel k) h v0 v1 v2
theorem sX3_readNots_2 {n : Nat} {D : Nat} {cX3_readNots : ai_H → Nat → Int32 → Option ((Unit ⊕ Nat) × ai_H)} {cX3_readPart : ai_H → Nat → Int32 → Option ((Unit ⊕ Nat) × ai_H)} {cX3_readLevel : ai_H → Nat → Int32 → Int32 → Option ((Unit ⊕ Nat) × ai_H)} {q : (Unit ⊕ Nat) × ai_H} (hD : 3 ≤ D) (CX3_readNots : ∀ (h : ai_H) (a0 : Nat) (a1 : Int32) (q : (Unit ⊕ Nat) × ai_H), cX3_readNots h a0 a1 = some q → kO n h a0 3 = some () ∧ bi_sp D 38 [.ref a0, .int a1] h n (tV n q)) (CX3_readPart : ∀ (h : ai_H) (a0 : Nat) (a1 : Int32) (q : (Unit ⊕ Nat) × ai_H), cX3_readPart h a0 a1 = some q → kO n h a0 3 = some () ∧ bi_sp D 39 [.ref a0, .int a1] h n (tV n q)) (CX3_readLevel : ∀ (h : ai_H) (a0 : Nat) (a1 : Int32) (a2 : Int32) (q : (Unit ⊕ Nat) × ai_H), cX3_readLevel h a0 a1 a2 = some q → kO n h a0 3 = some () ∧ bi_sp D 37 [.ref a0, .int a1, .int a2] h n (tV n q)) : ∀ (k : Nat) (h : ai_H) (v0 : Nat) (v1 : Int32) (v2 : Int32) (lv : ai_L), ai_ld 0 lv = some (.ref v0) → ai_ld 1 lv = some (.int v1) → ai_ld 2 lv = some (.int v2) → fX3_readNots_2 n cX3_readNots cX3_readPart cX3_readLevel k h v0 v1 v2 = some q → bi_go D tX3_readNots n (tV n q) 2 lv [] h
  | 0 => fun _ _ _ _ _ _ _ _ hh => by cases hh
  | k + 1 => fun h v0 v1 v2 lv l0 l1 l2 hh => sX3_readNots_2b hD CX3_readNots CX3_readPart CX3_readLevel (sX3_readNots_2 hD CX3_readNots CX3_readPart CX3_readLevel k) l0 l1 l2 hh
def fX3_readNots (n : Nat) (cX3_readNots : ai_H → Nat → Int32 → Option ((Unit ⊕ Nat) × ai_H)) (cX3_readPart : ai_H → Nat → Int32 → Option ((Unit ⊕ Nat) × ai_H)) (cX3_readLevel : ai_H → Nat → Int32 → Int32 → Option ((Unit ⊕ Nat) × ai_H)) (h : ai_H) (a0 : Nat) (a1 : Int32) : Option ((Unit ⊕ Nat) × ai_H) :=
  (kO n h a0 3).bind fun _ =>
  fX3_readNots_2 n cX3_readNots cX3_readPart cX3_readLevel bi_K h a0 a1 (0 : Int32)
theorem gX3_readNots {n : Nat} {cX3_readNots : ai_H → Nat → Int32 → Option ((Unit ⊕ Nat) × ai_H)} {cX3_readPart : ai_H → Nat → Int32 → Option ((Unit ⊕ Nat) × ai_H)} {cX3_readLevel : ai_H → Nat → Int32 → Int32 → Option ((Unit ⊕ Nat) × ai_H)} {h : ai_H} {a0 : Nat} {a1 : Int32} {q : (Unit ⊕ Nat) × ai_H} (hh : fX3_readNots n cX3_readNots cX3_readPart cX3_readLevel h a0 a1 = some q) : kO n h a0 3 = some () := by
  obtain ⟨_, e, -⟩ := bi_bd hh
  exact e
theorem sX3_readNots {n : Nat} {D : Nat} {cX3_readNots : ai_H → Nat → Int32 → Option ((Unit ⊕ Nat) × ai_H)} {cX3_readPart : ai_H → Nat → Int32 → Option ((Unit ⊕ Nat) × ai_H)} {cX3_readLevel : ai_H → Nat → Int32 → Int32 → Option ((Unit ⊕ Nat) × ai_H)} {h : ai_H} {a0 : Nat} {a1 : Int32} {q : (Unit ⊕ Nat) × ai_H} (hD : 3 ≤ D) (CX3_readNots : ∀ (h : ai_H) (a0 : Nat) (a1 : Int32) (q : (Unit ⊕ Nat) × ai_H), cX3_readNots h a0 a1 = some q → kO n h a0 3 = some () ∧ bi_sp D 38 [.ref a0, .int a1] h n (tV n q)) (CX3_readPart : ∀ (h : ai_H) (a0 : Nat) (a1 : Int32) (q : (Unit ⊕ Nat) × ai_H), cX3_readPart h a0 a1 = some q → kO n h a0 3 = some () ∧ bi_sp D 39 [.ref a0, .int a1] h n (tV n q)) (CX3_readLevel : ∀ (h : ai_H) (a0 : Nat) (a1 : Int32) (a2 : Int32) (q : (Unit ⊕ Nat) × ai_H), cX3_readLevel h a0 a1 a2 = some q → kO n h a0 3 = some () ∧ bi_sp D 37 [.ref a0, .int a1, .int a2] h n (tV n q)) (hh : fX3_readNots n cX3_readNots cX3_readPart cX3_readLevel h a0 a1 = some q) : bi_sp (D + 1) 38 [.ref a0, .int a1] h n (tV n q) := by
  refine bi_en (D := D) (T := tX3_readNots) (funext fun pc => rfl) rfl (Nat.le_of_ble_eq_true rfl) ?_
  unfold fX3_readNots at hh
  obtain ⟨_, eO, hh⟩ := bi_bd hh
  refine go_pi (pc := 0) rfl ?_
  refine go_is (pc := 1) rfl ?_
  exact sX3_readNots_2 hD CX3_readNots CX3_readPart CX3_readLevel _ _ _ _ _ _ (bi_k1 (rfl : ai_ld 0 (lv_args 0 [.ref a0, .int a1]) = some (.ref a0)) rfl rfl) (bi_k1 (rfl : ai_ld 1 (lv_args 0 [.ref a0, .int a1]) = some (.int a1)) rfl rfl) bi_e1 hh
def fX3_readPart_33 (n : Nat) (cX3_readNots : ai_H → Nat → Int32 → Option ((Unit ⊕ Nat) × ai_H)) (cX3_readPart : ai_H → Nat → Int32 → Option ((Unit ⊕ Nat) × ai_H)) (cX3_readLevel : ai_H → Nat → Int32 → Int32 → Option ((Unit ⊕ Nat) × ai_H)) (h : ai_H) (v0 : Nat) (v1 : Int32) : Option ((Unit ⊕ Nat) × ai_H) :=
  (pR n h v0 3 0).bind fun x1 =>
  (fX7_advance n h x1).bind fun q2 =>
  bt (cX3_readLevel q2.2 v0 (0 : Int32) (v1 + (1 : Int32))) fun x3 h4 =>
  bt (fX3_expect n h4 v0 (26 : Int32)) fun x5 h6 =>
  some (.inl (), h6)
theorem sX3_readPart_33 {n : Nat} {D : Nat} {cX3_readNots : ai_H → Nat → Int32 → Option ((Unit ⊕ Nat) × ai_H)} {cX3_readPart : ai_H → Nat → Int32 → Option ((Unit ⊕ Nat) × ai_H)} {cX3_readLevel : ai_H → Nat → Int32 → Int32 → Option ((Unit ⊕ Nat) × ai_H)} {q : (Unit ⊕ Nat) × ai_H} {h : ai_H} {v0 : Nat} {v1 : Int32} {lv : ai_L} (hD : 3 ≤ D) (CX3_readNots : ∀ (h : ai_H) (a0 : Nat) (a1 : Int32) (q : (Unit ⊕ Nat) × ai_H), cX3_readNots h a0 a1 = some q → kO n h a0 3 = some () ∧ bi_sp D 38 [.ref a0, .int a1] h n (tV n q)) (CX3_readPart : ∀ (h : ai_H) (a0 : Nat) (a1 : Int32) (q : (Unit ⊕ Nat) × ai_H), cX3_readPart h a0 a1 = some q → kO n h a0 3 = some () ∧ bi_sp D 39 [.ref a0, .int a1] h n (tV n q)) (CX3_readLevel : ∀ (h : ai_H) (a0 : Nat) (a1 : Int32) (a2 : Int32) (q : (Unit ⊕ Nat) × ai_H), cX3_readLevel h a0 a1 a2 = some q → kO n h a0 3 = some () ∧ bi_sp D 37 [.ref a0, .int a1, .int a2] h n (tV n q)) (l0 : ai_ld 0 lv = some (.ref v0)) (l1 : ai_ld 1 lv = some (.int v1)) (hh : fX3_readPart_33 n cX3_readNots cX3_readPart cX3_readLevel h v0 v1 = some q) : bi_go D tX3_readPart n (tV n q) 33 lv [] h := by
  unfold fX3_readPart_33 at hh
  refine go_al (pc := 33) rfl l0 ?_
  obtain ⟨x1, ex1, hh⟩ := bi_bd hh
  refine go_gfR (pc := 34) rfl ex1 ?_
  obtain ⟨q2, eq2, hh⟩ := bi_bd hh
  refine go_ivV (pc := 37) rfl rfl (gX7_advance eq2) (Nat.le_of_ble_eq_true rfl) (bi_up (sX7_advance eq2) (Nat.le_trans (Nat.le_of_ble_eq_true rfl) hD)) ?_
  refine go_al (pc := 40) rfl l0 ?_
  refine go_pi (pc := 41) rfl ?_
  refine go_il (pc := 42) rfl l1 ?_
  refine go_pi (pc := 43) rfl ?_
  refine go_iadd (pc := 44) rfl ?_
  refine bt_c hh (fun E hE ee hh => go_ivX (pc := 45) rfl rfl (CX3_readLevel _ _ _ _ _ ee).1 (Nat.le_of_ble_eq_true rfl) (CX3_readLevel _ _ _ _ _ ee).2 (bi_xV hh)) ?_
  intro x3 h4 ex3 hh
  refine go_ivV (pc := 45) rfl rfl (CX3_readLevel _ _ _ _ _ ex3).1 (Nat.le_of_ble_eq_true rfl) (CX3_readLevel _ _ _ _ _ ex3).2 ?_
  refine go_al (pc := 48) rfl l0 ?_
  refine go_pi (pc := 49) rfl ?_
  refine bt_c hh (fun E hE ee hh => go_ivX (pc := 51) rfl rfl (gX3_expect ee) (Nat.le_of_ble_eq_true rfl) (bi_up (sX3_expect ee) (Nat.le_trans (Nat.le_of_ble_eq_true rfl) hD)) (bi_xV hh)) ?_
  intro x5 h6 ex5 hh
  refine go_ivV (pc := 51) rfl rfl (gX3_expect ex5) (Nat.le_of_ble_eq_true rfl) (bi_up (sX3_expect ex5) (Nat.le_trans (Nat.le_of_ble_eq_true rfl) hD)) ?_
  exact go_trv (pc := 54) rfl hh
def fX3_readPart_91 (n : Nat) (cX3_readNots : ai_H → Nat → Int32 → Option ((Unit ⊕ Nat) × ai_H)) (cX3_readPart : ai_H → Nat → Int32 → Option ((Unit ⊕ Nat) × ai_H)) (cX3_readLevel : ai_H → Nat → Int32 → Int32 → Option ((Unit ⊕ Nat) × ai_H)) (h : ai_H) (v0 : Nat) (v2 : Int32) (v3 : Int32) : Option ((Unit ⊕ Nat) × ai_H) :=
  bt (fX3_takeKnot n h v0) fun x1 h2 =>
  (pR n h2 v0 3 1).bind fun x3 =>
  (pR n h2 x3 8 5).bind fun x4 =>
  (fX2_put n h2 x4 v2 v3).bind fun q5 =>
  some (.inl (), q5.2)
theorem sX3_readPart_91 {n : Nat} {D : Nat} {cX3_readNots : ai_H → Nat → Int32 → Option ((Unit ⊕ Nat) × ai_H)} {cX3_readPart : ai_H → Nat → Int32 → Option ((Unit ⊕ Nat) × ai_H)} {cX3_readLevel : ai_H → Nat → Int32 → Int32 → Option ((Unit ⊕ Nat) × ai_H)} {q : (Unit ⊕ Nat) × ai_H} {h : ai_H} {v0 : Nat} {v2 : Int32} {v3 : Int32} {lv : ai_L} (hD : 3 ≤ D) (CX3_readNots : ∀ (h : ai_H) (a0 : Nat) (a1 : Int32) (q : (Unit ⊕ Nat) × ai_H), cX3_readNots h a0 a1 = some q → kO n h a0 3 = some () ∧ bi_sp D 38 [.ref a0, .int a1] h n (tV n q)) (CX3_readPart : ∀ (h : ai_H) (a0 : Nat) (a1 : Int32) (q : (Unit ⊕ Nat) × ai_H), cX3_readPart h a0 a1 = some q → kO n h a0 3 = some () ∧ bi_sp D 39 [.ref a0, .int a1] h n (tV n q)) (CX3_readLevel : ∀ (h : ai_H) (a0 : Nat) (a1 : Int32) (a2 : Int32) (q : (Unit ⊕ Nat) × ai_H), cX3_readLevel h a0 a1 a2 = some q → kO n h a0 3 = some () ∧ bi_sp D 37 [.ref a0, .int a1, .int a2] h n (tV n q)) (l0 : ai_ld 0 lv = some (.ref v0)) (l2 : ai_ld 2 lv = some (.int v2)) (l3 : ai_ld 3 lv = some (.int v3)) (hh : fX3_readPart_91 n cX3_readNots cX3_readPart cX3_readLevel h v0 v2 v3 = some q) : bi_go D tX3_readPart n (tV n q) 91 lv [] h := by
  unfold fX3_readPart_91 at hh
  refine go_al (pc := 91) rfl l0 ?_
  refine bt_c hh (fun E hE ee hh => go_ivX (pc := 92) rfl rfl (gX3_takeKnot ee) (Nat.le_of_ble_eq_true rfl) (bi_up (sX3_takeKnot ee) (Nat.le_trans (Nat.le_of_ble_eq_true rfl) hD)) (bi_xV hh)) ?_
  intro x1 h2 ex1 hh
  refine go_ivV (pc := 92) rfl rfl (gX3_takeKnot ex1) (Nat.le_of_ble_eq_true rfl) (bi_up (sX3_takeKnot ex1) (Nat.le_trans (Nat.le_of_ble_eq_true rfl) hD)) ?_
  refine go_al (pc := 95) rfl l0 ?_
  obtain ⟨x3, ex3, hh⟩ := bi_bd hh
  refine go_gfR (pc := 96) rfl ex3 ?_
  obtain ⟨x4, ex4, hh⟩ := bi_bd hh
  refine go_gfR (pc := 99) rfl ex4 ?_
  refine go_il (pc := 102) rfl l2 ?_
  refine go_il (pc := 103) rfl l3 ?_
  obtain ⟨q5, eq5, hh⟩ := bi_bd hh
  refine go_ivV (pc := 104) rfl rfl (gX2_put eq5) (Nat.le_of_ble_eq_true rfl) (bi_up (sX2_put eq5) (Nat.le_trans (Nat.le_of_ble_eq_true rfl) hD)) ?_
  exact go_trv (pc := 107) rfl hh
def fX3_readPart_73 (n : Nat) (cX3_readNots : ai_H → Nat → Int32 → Option ((Unit ⊕ Nat) × ai_H)) (cX3_readPart : ai_H → Nat → Int32 → Option ((Unit ⊕ Nat) × ai_H)) (cX3_readLevel : ai_H → Nat → Int32 → Int32 → Option ((Unit ⊕ Nat) × ai_H)) (h : ai_H) (v0 : Nat) (v2 : Int32) (v3 : Int32) : Option ((Unit ⊕ Nat) × ai_H) :=
  if ¬ v2 = (23 : Int32) then (
    fX3_readPart_91 n cX3_readNots cX3_readPart cX3_readLevel h v0 v2 v3)
  else (
    if v3 ≤ (9999 : Int32) then (
      fX3_readPart_91 n cX3_readNots cX3_readPart cX3_readLevel h v0 v2 v3)
    else (
      bt (fX3_fail n h v0 (2 : Int32)) fun x1 h2 =>
      fX3_readPart_91 n cX3_readNots cX3_readPart cX3_readLevel h2 v0 v2 v3))
theorem sX3_readPart_73 {n : Nat} {D : Nat} {cX3_readNots : ai_H → Nat → Int32 → Option ((Unit ⊕ Nat) × ai_H)} {cX3_readPart : ai_H → Nat → Int32 → Option ((Unit ⊕ Nat) × ai_H)} {cX3_readLevel : ai_H → Nat → Int32 → Int32 → Option ((Unit ⊕ Nat) × ai_H)} {q : (Unit ⊕ Nat) × ai_H} {h : ai_H} {v0 : Nat} {v2 : Int32} {v3 : Int32} {lv : ai_L} (hD : 3 ≤ D) (CX3_readNots : ∀ (h : ai_H) (a0 : Nat) (a1 : Int32) (q : (Unit ⊕ Nat) × ai_H), cX3_readNots h a0 a1 = some q → kO n h a0 3 = some () ∧ bi_sp D 38 [.ref a0, .int a1] h n (tV n q)) (CX3_readPart : ∀ (h : ai_H) (a0 : Nat) (a1 : Int32) (q : (Unit ⊕ Nat) × ai_H), cX3_readPart h a0 a1 = some q → kO n h a0 3 = some () ∧ bi_sp D 39 [.ref a0, .int a1] h n (tV n q)) (CX3_readLevel : ∀ (h : ai_H) (a0 : Nat) (a1 : Int32) (a2 : Int32) (q : (Unit ⊕ Nat) × ai_H), cX3_readLevel h a0 a1 a2 = some q → kO n h a0 3 = some () ∧ bi_sp D 37 [.ref a0, .int a1, .int a2] h n (tV n q)) (l0 : ai_ld 0 lv = some (.ref v0)) (l2 : ai_ld 2 lv = some (.int v2)) (l3 : ai_ld 3 lv = some (.int v3)) (hh : fX3_readPart_73 n cX3_readNots cX3_readPart cX3_readLevel h v0 v2 v3 = some q) : bi_go D tX3_readPart n (tV n q) 73 lv [] h := by
  unfold fX3_readPart_73 at hh
  refine go_il (pc := 73) rfl l2 ?_
  refine go_pi (pc := 74) rfl ?_
  refine bi_ite hh (fun hc hh => ?_) (fun hc hh => ?_)
  · refine go_cmpneT (pc := 76) rfl hc ?_
    exact sX3_readPart_91 hD CX3_readNots CX3_readPart CX3_readLevel l0 l2 l3 hh
  · refine go_cmpneF (pc := 76) rfl hc ?_
    refine go_il (pc := 79) rfl l3 ?_
    refine go_pi (pc := 80) rfl ?_
    refine bi_ite hh (fun hc hh => ?_) (fun hc hh => ?_)
    · refine go_cmpleT (pc := 83) rfl hc ?_
      exact sX3_readPart_91 hD CX3_readNots CX3_readPart CX3_readLevel l0 l2 l3 hh
    · refine go_cmpleF (pc := 83) rfl hc ?_
      refine go_al (pc := 86) rfl l0 ?_
      refine go_pi (pc := 87) rfl ?_
      refine bt_c hh (fun E hE ee hh => go_ivX (pc := 88) rfl rfl (gX3_fail ee) (Nat.le_of_ble_eq_true rfl) (bi_up (sX3_fail ee) (Nat.le_trans (Nat.le_of_ble_eq_true rfl) hD)) (bi_xV hh)) ?_
      intro x1 h2 ex1 hh
      refine go_ivV (pc := 88) rfl rfl (gX3_fail ex1) (Nat.le_of_ble_eq_true rfl) (bi_up (sX3_fail ex1) (Nat.le_trans (Nat.le_of_ble_eq_true rfl) hD)) ?_
      exact sX3_readPart_91 hD CX3_readNots CX3_readPart CX3_readLevel l0 l2 l3 hh
def fX3_readPart (n : Nat) (cX3_readNots : ai_H → Nat → Int32 → Option ((Unit ⊕ Nat) × ai_H)) (cX3_readPart : ai_H → Nat → Int32 → Option ((Unit ⊕ Nat) × ai_H)) (cX3_readLevel : ai_H → Nat → Int32 → Int32 → Option ((Unit ⊕ Nat) × ai_H)) (h : ai_H) (a0 : Nat) (a1 : Int32) : Option ((Unit ⊕ Nat) × ai_H) :=
  (kO n h a0 3).bind fun _ =>
  (pR n h a0 3 0).bind fun x1 =>
  (pI n h x1 7 4).bind fun x2 =>
  (pR n h a0 3 0).bind fun x3 =>
  (pI n h x3 7 6).bind fun x4 =>
  if ¬ x2 = (25 : Int32) then (
    if x2 = (23 : Int32) then (
      fX3_readPart_73 n cX3_readNots cX3_readPart cX3_readLevel h a0 x2 x4)
    else (
      (fX7_isName n h x2).bind fun q5 =>
      if ¬ q5.1 = 0 then (
        fX3_readPart_73 n cX3_readNots cX3_readPart cX3_readLevel q5.2 a0 x2 x4)
      else (
        bt (fX3_fail n q5.2 a0 (1 : Int32)) fun x6 h7 =>
        fX3_readPart_73 n cX3_readNots cX3_readPart cX3_readLevel h7 a0 x2 x4)))
  else (
    if a1 < (8 : Int32) then (
      fX3_readPart_33 n cX3_readNots cX3_readPart cX3_readLevel h a0 a1)
    else (
      bt (fX3_fail n h a0 (2 : Int32)) fun x8 h9 =>
      fX3_readPart_33 n cX3_readNots cX3_readPart cX3_readLevel h9 a0 a1))
theorem gX3_readPart {n : Nat} {cX3_readNots : ai_H → Nat → Int32 → Option ((Unit ⊕ Nat) × ai_H)} {cX3_readPart : ai_H → Nat → Int32 → Option ((Unit ⊕ Nat) × ai_H)} {cX3_readLevel : ai_H → Nat → Int32 → Int32 → Option ((Unit ⊕ Nat) × ai_H)} {h : ai_H} {a0 : Nat} {a1 : Int32} {q : (Unit ⊕ Nat) × ai_H} (hh : fX3_readPart n cX3_readNots cX3_readPart cX3_readLevel h a0 a1 = some q) : kO n h a0 3 = some () := by
  obtain ⟨_, e, -⟩ := bi_bd hh
  exact e
theorem sX3_readPart {n : Nat} {D : Nat} {cX3_readNots : ai_H → Nat → Int32 → Option ((Unit ⊕ Nat) × ai_H)} {cX3_readPart : ai_H → Nat → Int32 → Option ((Unit ⊕ Nat) × ai_H)} {cX3_readLevel : ai_H → Nat → Int32 → Int32 → Option ((Unit ⊕ Nat) × ai_H)} {h : ai_H} {a0 : Nat} {a1 : Int32} {q : (Unit ⊕ Nat) × ai_H} (hD : 3 ≤ D) (CX3_readNots : ∀ (h : ai_H) (a0 : Nat) (a1 : Int32) (q : (Unit ⊕ Nat) × ai_H), cX3_readNots h a0 a1 = some q → kO n h a0 3 = some () ∧ bi_sp D 38 [.ref a0, .int a1] h n (tV n q)) (CX3_readPart : ∀ (h : ai_H) (a0 : Nat) (a1 : Int32) (q : (Unit ⊕ Nat) × ai_H), cX3_readPart h a0 a1 = some q → kO n h a0 3 = some () ∧ bi_sp D 39 [.ref a0, .int a1] h n (tV n q)) (CX3_readLevel : ∀ (h : ai_H) (a0 : Nat) (a1 : Int32) (a2 : Int32) (q : (Unit ⊕ Nat) × ai_H), cX3_readLevel h a0 a1 a2 = some q → kO n h a0 3 = some () ∧ bi_sp D 37 [.ref a0, .int a1, .int a2] h n (tV n q)) (hh : fX3_readPart n cX3_readNots cX3_readPart cX3_readLevel h a0 a1 = some q) : bi_sp (D + 1) 39 [.ref a0, .int a1] h n (tV n q) := by
  refine bi_en (D := D) (T := tX3_readPart) (funext fun pc => rfl) rfl (Nat.le_of_ble_eq_true rfl) ?_
  unfold fX3_readPart at hh
  obtain ⟨_, eO, hh⟩ := bi_bd hh
  refine go_al (pc := 0) rfl (rfl : ai_ld 0 (lv_args 0 [.ref a0, .int a1]) = some (.ref a0)) ?_
  obtain ⟨x1, ex1, hh⟩ := bi_bd hh
  refine go_gfR (pc := 1) rfl ex1 ?_
  obtain ⟨x2, ex2, hh⟩ := bi_bd hh
  refine go_gfI (pc := 4) rfl ex2 ?_
  refine go_is (pc := 7) rfl ?_
  refine go_al (pc := 8) rfl (bi_k1 (rfl : ai_ld 0 (lv_args 0 [.ref a0, .int a1]) = some (.ref a0)) rfl rfl) ?_
  obtain ⟨x3, ex3, hh⟩ := bi_bd hh
  refine go_gfR (pc := 9) rfl ex3 ?_
  obtain ⟨x4, ex4, hh⟩ := bi_bd hh
  refine go_gfI (pc := 12) rfl ex4 ?_
  refine go_is (pc := 15) rfl ?_
  refine go_il (pc := 16) rfl (bi_k1 bi_e1 rfl rfl) ?_
  refine go_pi (pc := 17) rfl ?_
  refine bi_ite hh (fun hc hh => ?_) (fun hc hh => ?_)
  · refine go_cmpneT (pc := 19) rfl hc ?_
    refine go_il (pc := 55) rfl (bi_k1 bi_e1 rfl rfl) ?_
    refine go_pi (pc := 56) rfl ?_
    refine bi_ite hh (fun hc hh => ?_) (fun hc hh => ?_)
    · refine go_cmpeqT (pc := 58) rfl hc ?_
      exact sX3_readPart_73 hD CX3_readNots CX3_readPart CX3_readLevel (bi_k1 (bi_k1 (rfl : ai_ld 0 (lv_args 0 [.ref a0, .int a1]) = some (.ref a0)) rfl rfl) rfl rfl) (bi_k1 bi_e1 rfl rfl) bi_e1 hh
    · refine go_cmpeqF (pc := 58) rfl hc ?_
      refine go_il (pc := 61) rfl (bi_k1 bi_e1 rfl rfl) ?_
      obtain ⟨q5, eq5, hh⟩ := bi_bd hh
      refine go_iSI (pc := 62) rfl (Nat.le_of_ble_eq_true rfl) rfl (Nat.le_of_ble_eq_true rfl) (bi_up (sX7_isName eq5) (Nat.le_trans (Nat.le_of_ble_eq_true rfl) hD)) ?_
      refine bi_ite hh (fun hc hh => ?_) (fun hc hh => ?_)
      · refine go_ifneT (pc := 65) rfl hc ?_
        exact sX3_readPart_73 hD CX3_readNots CX3_readPart CX3_readLevel (bi_k1 (bi_k1 (rfl : ai_ld 0 (lv_args 0 [.ref a0, .int a1]) = some (.ref a0)) rfl rfl) rfl rfl) (bi_k1 bi_e1 rfl rfl) bi_e1 hh
      · refine go_ifneF (pc := 65) rfl hc ?_
        refine go_al (pc := 68) rfl (bi_k1 (bi_k1 (rfl : ai_ld 0 (lv_args 0 [.ref a0, .int a1]) = some (.ref a0)) rfl rfl) rfl rfl) ?_
        refine go_pi (pc := 69) rfl ?_
        refine bt_c hh (fun E hE ee hh => go_ivX (pc := 70) rfl rfl (gX3_fail ee) (Nat.le_of_ble_eq_true rfl) (bi_up (sX3_fail ee) (Nat.le_trans (Nat.le_of_ble_eq_true rfl) hD)) (bi_xV hh)) ?_
        intro x6 h7 ex6 hh
        refine go_ivV (pc := 70) rfl rfl (gX3_fail ex6) (Nat.le_of_ble_eq_true rfl) (bi_up (sX3_fail ex6) (Nat.le_trans (Nat.le_of_ble_eq_true rfl) hD)) ?_
        exact sX3_readPart_73 hD CX3_readNots CX3_readPart CX3_readLevel (bi_k1 (bi_k1 (rfl : ai_ld 0 (lv_args 0 [.ref a0, .int a1]) = some (.ref a0)) rfl rfl) rfl rfl) (bi_k1 bi_e1 rfl rfl) bi_e1 hh
  · refine go_cmpneF (pc := 19) rfl hc ?_
    refine go_il (pc := 22) rfl (bi_k1 (bi_k1 (rfl : ai_ld 1 (lv_args 0 [.ref a0, .int a1]) = some (.int a1)) rfl rfl) rfl rfl) ?_
    refine go_pi (pc := 23) rfl ?_
    refine bi_ite hh (fun hc hh => ?_) (fun hc hh => ?_)
    · refine go_cmpltT (pc := 25) rfl hc ?_
      exact sX3_readPart_33 hD CX3_readNots CX3_readPart CX3_readLevel (bi_k1 (bi_k1 (rfl : ai_ld 0 (lv_args 0 [.ref a0, .int a1]) = some (.ref a0)) rfl rfl) rfl rfl) (bi_k1 (bi_k1 (rfl : ai_ld 1 (lv_args 0 [.ref a0, .int a1]) = some (.int a1)) rfl rfl) rfl rfl) hh
    · refine go_cmpltF (pc := 25) rfl hc ?_
      refine go_al (pc := 28) rfl (bi_k1 (bi_k1 (rfl : ai_ld 0 (lv_args 0 [.ref a0, .int a1]) = some (.ref a0)) rfl rfl) rfl rfl) ?_
      refine go_pi (pc := 29) rfl ?_
      refine bt_c hh (fun E hE ee hh => go_ivX (pc := 30) rfl rfl (gX3_fail ee) (Nat.le_of_ble_eq_true rfl) (bi_up (sX3_fail ee) (Nat.le_trans (Nat.le_of_ble_eq_true rfl) hD)) (bi_xV hh)) ?_
      intro x8 h9 ex8 hh
      refine go_ivV (pc := 30) rfl rfl (gX3_fail ex8) (Nat.le_of_ble_eq_true rfl) (bi_up (sX3_fail ex8) (Nat.le_trans (Nat.le_of_ble_eq_true rfl) hD)) ?_
      exact sX3_readPart_33 hD CX3_readNots CX3_readPart CX3_readLevel (bi_k1 (bi_k1 (rfl : ai_ld 0 (lv_args 0 [.ref a0, .int a1]) = some (.ref a0)) rfl rfl) rfl rfl) (bi_k1 (bi_k1 (rfl : ai_ld 1 (lv_args 0 [.ref a0, .int a1]) = some (.int a1)) rfl rfl) rfl rfl) hh
def fX3_readLevel_46b (n : Nat) (cX3_readNots : ai_H → Nat → Int32 → Option ((Unit ⊕ Nat) × ai_H)) (cX3_readPart : ai_H → Nat → Int32 → Option ((Unit ⊕ Nat) × ai_H)) (cX3_readLevel : ai_H → Nat → Int32 → Int32 → Option ((Unit ⊕ Nat) × ai_H)) (r46 : ai_H → Nat → Int32 → Int32 → Int32 → Int32 → Option ((Unit ⊕ Nat) × ai_H)) (h : ai_H) (v0 : Nat) (v1 : Int32) (v2 : Int32) (v3 : Int32) (v4 : Int32) : Option ((Unit ⊕ Nat) × ai_H) :=
  if v3 ≤ v4 then (
    some (.inl (), h))
  else (
    (pR n h v0 3 0).bind fun x1 =>
    (pI n h x1 7 4).bind fun x2 =>
    (fX3_levelOf n h x2).bind fun q3 =>
    if ¬ q3.1 = v1 then (
      some (.inl (), q3.2))
    else (
      (pR n q3.2 v0 3 0).bind fun x4 =>
      (pI n q3.2 x4 7 4).bind fun x5 =>
      bt (fX3_takeKnot n q3.2 v0) fun x6 h7 =>
      bt (cX3_readLevel h7 v0 (v1 + (1 : Int32)) v2) fun x8 h9 =>
      (pR n h9 v0 3 1).bind fun x10 =>
      (pR n h9 x10 8 5).bind fun x11 =>
      (fX2_put n h9 x11 x5 (0 : Int32)).bind fun q12 =>
      r46 q12.2 v0 v1 v2 v3 (v4 + 1)))
theorem sX3_readLevel_46b {n : Nat} {D : Nat} {cX3_readNots : ai_H → Nat → Int32 → Option ((Unit ⊕ Nat) × ai_H)} {cX3_readPart : ai_H → Nat → Int32 → Option ((Unit ⊕ Nat) × ai_H)} {cX3_readLevel : ai_H → Nat → Int32 → Int32 → Option ((Unit ⊕ Nat) × ai_H)} {r46 : ai_H → Nat → Int32 → Int32 → Int32 → Int32 → Option ((Unit ⊕ Nat) × ai_H)} {q : (Unit ⊕ Nat) × ai_H} {h : ai_H} {v0 : Nat} {v1 : Int32} {v2 : Int32} {v3 : Int32} {v4 : Int32} {lv : ai_L} (hD : 3 ≤ D) (CX3_readNots : ∀ (h : ai_H) (a0 : Nat) (a1 : Int32) (q : (Unit ⊕ Nat) × ai_H), cX3_readNots h a0 a1 = some q → kO n h a0 3 = some () ∧ bi_sp D 38 [.ref a0, .int a1] h n (tV n q)) (CX3_readPart : ∀ (h : ai_H) (a0 : Nat) (a1 : Int32) (q : (Unit ⊕ Nat) × ai_H), cX3_readPart h a0 a1 = some q → kO n h a0 3 = some () ∧ bi_sp D 39 [.ref a0, .int a1] h n (tV n q)) (CX3_readLevel : ∀ (h : ai_H) (a0 : Nat) (a1 : Int32) (a2 : Int32) (q : (Unit ⊕ Nat) × ai_H), cX3_readLevel h a0 a1 a2 = some q → kO n h a0 3 = some () ∧ bi_sp D 37 [.ref a0, .int a1, .int a2] h n (tV n q)) (R46 : ∀ (h : ai_H) (v0 : Nat) (v1 : Int32) (v2 : Int32) (v3 : Int32) (v4 : Int32) (lv : ai_L), ai_ld 0 lv = some (.ref v0) → ai_ld 1 lv = some (.int v1) → ai_ld 2 lv = some (.int v2) → ai_ld 3 lv = some (.int v3) → ai_ld 4 lv = some (.int v4) → r46 h v0 v1 v2 v3 v4 = some q → bi_go D tX3_readLevel n (tV n q) 46 lv [] h) (l0 : ai_ld 0 lv = some (.ref v0)) (l1 : ai_ld 1 lv = some (.int v1)) (l2 : ai_ld 2 lv = some (.int v2)) (l3 : ai_ld 3 lv = some (.int v3)) (l4 : ai_ld 4 lv = some (.int v4)) (hh : fX3_readLevel_46b n cX3_readNots cX3_readPart cX3_readLevel r46 h v0 v1 v2 v3 v4 = some q) : bi_go D tX3_readLevel n (tV n q) 46 lv [] h := by
  unfold fX3_readLevel_46b at hh
  refine go_il (pc := 46) rfl l4 ?_
  refine go_il (pc := 48) rfl l3 ?_
  refine bi_ite hh (fun hc hh => ?_) (fun hc hh => ?_)
  · refine go_cmpgeT (pc := 49) rfl hc ?_
    exact go_trv (pc := 106) rfl hh
  · refine go_cmpgeF (pc := 49) rfl hc ?_
    refine go_al (pc := 52) rfl l0 ?_
    obtain ⟨x1, ex1, hh⟩ := bi_bd hh
    refine go_gfR (pc := 53) rfl ex1 ?_
    obtain ⟨x2, ex2, hh⟩ := bi_bd hh
    refine go_gfI (pc := 56) rfl ex2 ?_
    obtain ⟨q3, eq3, hh⟩ := bi_bd hh
    refine go_iSI (pc := 59) rfl (Nat.le_of_ble_eq_true rfl) rfl (Nat.le_of_ble_eq_true rfl) (bi_up (sX3_levelOf eq3) (Nat.le_trans (Nat.le_of_ble_eq_true rfl) hD)) ?_
    refine go_il (pc := 62) rfl l1 ?_
    refine bi_ite hh (fun hc hh => ?_) (fun hc hh => ?_)
    · refine go_cmpneT (pc := 63) rfl hc ?_
      exact go_trv (pc := 106) rfl hh
    · refine go_cmpneF (pc := 63) rfl hc ?_
      refine go_al (pc := 66) rfl l0 ?_
      obtain ⟨x4, ex4, hh⟩ := bi_bd hh
      refine go_gfR (pc := 67) rfl ex4 ?_
      obtain ⟨x5, ex5, hh⟩ := bi_bd hh
      refine go_gfI (pc := 70) rfl ex5 ?_
      refine go_is (pc := 73) rfl ?_
      refine go_al (pc := 75) rfl (bi_k1 l0 rfl rfl) ?_
      refine bt_c hh (fun E hE ee hh => go_ivX (pc := 76) rfl rfl (gX3_takeKnot ee) (Nat.le_of_ble_eq_true rfl) (bi_up (sX3_takeKnot ee) (Nat.le_trans (Nat.le_of_ble_eq_true rfl) hD)) (bi_xV hh)) ?_
      intro x6 h7 ex6 hh
      refine go_ivV (pc := 76) rfl rfl (gX3_takeKnot ex6) (Nat.le_of_ble_eq_true rfl) (bi_up (sX3_takeKnot ex6) (Nat.le_trans (Nat.le_of_ble_eq_true rfl) hD)) ?_
      refine go_al (pc := 79) rfl (bi_k1 l0 rfl rfl) ?_
      refine go_il (pc := 80) rfl (bi_k1 l1 rfl rfl) ?_
      refine go_pi (pc := 81) rfl ?_
      refine go_iadd (pc := 82) rfl ?_
      refine go_il (pc := 83) rfl (bi_k1 l2 rfl rfl) ?_
      refine bt_c hh (fun E hE ee hh => go_ivX (pc := 84) rfl rfl (CX3_readLevel _ _ _ _ _ ee).1 (Nat.le_of_ble_eq_true rfl) (CX3_readLevel _ _ _ _ _ ee).2 (bi_xV hh)) ?_
      intro x8 h9 ex8 hh
      refine go_ivV (pc := 84) rfl rfl (CX3_readLevel _ _ _ _ _ ex8).1 (Nat.le_of_ble_eq_true rfl) (CX3_readLevel _ _ _ _ _ ex8).2 ?_
      refine go_al (pc := 87) rfl (bi_k1 l0 rfl rfl) ?_
      obtain ⟨x10, ex10, hh⟩ := bi_bd hh
      refine go_gfR (pc := 88) rfl ex10 ?_
      obtain ⟨x11, ex11, hh⟩ := bi_bd hh
      refine go_gfR (pc := 91) rfl ex11 ?_
      refine go_il (pc := 94) rfl bi_e1 ?_
      refine go_pi (pc := 96) rfl ?_
      obtain ⟨q12, eq12, hh⟩ := bi_bd hh
      refine go_ivV (pc := 97) rfl rfl (gX2_put eq12) (Nat.le_of_ble_eq_true rfl) (bi_up (sX2_put eq12) (Nat.le_trans (Nat.le_of_ble_eq_true rfl) hD)) ?_
      refine go_inc (pc := 100) rfl (bi_k1 l4 rfl rfl) ?_
      refine go_goto (pc := 103) rfl ?_
      exact R46 _ _ _ _ _ _ _ (bi_k1 (bi_k1 l0 rfl rfl) rfl rfl) (bi_k1 (bi_k1 l1 rfl rfl) rfl rfl) (bi_k1 (bi_k1 l2 rfl rfl) rfl rfl) (bi_k1 (bi_k1 l3 rfl rfl) rfl rfl) bi_e1 hh
def fX3_readLevel_46 (n : Nat) (cX3_readNots : ai_H → Nat → Int32 → Option ((Unit ⊕ Nat) × ai_H)) (cX3_readPart : ai_H → Nat → Int32 → Option ((Unit ⊕ Nat) × ai_H)) (cX3_readLevel : ai_H → Nat → Int32 → Int32 → Option ((Unit ⊕ Nat) × ai_H)) : Nat → ai_H → Nat → Int32 → Int32 → Int32 → Int32 → Option ((Unit ⊕ Nat) × ai_H)
  | 0 => fun _ _ _ _ _ _ => none
  | k + 1 => fun h v0 v1 v2 v3 v4 => fX3_readLevel_46b n cX3_readNots cX3_readPart cX3_readLevel (fX3_readLevel_46 n cX3_readNots cX3_readPart cX3_readLevel k) h v0 v1 v2 v3 v4
theorem sX3_readLevel_46 {n : Nat} {D : Nat} {cX3_readNots : ai_H → Nat → Int32 → Option ((Unit ⊕ Nat) × ai_H)} {cX3_readPart : ai_H → Nat → Int32 → Option ((Unit ⊕ Nat) × ai_H)} {cX3_readLevel : ai_H → Nat → Int32 → Int32 → Option ((Unit ⊕ Nat) × ai_H)} {q : (Unit ⊕ Nat) × ai_H} (hD : 3 ≤ D) (CX3_readNots : ∀ (h : ai_H) (a0 : Nat) (a1 : Int32) (q : (Unit ⊕ Nat) × ai_H), cX3_readNots h a0 a1 = some q → kO n h a0 3 = some () ∧ bi_sp D 38 [.ref a0, .int a1] h n (tV n q)) (CX3_readPart : ∀ (h : ai_H) (a0 : Nat) (a1 : Int32) (q : (Unit ⊕ Nat) × ai_H), cX3_readPart h a0 a1 = some q → kO n h a0 3 = some () ∧ bi_sp D 39 [.ref a0, .int a1] h n (tV n q)) (CX3_readLevel : ∀ (h : ai_H) (a0 : Nat) (a1 : Int32) (a2 : Int32) (q : (Unit ⊕ Nat) × ai_H), cX3_readLevel h a0 a1 a2 = some q → kO n h a0 3 = some () ∧ bi_sp D 37 [.ref a0, .int a1, .int a2] h n (tV n q)) : ∀ (k : Nat) (h : ai_H) (v0 : Nat) (v1 : Int32) (v2 : Int32) (v3 : Int32) (v4 : Int32) (lv : ai_L), ai_ld 0 lv = some (.ref v0) → ai_ld 1 lv = some (.int v1) → ai_ld 2 lv = some (.int v2) → ai_ld 3 lv = some (.int v3) → ai_ld 4 lv = some (.int v4) → fX3_readLevel_46 n cX3_readNots cX3_readPart cX3_readLevel k h v0 v1 v2 v3 v4 = some q → bi_go D tX3_readLevel n (tV n q) 46 lv [] h
  | 0 => fun _ _ _ _ _ _ _ _ _ _ _ _ hh => by cases hh
  | k + 1 => fun h v0 v1 v2 v3 v4 lv l0 l1 l2 l3 l4 hh => sX3_readLevel_46b hD CX3_readNots CX3_readPart CX3_readLevel (sX3_readLevel_46 hD CX3_readNots CX3_readPart CX3_readLevel k) l0 l1 l2 l3 l4 hh
def fX3_readLevel_42 (n : Nat) (cX3_readNots : ai_H → Nat → Int32 → Option ((Unit ⊕ Nat) × ai_H)) (cX3_readPart : ai_H → Nat → Int32 → Option ((Unit ⊕ Nat) × ai_H)) (cX3_readLevel : ai_H → Nat → Int32 → Int32 → Option ((Unit ⊕ Nat) × ai_H)) (h : ai_H) (v0 : Nat) (v1 : Int32) (v2 : Int32) (s0 : Int32) : Option ((Unit ⊕ Nat) × ai_H) :=
  fX3_readLevel_46 n cX3_readNots cX3_readPart cX3_readLevel bi_K h v0 v1 v2 s0 (0 : Int32)
theorem sX3_readLevel_42 {n : Nat} {D : Nat} {cX3_readNots : ai_H → Nat → Int32 → Option ((Unit ⊕ Nat) × ai_H)} {cX3_readPart : ai_H → Nat → Int32 → Option ((Unit ⊕ Nat) × ai_H)} {cX3_readLevel : ai_H → Nat → Int32 → Int32 → Option ((Unit ⊕ Nat) × ai_H)} {q : (Unit ⊕ Nat) × ai_H} {h : ai_H} {v0 : Nat} {v1 : Int32} {v2 : Int32} {s0 : Int32} {lv : ai_L} (hD : 3 ≤ D) (CX3_readNots : ∀ (h : ai_H) (a0 : Nat) (a1 : Int32) (q : (Unit ⊕ Nat) × ai_H), cX3_readNots h a0 a1 = some q → kO n h a0 3 = some () ∧ bi_sp D 38 [.ref a0, .int a1] h n (tV n q)) (CX3_readPart : ∀ (h : ai_H) (a0 : Nat) (a1 : Int32) (q : (Unit ⊕ Nat) × ai_H), cX3_readPart h a0 a1 = some q → kO n h a0 3 = some () ∧ bi_sp D 39 [.ref a0, .int a1] h n (tV n q)) (CX3_readLevel : ∀ (h : ai_H) (a0 : Nat) (a1 : Int32) (a2 : Int32) (q : (Unit ⊕ Nat) × ai_H), cX3_readLevel h a0 a1 a2 = some q → kO n h a0 3 = some () ∧ bi_sp D 37 [.ref a0, .int a1, .int a2] h n (tV n q)) (l0 : ai_ld 0 lv = some (.ref v0)) (l1 : ai_ld 1 lv = some (.int v1)) (l2 : ai_ld 2 lv = some (.int v2)) (hh : fX3_readLevel_42 n cX3_readNots cX3_readPart cX3_readLevel h v0 v1 v2 s0 = some q) : bi_go D tX3_readLevel n (tV n q) 42 lv [.int s0] h := by
  unfold fX3_readLevel_42 at hh
  refine go_is (pc := 42) rfl ?_
  refine go_pi (pc := 43) rfl ?_
  refine go_is (pc := 44) rfl ?_
  exact sX3_readLevel_46 hD CX3_readNots CX3_readPart CX3_readLevel _ _ _ _ _ _ _ _ (bi_k1 (bi_k1 l0 rfl rfl) rfl rfl) (bi_k1 (bi_k1 l1 rfl rfl) rfl rfl) (bi_k1 (bi_k1 l2 rfl rfl) rfl rfl) (bi_k1 bi_e1 rfl rfl) bi_e1 hh
def fX3_readLevel (n : Nat) (cX3_readNots : ai_H → Nat → Int32 → Option ((Unit ⊕ Nat) × ai_H)) (cX3_readPart : ai_H → Nat → Int32 → Option ((Unit ⊕ Nat) × ai_H)) (cX3_readLevel : ai_H → Nat → Int32 → Int32 → Option ((Unit ⊕ Nat) × ai_H)) (h : ai_H) (a0 : Nat) (a1 : Int32) (a2 : Int32) : Option ((Unit ⊕ Nat) × ai_H) :=
  (kO n h a0 3).bind fun _ =>
  if a1 < (6 : Int32) then (
    if ¬ a1 = (2 : Int32) then (
      bt (cX3_readLevel h a0 (a1 + (1 : Int32)) a2) fun x1 h2 =>
      if ¬ a1 = (3 : Int32) then (
        fX3_readLevel_42 n cX3_readNots cX3_readPart cX3_readLevel h2 a0 a1 a2 (64 : Int32))
      else (
        fX3_readLevel_42 n cX3_readNots cX3_readPart cX3_readLevel h2 a0 a1 a2 (1 : Int32)))
    else (
      bt (cX3_readNots h a0 a2) fun x3 h4 =>
      some (.inl (), h4)))
  else (
    bt (cX3_readPart h a0 a2) fun x5 h6 =>
    some (.inl (), h6))
theorem gX3_readLevel {n : Nat} {cX3_readNots : ai_H → Nat → Int32 → Option ((Unit ⊕ Nat) × ai_H)} {cX3_readPart : ai_H → Nat → Int32 → Option ((Unit ⊕ Nat) × ai_H)} {cX3_readLevel : ai_H → Nat → Int32 → Int32 → Option ((Unit ⊕ Nat) × ai_H)} {h : ai_H} {a0 : Nat} {a1 : Int32} {a2 : Int32} {q : (Unit ⊕ Nat) × ai_H} (hh : fX3_readLevel n cX3_readNots cX3_readPart cX3_readLevel h a0 a1 a2 = some q) : kO n h a0 3 = some () := by
  obtain ⟨_, e, -⟩ := bi_bd hh
  exact e
theorem sX3_readLevel {n : Nat} {D : Nat} {cX3_readNots : ai_H → Nat → Int32 → Option ((Unit ⊕ Nat) × ai_H)} {cX3_readPart : ai_H → Nat → Int32 → Option ((Unit ⊕ Nat) × ai_H)} {cX3_readLevel : ai_H → Nat → Int32 → Int32 → Option ((Unit ⊕ Nat) × ai_H)} {h : ai_H} {a0 : Nat} {a1 : Int32} {a2 : Int32} {q : (Unit ⊕ Nat) × ai_H} (hD : 3 ≤ D) (CX3_readNots : ∀ (h : ai_H) (a0 : Nat) (a1 : Int32) (q : (Unit ⊕ Nat) × ai_H), cX3_readNots h a0 a1 = some q → kO n h a0 3 = some () ∧ bi_sp D 38 [.ref a0, .int a1] h n (tV n q)) (CX3_readPart : ∀ (h : ai_H) (a0 : Nat) (a1 : Int32) (q : (Unit ⊕ Nat) × ai_H), cX3_readPart h a0 a1 = some q → kO n h a0 3 = some () ∧ bi_sp D 39 [.ref a0, .int a1] h n (tV n q)) (CX3_readLevel : ∀ (h : ai_H) (a0 : Nat) (a1 : Int32) (a2 : Int32) (q : (Unit ⊕ Nat) × ai_H), cX3_readLevel h a0 a1 a2 = some q → kO n h a0 3 = some () ∧ bi_sp D 37 [.ref a0, .int a1, .int a2] h n (tV n q)) (hh : fX3_readLevel n cX3_readNots cX3_readPart cX3_readLevel h a0 a1 a2 = some q) : bi_sp (D + 1) 37 [.ref a0, .int a1, .int a2] h n (tV n q) := by
  refine bi_en (D := D) (T := tX3_readLevel) (funext fun pc => rfl) rfl (Nat.le_of_ble_eq_true rfl) ?_
  unfold fX3_readLevel at hh
  obtain ⟨_, eO, hh⟩ := bi_bd hh
  refine go_il (pc := 0) rfl (rfl : ai_ld 1 (lv_args 0 [.ref a0, .int a1, .int a2]) = some (.int a1)) ?_
  refine go_pi (pc := 1) rfl ?_
  refine bi_ite hh (fun hc hh => ?_) (fun hc hh => ?_)
  · refine go_cmpltT (pc := 3) rfl hc ?_
    refine go_il (pc := 12) rfl (rfl : ai_ld 1 (lv_args 0 [.ref a0, .int a1, .int a2]) = some (.int a1)) ?_
    refine go_pi (pc := 13) rfl ?_
    refine bi_ite hh (fun hc hh => ?_) (fun hc hh => ?_)
    · refine go_cmpneT (pc := 14) rfl hc ?_
      refine go_al (pc := 23) rfl (rfl : ai_ld 0 (lv_args 0 [.ref a0, .int a1, .int a2]) = some (.ref a0)) ?_
      refine go_il (pc := 24) rfl (rfl : ai_ld 1 (lv_args 0 [.ref a0, .int a1, .int a2]) = some (.int a1)) ?_
      refine go_pi (pc := 25) rfl ?_
      refine go_iadd (pc := 26) rfl ?_
      refine go_il (pc := 27) rfl (rfl : ai_ld 2 (lv_args 0 [.ref a0, .int a1, .int a2]) = some (.int a2)) ?_
      refine bt_c hh (fun E hE ee hh => go_ivX (pc := 28) rfl rfl (CX3_readLevel _ _ _ _ _ ee).1 (Nat.le_of_ble_eq_true rfl) (CX3_readLevel _ _ _ _ _ ee).2 (bi_xV hh)) ?_
      intro x1 h2 ex1 hh
      refine go_ivV (pc := 28) rfl rfl (CX3_readLevel _ _ _ _ _ ex1).1 (Nat.le_of_ble_eq_true rfl) (CX3_readLevel _ _ _ _ _ ex1).2 ?_
      refine go_il (pc := 31) rfl (rfl : ai_ld 1 (lv_args 0 [.ref a0, .int a1, .int a2]) = some (.int a1)) ?_
      refine go_pi (pc := 32) rfl ?_
      refine bi_ite hh (fun hc hh => ?_) (fun hc hh => ?_)
      · refine go_cmpneT (pc := 33) rfl hc ?_
        refine go_pi (pc := 40) rfl ?_
        exact sX3_readLevel_42 hD CX3_readNots CX3_readPart CX3_readLevel (rfl : ai_ld 0 (lv_args 0 [.ref a0, .int a1, .int a2]) = some (.ref a0)) (rfl : ai_ld 1 (lv_args 0 [.ref a0, .int a1, .int a2]) = some (.int a1)) (rfl : ai_ld 2 (lv_args 0 [.ref a0, .int a1, .int a2]) = some (.int a2)) hh
      · refine go_cmpneF (pc := 33) rfl hc ?_
        refine go_pi (pc := 36) rfl ?_
        refine go_goto (pc := 37) rfl ?_
        exact sX3_readLevel_42 hD CX3_readNots CX3_readPart CX3_readLevel (rfl : ai_ld 0 (lv_args 0 [.ref a0, .int a1, .int a2]) = some (.ref a0)) (rfl : ai_ld 1 (lv_args 0 [.ref a0, .int a1, .int a2]) = some (.int a1)) (rfl : ai_ld 2 (lv_args 0 [.ref a0, .int a1, .int a2]) = some (.int a2)) hh
    · refine go_cmpneF (pc := 14) rfl hc ?_
      refine go_al (pc := 17) rfl (rfl : ai_ld 0 (lv_args 0 [.ref a0, .int a1, .int a2]) = some (.ref a0)) ?_
      refine go_il (pc := 18) rfl (rfl : ai_ld 2 (lv_args 0 [.ref a0, .int a1, .int a2]) = some (.int a2)) ?_
      refine bt_c hh (fun E hE ee hh => go_ivX (pc := 19) rfl rfl (CX3_readNots _ _ _ _ ee).1 (Nat.le_of_ble_eq_true rfl) (CX3_readNots _ _ _ _ ee).2 (bi_xV hh)) ?_
      intro x3 h4 ex3 hh
      refine go_ivV (pc := 19) rfl rfl (CX3_readNots _ _ _ _ ex3).1 (Nat.le_of_ble_eq_true rfl) (CX3_readNots _ _ _ _ ex3).2 ?_
      exact go_trv (pc := 22) rfl hh
  · refine go_cmpltF (pc := 3) rfl hc ?_
    refine go_al (pc := 6) rfl (rfl : ai_ld 0 (lv_args 0 [.ref a0, .int a1, .int a2]) = some (.ref a0)) ?_
    refine go_il (pc := 7) rfl (rfl : ai_ld 2 (lv_args 0 [.ref a0, .int a1, .int a2]) = some (.int a2)) ?_
    refine bt_c hh (fun E hE ee hh => go_ivX (pc := 8) rfl rfl (CX3_readPart _ _ _ _ ee).1 (Nat.le_of_ble_eq_true rfl) (CX3_readPart _ _ _ _ ee).2 (bi_xV hh)) ?_
    intro x5 h6 ex5 hh
    refine go_ivV (pc := 8) rfl rfl (CX3_readPart _ _ _ _ ex5).1 (Nat.le_of_ble_eq_true rfl) (CX3_readPart _ _ _ _ ex5).2 ?_
    exact go_trv (pc := 11) rfl hh
def fs1 (n : Nat) : Nat → (ai_H → Nat → Int32 → Option ((Unit ⊕ Nat) × ai_H)) × (ai_H → Nat → Int32 → Option ((Unit ⊕ Nat) × ai_H)) × (ai_H → Nat → Int32 → Int32 → Option ((Unit ⊕ Nat) × ai_H))
  | 0 => (fun _ _ _ => none, fun _ _ _ => none, fun _ _ _ _ => none)
  | k + 1 => (fun h a0 a1 => fX3_readNots n (fs1 n k).1 (fs1 n k).2.1 (fs1 n k).2.2 h a0 a1, fun h a0 a1 => fX3_readPart n (fs1 n k).1 (fs1 n k).2.1 (fs1 n k).2.2 h a0 a1, fun h a0 a1 a2 => fX3_readLevel n (fs1 n k).1 (fs1 n k).2.1 (fs1 n k).2.2 h a0 a1 a2)
theorem ss1 {n : Nat} : ∀ k : Nat, (∀ (h : ai_H) (a0 : Nat) (a1 : Int32) (q : (Unit ⊕ Nat) × ai_H), (fs1 n k).1 h a0 a1 = some q → kO n h a0 3 = some () ∧ bi_sp (3 + k) 38 [.ref a0, .int a1] h n (tV n q)) ∧ (∀ (h : ai_H) (a0 : Nat) (a1 : Int32) (q : (Unit ⊕ Nat) × ai_H), (fs1 n k).2.1 h a0 a1 = some q → kO n h a0 3 = some () ∧ bi_sp (3 + k) 39 [.ref a0, .int a1] h n (tV n q)) ∧ (∀ (h : ai_H) (a0 : Nat) (a1 : Int32) (a2 : Int32) (q : (Unit ⊕ Nat) × ai_H), (fs1 n k).2.2 h a0 a1 a2 = some q → kO n h a0 3 = some () ∧ bi_sp (3 + k) 37 [.ref a0, .int a1, .int a2] h n (tV n q))
  | 0 => ⟨fun _ _ _ _ hh => (by cases hh), fun _ _ _ _ hh => (by cases hh), fun _ _ _ _ _ hh => (by cases hh)⟩
  | k + 1 => ⟨fun _ _ _ _ hh => ⟨gX3_readNots (cX3_readNots := (fs1 n k).1) (cX3_readPart := (fs1 n k).2.1) (cX3_readLevel := (fs1 n k).2.2) hh, sX3_readNots (cX3_readNots := (fs1 n k).1) (cX3_readPart := (fs1 n k).2.1) (cX3_readLevel := (fs1 n k).2.2) (D := 3 + k) (Nat.le_add_right _ _) (ss1 k).1 (ss1 k).2.1 (ss1 k).2.2 hh⟩, fun _ _ _ _ hh => ⟨gX3_readPart (cX3_readNots := (fs1 n k).1) (cX3_readPart := (fs1 n k).2.1) (cX3_readLevel := (fs1 n k).2.2) hh, sX3_readPart (cX3_readNots := (fs1 n k).1) (cX3_readPart := (fs1 n k).2.1) (cX3_readLevel := (fs1 n k).2.2) (D := 3 + k) (Nat.le_add_right _ _) (ss1 k).1 (ss1 k).2.1 (ss1 k).2.2 hh⟩, fun _ _ _ _ _ hh => ⟨gX3_readLevel (cX3_readNots := (fs1 n k).1) (cX3_readPart := (fs1 n k).2.1) (cX3_readLevel := (fs1 n k).2.2) hh, sX3_readLevel (cX3_readNots := (fs1 n k).1) (cX3_readPart := (fs1 n k).2.1) (cX3_readLevel := (fs1 n k).2.2) (D := 3 + k) (Nat.le_add_right _ _) (ss1 k).1 (ss1 k).2.1 (ss1 k).2.2 hh⟩⟩
def FX3_readNots (n : Nat) (h : ai_H) (a0 : Nat) (a1 : Int32) : Option ((Unit ⊕ Nat) × ai_H) := (fs1 n bi_N).1 h a0 a1
theorem GX3_readNots {n : Nat} {h : ai_H} {a0 : Nat} {a1 : Int32} {q : (Unit ⊕ Nat) × ai_H} (hh : FX3_readNots n h a0 a1 = some q) : kO n h a0 3 = some () := ((ss1 bi_N).1 _ _ _ _ hh).1
theorem SX3_readNots {n : Nat} {h : ai_H} {a0 : Nat} {a1 : Int32} {q : (Unit ⊕ Nat) × ai_H} (hh : FX3_readNots n h a0 a1 = some q) : bi_sp (3 + bi_N) 38 [.ref a0, .int a1] h n (tV n q) := ((ss1 bi_N).1 _ _ _ _ hh).2
def FX3_readPart (n : Nat) (h : ai_H) (a0 : Nat) (a1 : Int32) : Option ((Unit ⊕ Nat) × ai_H) := (fs1 n bi_N).2.1 h a0 a1
theorem GX3_readPart {n : Nat} {h : ai_H} {a0 : Nat} {a1 : Int32} {q : (Unit ⊕ Nat) × ai_H} (hh : FX3_readPart n h a0 a1 = some q) : kO n h a0 3 = some () := ((ss1 bi_N).2.1 _ _ _ _ hh).1
theorem SX3_readPart {n : Nat} {h : ai_H} {a0 : Nat} {a1 : Int32} {q : (Unit ⊕ Nat) × ai_H} (hh : FX3_readPart n h a0 a1 = some q) : bi_sp (3 + bi_N) 39 [.ref a0, .int a1] h n (tV n q) := ((ss1 bi_N).2.1 _ _ _ _ hh).2
def FX3_readLevel (n : Nat) (h : ai_H) (a0 : Nat) (a1 : Int32) (a2 : Int32) : Option ((Unit ⊕ Nat) × ai_H) := (fs1 n bi_N).2.2 h a0 a1 a2
theorem GX3_readLevel {n : Nat} {h : ai_H} {a0 : Nat} {a1 : Int32} {a2 : Int32} {q : (Unit ⊕ Nat) × ai_H} (hh : FX3_readLevel n h a0 a1 a2 = some q) : kO n h a0 3 = some () := ((ss1 bi_N).2.2 _ _ _ _ _ hh).1
theorem SX3_readLevel {n : Nat} {h : ai_H} {a0 : Nat} {a1 : Int32} {a2 : Int32} {q : (Unit ⊕ Nat) × ai_H} (hh : FX3_readLevel n h a0 a1 a2 = some q) : bi_sp (3 + bi_N) 37 [.ref a0, .int a1, .int a2] h n (tV n q) := ((ss1 bi_N).2.2 _ _ _ _ _ hh).2
def fX3_readLaw_25 (n : Nat) (h : ai_H) (v0 : Nat) (v1 : Int32) : Option ((Unit ⊕ Nat) × ai_H) :=
  bt (fX3_beginOnce n h v0) fun x1 h2 =>
  (pR n h2 v0 3 1).bind fun x3 =>
  (pR n h2 x3 8 5).bind fun x4 =>
  (pR n h2 x4 2 0).bind fun x5 =>
  (pR n h2 v0 3 1).bind fun x6 =>
  (pR n h2 x6 8 5).bind fun x7 =>
  (pI n h2 x7 2 4).bind fun x8 =>
  (wX 1 (fun x => x) n h2 x5 v1 x8).bind fun h9 =>
  bt (FX3_readLevel n h9 v0 (0 : Int32) (0 : Int32)) fun x10 h11 =>
  (pR n h11 v0 3 1).bind fun x12 =>
  (pR n h11 x12 8 5).bind fun x13 =>
  (pR n h11 x13 2 1).bind fun x14 =>
  (pR n h11 v0 3 1).bind fun x15 =>
  (pR n h11 x15 8 5).bind fun x16 =>
  (pI n h11 x16 2 4).bind fun x17 =>
  (wX 1 (fun x => x) n h11 x14 v1 x17).bind fun h18 =>
  some (.inl (), h18)
theorem sX3_readLaw_25 {n : Nat} {q : (Unit ⊕ Nat) × ai_H} {h : ai_H} {v0 : Nat} {v1 : Int32} {lv : ai_L} (l0 : ai_ld 0 lv = some (.ref v0)) (l1 : ai_ld 1 lv = some (.int v1)) (hh : fX3_readLaw_25 n h v0 v1 = some q) : bi_go 303 tX3_readLaw n (tV n q) 25 lv [] h := by
  unfold fX3_readLaw_25 at hh
  refine go_al (pc := 25) rfl l0 ?_
  refine bt_c hh (fun E hE ee hh => go_ivX (pc := 26) rfl rfl (gX3_beginOnce ee) (Nat.le_of_ble_eq_true rfl) (bi_up (sX3_beginOnce ee) (Nat.le_of_ble_eq_true rfl)) (bi_xV hh)) ?_
  intro x1 h2 ex1 hh
  refine go_ivV (pc := 26) rfl rfl (gX3_beginOnce ex1) (Nat.le_of_ble_eq_true rfl) (bi_up (sX3_beginOnce ex1) (Nat.le_of_ble_eq_true rfl)) ?_
  refine go_al (pc := 29) rfl l0 ?_
  obtain ⟨x3, ex3, hh⟩ := bi_bd hh
  refine go_gfR (pc := 30) rfl ex3 ?_
  obtain ⟨x4, ex4, hh⟩ := bi_bd hh
  refine go_gfR (pc := 33) rfl ex4 ?_
  obtain ⟨x5, ex5, hh⟩ := bi_bd hh
  refine go_gfR (pc := 36) rfl ex5 ?_
  refine go_il (pc := 39) rfl l1 ?_
  refine go_al (pc := 40) rfl l0 ?_
  obtain ⟨x6, ex6, hh⟩ := bi_bd hh
  refine go_gfR (pc := 41) rfl ex6 ?_
  obtain ⟨x7, ex7, hh⟩ := bi_bd hh
  refine go_gfR (pc := 44) rfl ex7 ?_
  obtain ⟨x8, ex8, hh⟩ := bi_bd hh
  refine go_gfI (pc := 47) rfl ex8 ?_
  obtain ⟨h9, eh9, hh⟩ := bi_bd hh
  refine go_iast (pc := 50) rfl eh9 ?_
  refine go_al (pc := 51) rfl l0 ?_
  refine go_pi (pc := 52) rfl ?_
  refine go_pi (pc := 53) rfl ?_
  refine bt_c hh (fun E hE ee hh => go_ivX (pc := 54) rfl rfl (GX3_readLevel ee) (Nat.le_of_ble_eq_true rfl) (bi_up (SX3_readLevel ee) (Nat.le_of_ble_eq_true rfl)) (bi_xV hh)) ?_
  intro x10 h11 ex10 hh
  refine go_ivV (pc := 54) rfl rfl (GX3_readLevel ex10) (Nat.le_of_ble_eq_true rfl) (bi_up (SX3_readLevel ex10) (Nat.le_of_ble_eq_true rfl)) ?_
  refine go_al (pc := 57) rfl l0 ?_
  obtain ⟨x12, ex12, hh⟩ := bi_bd hh
  refine go_gfR (pc := 58) rfl ex12 ?_
  obtain ⟨x13, ex13, hh⟩ := bi_bd hh
  refine go_gfR (pc := 61) rfl ex13 ?_
  obtain ⟨x14, ex14, hh⟩ := bi_bd hh
  refine go_gfR (pc := 64) rfl ex14 ?_
  refine go_il (pc := 67) rfl l1 ?_
  refine go_al (pc := 68) rfl l0 ?_
  obtain ⟨x15, ex15, hh⟩ := bi_bd hh
  refine go_gfR (pc := 69) rfl ex15 ?_
  obtain ⟨x16, ex16, hh⟩ := bi_bd hh
  refine go_gfR (pc := 72) rfl ex16 ?_
  obtain ⟨x17, ex17, hh⟩ := bi_bd hh
  refine go_gfI (pc := 75) rfl ex17 ?_
  obtain ⟨h18, eh18, hh⟩ := bi_bd hh
  refine go_iast (pc := 78) rfl eh18 ?_
  exact go_trv (pc := 79) rfl hh
def fX3_readLaw (n : Nat) (h : ai_H) (a0 : Nat) : Option ((Unit ⊕ Nat) × ai_H) :=
  (kO n h a0 3).bind fun _ =>
  (pR n h a0 3 0).bind fun x1 =>
  (pI n h x1 7 4).bind fun x2 =>
  (fX10_isWithin n h (0 : Int32) (x2 - (9 : Int32)) (2 : Int32)).bind fun q3 =>
  if ¬ q3.1 = 0 then (
    fX3_readLaw_25 n q3.2 a0 (x2 - (9 : Int32)))
  else (
    bt (fX3_fail n q3.2 a0 (1 : Int32)) fun x4 h5 =>
    fX3_readLaw_25 n h5 a0 (x2 - (9 : Int32)))
theorem gX3_readLaw {n : Nat} {h : ai_H} {a0 : Nat} {q : (Unit ⊕ Nat) × ai_H} (hh : fX3_readLaw n h a0 = some q) : kO n h a0 3 = some () := by
  obtain ⟨_, e, -⟩ := bi_bd hh
  exact e
theorem sX3_readLaw {n : Nat} {h : ai_H} {a0 : Nat} {q : (Unit ⊕ Nat) × ai_H} (hh : fX3_readLaw n h a0 = some q) : bi_sp 304 36 [.ref a0] h n (tV n q) := by
  refine bi_en (D := 303) (T := tX3_readLaw) (funext fun pc => rfl) rfl (Nat.le_of_ble_eq_true rfl) ?_
  unfold fX3_readLaw at hh
  obtain ⟨_, eO, hh⟩ := bi_bd hh
  refine go_al (pc := 0) rfl (rfl : ai_ld 0 (lv_args 0 [.ref a0]) = some (.ref a0)) ?_
  obtain ⟨x1, ex1, hh⟩ := bi_bd hh
  refine go_gfR (pc := 1) rfl ex1 ?_
  obtain ⟨x2, ex2, hh⟩ := bi_bd hh
  refine go_gfI (pc := 4) rfl ex2 ?_
  refine go_pi (pc := 7) rfl ?_
  refine go_isub (pc := 9) rfl ?_
  refine go_is (pc := 10) rfl ?_
  refine go_pi (pc := 11) rfl ?_
  refine go_il (pc := 12) rfl bi_e1 ?_
  refine go_pi (pc := 13) rfl ?_
  obtain ⟨q3, eq3, hh⟩ := bi_bd hh
  refine go_iSI (pc := 14) rfl (Nat.le_of_ble_eq_true rfl) rfl (Nat.le_of_ble_eq_true rfl) (bi_up (sX10_isWithin eq3) (Nat.le_of_ble_eq_true rfl)) ?_
  refine bi_ite hh (fun hc hh => ?_) (fun hc hh => ?_)
  · refine go_ifneT (pc := 17) rfl hc ?_
    exact sX3_readLaw_25  (bi_k1 (rfl : ai_ld 0 (lv_args 0 [.ref a0]) = some (.ref a0)) rfl rfl) bi_e1 hh
  · refine go_ifneF (pc := 17) rfl hc ?_
    refine go_al (pc := 20) rfl (bi_k1 (rfl : ai_ld 0 (lv_args 0 [.ref a0]) = some (.ref a0)) rfl rfl) ?_
    refine go_pi (pc := 21) rfl ?_
    refine bt_c hh (fun E hE ee hh => go_ivX (pc := 22) rfl rfl (gX3_fail ee) (Nat.le_of_ble_eq_true rfl) (bi_up (sX3_fail ee) (Nat.le_of_ble_eq_true rfl)) (bi_xV hh)) ?_
    intro x4 h5 ex4 hh
    refine go_ivV (pc := 22) rfl rfl (gX3_fail ex4) (Nat.le_of_ble_eq_true rfl) (bi_up (sX3_fail ex4) (Nat.le_of_ble_eq_true rfl)) ?_
    exact sX3_readLaw_25  (bi_k1 (rfl : ai_ld 0 (lv_args 0 [.ref a0]) = some (.ref a0)) rfl rfl) bi_e1 hh
def fX3_readLine (n : Nat) (h : ai_H) (a0 : Nat) : Option ((Unit ⊕ Nat) × ai_H) :=
  (kO n h a0 3).bind fun _ =>
  (pR n h a0 3 0).bind fun x1 =>
  (pI n h x1 7 4).bind fun x2 =>
  if x2 = 0 then (
    (pR n h a0 3 1).bind fun x3 =>
    (pR n h x3 8 0).bind fun x4 =>
    bt (fX3_beginRow n h a0 x4) fun x5 h6 =>
    (pR n h6 a0 3 1).bind fun x7 =>
    (pR n h6 x7 8 0).bind fun x8 =>
    bt (fX3_readNewName n h6 a0 x8) fun x9 h10 =>
    (pR n h10 a0 3 1).bind fun x11 =>
    (pR n h10 x11 8 0).bind fun x12 =>
    (fX6_endRow n h10 x12).bind fun q13 =>
    some (.inl (), q13.2))
  else (
    if x2 = 1 then (
      bt (fX3_readPath n h a0) fun x14 h15 =>
      some (.inl (), h15))
    else (
      if x2 = 2 then (
        bt (fX3_readWalker n h a0) fun x16 h17 =>
        some (.inl (), h17))
      else (
        if x2 = 3 then (
          bt (fX3_readWalk n h a0) fun x18 h19 =>
          some (.inl (), h19))
        else (
          if x2 = 4 then (
            bt (fX3_readBull n h a0) fun x20 h21 =>
            some (.inl (), h21))
          else (
            if x2 = 5 then (
              bt (fX3_beginOnce n h a0) fun x22 h23 =>
              (pR n h23 a0 3 1).bind fun x24 =>
              bt (fX3_readNumber n h23 a0 (1 : Int32) (400 : Int32)) fun x25 h26 =>
              (sF n h26 x24 8 6 (.int) (.int x25)).bind fun h27 =>
              some (.inl (), h27))
            else (
              if x2 = 6 then (
                bt (fX3_beginOnce n h a0) fun x28 h29 =>
                (pR n h29 a0 3 1).bind fun x30 =>
                bt (fX3_readNumber n h29 a0 (0 : Int32) (100 : Int32)) fun x31 h32 =>
                (sF n h32 x30 8 7 (.int) (.int x31)).bind fun h33 =>
                some (.inl (), h33))
              else (
                if x2 = 7 then (
                  bt (fX3_beginOnce n h a0) fun x34 h35 =>
                  (pR n h35 a0 3 1).bind fun x36 =>
                  bt (fX3_readNumber n h35 a0 (0 : Int32) (99999 : Int32)) fun x37 h38 =>
                  (sF n h38 x36 8 8 (.int) (.int x37)).bind fun h39 =>
                  some (.inl (), h39))
                else (
                  bt (fX3_expect n h a0 (8 : Int32)) fun x40 h41 =>
                  bt (fX3_readLaw n h41 a0) fun x42 h43 =>
                  some (.inl (), h43)))))))))
theorem gX3_readLine {n : Nat} {h : ai_H} {a0 : Nat} {q : (Unit ⊕ Nat) × ai_H} (hh : fX3_readLine n h a0 = some q) : kO n h a0 3 = some () := by
  obtain ⟨_, e, -⟩ := bi_bd hh
  exact e
theorem sX3_readLine {n : Nat} {h : ai_H} {a0 : Nat} {q : (Unit ⊕ Nat) × ai_H} (hh : fX3_readLine n h a0 = some q) : bi_sp 305 26 [.ref a0] h n (tV n q) := by
  refine bi_en (D := 304) (T := tX3_readLine) (funext fun pc => rfl) rfl (Nat.le_of_ble_eq_true rfl) ?_
  unfold fX3_readLine at hh
  obtain ⟨_, eO, hh⟩ := bi_bd hh
  refine go_al (pc := 0) rfl (rfl : ai_ld 0 (lv_args 0 [.ref a0]) = some (.ref a0)) ?_
  obtain ⟨x1, ex1, hh⟩ := bi_bd hh
  refine go_gfR (pc := 1) rfl ex1 ?_
  obtain ⟨x2, ex2, hh⟩ := bi_bd hh
  refine go_gfI (pc := 4) rfl ex2 ?_
  refine bi_ite hh (fun hc0 hh => ?_) (fun hc0 hh => ?_)
  · refine go_swc (t := 52) 0 (pc := 7) rfl hc0 (by decide) ?_
    refine go_al (pc := 52) rfl (rfl : ai_ld 0 (lv_args 0 [.ref a0]) = some (.ref a0)) ?_
    refine go_al (pc := 53) rfl (rfl : ai_ld 0 (lv_args 0 [.ref a0]) = some (.ref a0)) ?_
    obtain ⟨x3, ex3, hh⟩ := bi_bd hh
    refine go_gfR (pc := 54) rfl ex3 ?_
    obtain ⟨x4, ex4, hh⟩ := bi_bd hh
    refine go_gfR (pc := 57) rfl ex4 ?_
    refine bt_c hh (fun E hE ee hh => go_ivX (pc := 60) rfl rfl (gX3_beginRow ee) (Nat.le_of_ble_eq_true rfl) (bi_up (sX3_beginRow ee) (Nat.le_of_ble_eq_true rfl)) (bi_xV hh)) ?_
    intro x5 h6 ex5 hh
    refine go_ivV (pc := 60) rfl rfl (gX3_beginRow ex5) (Nat.le_of_ble_eq_true rfl) (bi_up (sX3_beginRow ex5) (Nat.le_of_ble_eq_true rfl)) ?_
    refine go_al (pc := 63) rfl (rfl : ai_ld 0 (lv_args 0 [.ref a0]) = some (.ref a0)) ?_
    refine go_al (pc := 64) rfl (rfl : ai_ld 0 (lv_args 0 [.ref a0]) = some (.ref a0)) ?_
    obtain ⟨x7, ex7, hh⟩ := bi_bd hh
    refine go_gfR (pc := 65) rfl ex7 ?_
    obtain ⟨x8, ex8, hh⟩ := bi_bd hh
    refine go_gfR (pc := 68) rfl ex8 ?_
    refine bt_c hh (fun E hE ee hh => go_ivX (pc := 71) rfl rfl (gX3_readNewName ee) (Nat.le_of_ble_eq_true rfl) (bi_up (sX3_readNewName ee) (Nat.le_of_ble_eq_true rfl)) (bi_xV hh)) ?_
    intro x9 h10 ex9 hh
    refine go_ivV (pc := 71) rfl rfl (gX3_readNewName ex9) (Nat.le_of_ble_eq_true rfl) (bi_up (sX3_readNewName ex9) (Nat.le_of_ble_eq_true rfl)) ?_
    refine go_al (pc := 74) rfl (rfl : ai_ld 0 (lv_args 0 [.ref a0]) = some (.ref a0)) ?_
    obtain ⟨x11, ex11, hh⟩ := bi_bd hh
    refine go_gfR (pc := 75) rfl ex11 ?_
    obtain ⟨x12, ex12, hh⟩ := bi_bd hh
    refine go_gfR (pc := 78) rfl ex12 ?_
    obtain ⟨q13, eq13, hh⟩ := bi_bd hh
    refine go_ivV (pc := 81) rfl rfl (gX6_endRow eq13) (Nat.le_of_ble_eq_true rfl) (bi_up (sX6_endRow eq13) (Nat.le_of_ble_eq_true rfl)) ?_
    refine go_goto (pc := 84) rfl ?_
    exact go_trv (pc := 189) rfl hh
  · skip
    refine bi_ite hh (fun hc1 hh => ?_) (fun hc1 hh => ?_)
    · refine go_swc (t := 87) 1 (pc := 7) rfl hc1 (by decide) ?_
      refine go_al (pc := 87) rfl (rfl : ai_ld 0 (lv_args 0 [.ref a0]) = some (.ref a0)) ?_
      refine bt_c hh (fun E hE ee hh => go_ivX (pc := 88) rfl rfl (gX3_readPath ee) (Nat.le_of_ble_eq_true rfl) (bi_up (sX3_readPath ee) (Nat.le_of_ble_eq_true rfl)) (bi_xV hh)) ?_
      intro x14 h15 ex14 hh
      refine go_ivV (pc := 88) rfl rfl (gX3_readPath ex14) (Nat.le_of_ble_eq_true rfl) (bi_up (sX3_readPath ex14) (Nat.le_of_ble_eq_true rfl)) ?_
      refine go_goto (pc := 91) rfl ?_
      exact go_trv (pc := 189) rfl hh
    · skip
      refine bi_ite hh (fun hc2 hh => ?_) (fun hc2 hh => ?_)
      · refine go_swc (t := 94) 2 (pc := 7) rfl hc2 (by decide) ?_
        refine go_al (pc := 94) rfl (rfl : ai_ld 0 (lv_args 0 [.ref a0]) = some (.ref a0)) ?_
        refine bt_c hh (fun E hE ee hh => go_ivX (pc := 95) rfl rfl (gX3_readWalker ee) (Nat.le_of_ble_eq_true rfl) (bi_up (sX3_readWalker ee) (Nat.le_of_ble_eq_true rfl)) (bi_xV hh)) ?_
        intro x16 h17 ex16 hh
        refine go_ivV (pc := 95) rfl rfl (gX3_readWalker ex16) (Nat.le_of_ble_eq_true rfl) (bi_up (sX3_readWalker ex16) (Nat.le_of_ble_eq_true rfl)) ?_
        refine go_goto (pc := 98) rfl ?_
        exact go_trv (pc := 189) rfl hh
      · skip
        refine bi_ite hh (fun hc3 hh => ?_) (fun hc3 hh => ?_)
        · refine go_swc (t := 101) 3 (pc := 7) rfl hc3 (by decide) ?_
          refine go_al (pc := 101) rfl (rfl : ai_ld 0 (lv_args 0 [.ref a0]) = some (.ref a0)) ?_
          refine bt_c hh (fun E hE ee hh => go_ivX (pc := 102) rfl rfl (gX3_readWalk ee) (Nat.le_of_ble_eq_true rfl) (bi_up (sX3_readWalk ee) (Nat.le_of_ble_eq_true rfl)) (bi_xV hh)) ?_
          intro x18 h19 ex18 hh
          refine go_ivV (pc := 102) rfl rfl (gX3_readWalk ex18) (Nat.le_of_ble_eq_true rfl) (bi_up (sX3_readWalk ex18) (Nat.le_of_ble_eq_true rfl)) ?_
          refine go_goto (pc := 105) rfl ?_
          exact go_trv (pc := 189) rfl hh
        · skip
          refine bi_ite hh (fun hc4 hh => ?_) (fun hc4 hh => ?_)
          · refine go_swc (t := 108) 4 (pc := 7) rfl hc4 (by decide) ?_
            refine go_al (pc := 108) rfl (rfl : ai_ld 0 (lv_args 0 [.ref a0]) = some (.ref a0)) ?_
            refine bt_c hh (fun E hE ee hh => go_ivX (pc := 109) rfl rfl (gX3_readBull ee) (Nat.le_of_ble_eq_true rfl) (bi_up (sX3_readBull ee) (Nat.le_of_ble_eq_true rfl)) (bi_xV hh)) ?_
            intro x20 h21 ex20 hh
            refine go_ivV (pc := 109) rfl rfl (gX3_readBull ex20) (Nat.le_of_ble_eq_true rfl) (bi_up (sX3_readBull ex20) (Nat.le_of_ble_eq_true rfl)) ?_
            refine go_goto (pc := 112) rfl ?_
            exact go_trv (pc := 189) rfl hh
          · skip
            refine bi_ite hh (fun hc5 hh => ?_) (fun hc5 hh => ?_)
            · refine go_swc (t := 115) 5 (pc := 7) rfl hc5 (by decide) ?_
              refine go_al (pc := 115) rfl (rfl : ai_ld 0 (lv_args 0 [.ref a0]) = some (.ref a0)) ?_
              refine bt_c hh (fun E hE ee hh => go_ivX (pc := 116) rfl rfl (gX3_beginOnce ee) (Nat.le_of_ble_eq_true rfl) (bi_up (sX3_beginOnce ee) (Nat.le_of_ble_eq_true rfl)) (bi_xV hh)) ?_
              intro x22 h23 ex22 hh
              refine go_ivV (pc := 116) rfl rfl (gX3_beginOnce ex22) (Nat.le_of_ble_eq_true rfl) (bi_up (sX3_beginOnce ex22) (Nat.le_of_ble_eq_true rfl)) ?_
              refine go_al (pc := 119) rfl (rfl : ai_ld 0 (lv_args 0 [.ref a0]) = some (.ref a0)) ?_
              obtain ⟨x24, ex24, hh⟩ := bi_bd hh
              refine go_gfR (pc := 120) rfl ex24 ?_
              refine go_al (pc := 123) rfl (rfl : ai_ld 0 (lv_args 0 [.ref a0]) = some (.ref a0)) ?_
              refine go_pi (pc := 124) rfl ?_
              refine go_pi (pc := 125) rfl ?_
              refine bt_c hh (fun E hE ee hh => go_ivX (pc := 128) rfl rfl (gX3_readNumber ee) (Nat.le_of_ble_eq_true rfl) (bi_up (sX3_readNumber ee) (Nat.le_of_ble_eq_true rfl)) (bi_xV hh)) ?_
              intro x25 h26 ex25 hh
              refine go_ivI (pc := 128) rfl rfl (gX3_readNumber ex25) (Nat.le_of_ble_eq_true rfl) (bi_up (sX3_readNumber ex25) (Nat.le_of_ble_eq_true rfl)) ?_
              obtain ⟨h27, eh27, hh⟩ := bi_bd hh
              refine go_pf (pc := 131) rfl eh27 ?_
              refine go_goto (pc := 134) rfl ?_
              exact go_trv (pc := 189) rfl hh
            · skip
              refine bi_ite hh (fun hc6 hh => ?_) (fun hc6 hh => ?_)
              · refine go_swc (t := 137) 6 (pc := 7) rfl hc6 (by decide) ?_
                refine go_al (pc := 137) rfl (rfl : ai_ld 0 (lv_args 0 [.ref a0]) = some (.ref a0)) ?_
                refine bt_c hh (fun E hE ee hh => go_ivX (pc := 138) rfl rfl (gX3_beginOnce ee) (Nat.le_of_ble_eq_true rfl) (bi_up (sX3_beginOnce ee) (Nat.le_of_ble_eq_true rfl)) (bi_xV hh)) ?_
                intro x28 h29 ex28 hh
                refine go_ivV (pc := 138) rfl rfl (gX3_beginOnce ex28) (Nat.le_of_ble_eq_true rfl) (bi_up (sX3_beginOnce ex28) (Nat.le_of_ble_eq_true rfl)) ?_
                refine go_al (pc := 141) rfl (rfl : ai_ld 0 (lv_args 0 [.ref a0]) = some (.ref a0)) ?_
                obtain ⟨x30, ex30, hh⟩ := bi_bd hh
                refine go_gfR (pc := 142) rfl ex30 ?_
                refine go_al (pc := 145) rfl (rfl : ai_ld 0 (lv_args 0 [.ref a0]) = some (.ref a0)) ?_
                refine go_pi (pc := 146) rfl ?_
                refine go_pi (pc := 147) rfl ?_
                refine bt_c hh (fun E hE ee hh => go_ivX (pc := 149) rfl rfl (gX3_readNumber ee) (Nat.le_of_ble_eq_true rfl) (bi_up (sX3_readNumber ee) (Nat.le_of_ble_eq_true rfl)) (bi_xV hh)) ?_
                intro x31 h32 ex31 hh
                refine go_ivI (pc := 149) rfl rfl (gX3_readNumber ex31) (Nat.le_of_ble_eq_true rfl) (bi_up (sX3_readNumber ex31) (Nat.le_of_ble_eq_true rfl)) ?_
                obtain ⟨h33, eh33, hh⟩ := bi_bd hh
                refine go_pf (pc := 152) rfl eh33 ?_
                refine go_goto (pc := 155) rfl ?_
                exact go_trv (pc := 189) rfl hh
              · skip
                refine bi_ite hh (fun hc7 hh => ?_) (fun hc7 hh => ?_)
                · refine go_swc (t := 158) 7 (pc := 7) rfl hc7 (by decide) ?_
                  refine go_al (pc := 158) rfl (rfl : ai_ld 0 (lv_args 0 [.ref a0]) = some (.ref a0)) ?_
                  refine bt_c hh (fun E hE ee hh => go_ivX (pc := 159) rfl rfl (gX3_beginOnce ee) (Nat.le_of_ble_eq_true rfl) (bi_up (sX3_beginOnce ee) (Nat.le_of_ble_eq_true rfl)) (bi_xV hh)) ?_
                  intro x34 h35 ex34 hh
                  refine go_ivV (pc := 159) rfl rfl (gX3_beginOnce ex34) (Nat.le_of_ble_eq_true rfl) (bi_up (sX3_beginOnce ex34) (Nat.le_of_ble_eq_true rfl)) ?_
                  refine go_al (pc := 162) rfl (rfl : ai_ld 0 (lv_args 0 [.ref a0]) = some (.ref a0)) ?_
                  obtain ⟨x36, ex36, hh⟩ := bi_bd hh
                  refine go_gfR (pc := 163) rfl ex36 ?_
                  refine go_al (pc := 166) rfl (rfl : ai_ld 0 (lv_args 0 [.ref a0]) = some (.ref a0)) ?_
                  refine go_pi (pc := 167) rfl ?_
                  refine go_pi (pc := 168) rfl ?_
                  refine bt_c hh (fun E hE ee hh => go_ivX (pc := 170) rfl rfl (gX3_readNumber ee) (Nat.le_of_ble_eq_true rfl) (bi_up (sX3_readNumber ee) (Nat.le_of_ble_eq_true rfl)) (bi_xV hh)) ?_
                  intro x37 h38 ex37 hh
                  refine go_ivI (pc := 170) rfl rfl (gX3_readNumber ex37) (Nat.le_of_ble_eq_true rfl) (bi_up (sX3_readNumber ex37) (Nat.le_of_ble_eq_true rfl)) ?_
                  obtain ⟨h39, eh39, hh⟩ := bi_bd hh
                  refine go_pf (pc := 173) rfl eh39 ?_
                  refine go_goto (pc := 176) rfl ?_
                  exact go_trv (pc := 189) rfl hh
                · skip
                  refine go_swd (pc := 7) rfl (fun i hi => match i, hi with | 0, _ => Or.inr (lv_neT hc0 (by decide)) | 1, _ => Or.inr (lv_neT hc1 (by decide)) | 2, _ => Or.inr (lv_neT hc2 (by decide)) | 3, _ => Or.inr (lv_neT hc3 (by decide)) | 4, _ => Or.inr (lv_neT hc4 (by decide)) | 5, _ => Or.inr (lv_neT hc5 (by decide)) | 6, _ => Or.inr (lv_neT hc6 (by decide)) | 7, _ => Or.inr (lv_neT hc7 (by decide)) | i + 8, hi => absurd hi (Nat.not_lt.mpr (Nat.le_add_left _ _))) ?_
                  refine go_al (pc := 179) rfl (rfl : ai_ld 0 (lv_args 0 [.ref a0]) = some (.ref a0)) ?_
                  refine go_pi (pc := 180) rfl ?_
                  refine bt_c hh (fun E hE ee hh => go_ivX (pc := 182) rfl rfl (gX3_expect ee) (Nat.le_of_ble_eq_true rfl) (bi_up (sX3_expect ee) (Nat.le_of_ble_eq_true rfl)) (bi_xV hh)) ?_
                  intro x40 h41 ex40 hh
                  refine go_ivV (pc := 182) rfl rfl (gX3_expect ex40) (Nat.le_of_ble_eq_true rfl) (bi_up (sX3_expect ex40) (Nat.le_of_ble_eq_true rfl)) ?_
                  refine go_al (pc := 185) rfl (rfl : ai_ld 0 (lv_args 0 [.ref a0]) = some (.ref a0)) ?_
                  refine bt_c hh (fun E hE ee hh => go_ivX (pc := 186) rfl rfl (gX3_readLaw ee) (Nat.le_of_ble_eq_true rfl) (bi_up (sX3_readLaw ee) (Nat.le_of_ble_eq_true rfl)) (bi_xV hh)) ?_
                  intro x42 h43 ex42 hh
                  refine go_ivV (pc := 186) rfl rfl (gX3_readLaw ex42) (Nat.le_of_ble_eq_true rfl) (bi_up (sX3_readLaw ex42) (Nat.le_of_ble_eq_true rfl)) ?_
                  exact go_trv (pc := 189) rfl hh
def fX3_readText_39b (n : Nat) (r39 : ai_H → Nat → Int32 → Option ((Unit ⊕ Nat) × ai_H)) (h : ai_H) (v0 : Nat) (v4 : Int32) : Option ((Unit ⊕ Nat) × ai_H) :=
  if (700 : Int32) ≤ v4 then (
    some (.inl (), h))
  else (
    (pR n h v0 3 0).bind fun x1 =>
    (pI n h x1 7 4).bind fun x2 =>
    if x2 = (37 : Int32) then (
      some (.inl (), h))
    else (
      bt (fX3_readLine n h v0) fun x3 h4 =>
      bt (fX3_expect n h4 v0 (24 : Int32)) fun x5 h6 =>
      (pR n h6 v0 3 1).bind fun x7 =>
      (pI n h6 x7 8 9).bind fun x8 =>
      (sF n h6 x7 8 9 (.int) (.int (x8 + (1 : Int32)))).bind fun h9 =>
      r39 h9 v0 (v4 + 1)))
theorem sX3_readText_39b {n : Nat} {r39 : ai_H → Nat → Int32 → Option ((Unit ⊕ Nat) × ai_H)} {q : (Unit ⊕ Nat) × ai_H} {h : ai_H} {v0 : Nat} {v4 : Int32} {lv : ai_L} (R39 : ∀ (h : ai_H) (v0 : Nat) (v4 : Int32) (lv : ai_L), ai_ld 0 lv = some (.ref v0) → ai_ld 4 lv = some (.int v4) → r39 h v0 v4 = some q → bi_go 305 tX3_readText n (tV n q) 39 lv [] h) (l0 : ai_ld 0 lv = some (.ref v0)) (l4 : ai_ld 4 lv = some (.int v4)) (hh : fX3_readText_39b n r39 h v0 v4 = some q) : bi_go 305 tX3_readText n (tV n q) 39 lv [] h := by
  unfold fX3_readText_39b at hh
  refine go_il (pc := 39) rfl l4 ?_
  refine go_pi (pc := 41) rfl ?_
  refine bi_ite hh (fun hc hh => ?_) (fun hc hh => ?_)
  · refine go_cmpgeT (pc := 44) rfl hc ?_
    exact go_trv (pc := 88) rfl hh
  · refine go_cmpgeF (pc := 44) rfl hc ?_
    refine go_al (pc := 47) rfl l0 ?_
    obtain ⟨x1, ex1, hh⟩ := bi_bd hh
    refine go_gfR (pc := 48) rfl ex1 ?_
    obtain ⟨x2, ex2, hh⟩ := bi_bd hh
    refine go_gfI (pc := 51) rfl ex2 ?_
    refine go_pi (pc := 54) rfl ?_
    refine bi_ite hh (fun hc hh => ?_) (fun hc hh => ?_)
    · refine go_cmpeqT (pc := 56) rfl hc ?_
      exact go_trv (pc := 88) rfl hh
    · refine go_cmpeqF (pc := 56) rfl hc ?_
      refine go_al (pc := 59) rfl l0 ?_
      refine bt_c hh (fun E hE ee hh => go_ivX (pc := 60) rfl rfl (gX3_readLine ee) (Nat.le_of_ble_eq_true rfl) (bi_up (sX3_readLine ee) (Nat.le_of_ble_eq_true rfl)) (bi_xV hh)) ?_
      intro x3 h4 ex3 hh
      refine go_ivV (pc := 60) rfl rfl (gX3_readLine ex3) (Nat.le_of_ble_eq_true rfl) (bi_up (sX3_readLine ex3) (Nat.le_of_ble_eq_true rfl)) ?_
      refine go_al (pc := 63) rfl l0 ?_
      refine go_pi (pc := 64) rfl ?_
      refine bt_c hh (fun E hE ee hh => go_ivX (pc := 66) rfl rfl (gX3_expect ee) (Nat.le_of_ble_eq_true rfl) (bi_up (sX3_expect ee) (Nat.le_of_ble_eq_true rfl)) (bi_xV hh)) ?_
      intro x5 h6 ex5 hh
      refine go_ivV (pc := 66) rfl rfl (gX3_expect ex5) (Nat.le_of_ble_eq_true rfl) (bi_up (sX3_expect ex5) (Nat.le_of_ble_eq_true rfl)) ?_
      refine go_al (pc := 69) rfl l0 ?_
      obtain ⟨x7, ex7, hh⟩ := bi_bd hh
      refine go_gfR (pc := 70) rfl ex7 ?_
      refine go_dup (pc := 73) rfl rfl ?_
      obtain ⟨x8, ex8, hh⟩ := bi_bd hh
      refine go_gfI (pc := 74) rfl ex8 ?_
      refine go_pi (pc := 77) rfl ?_
      refine go_iadd (pc := 78) rfl ?_
      obtain ⟨h9, eh9, hh⟩ := bi_bd hh
      refine go_pf (pc := 79) rfl eh9 ?_
      refine go_inc (pc := 82) rfl l4 ?_
      refine go_goto (pc := 85) rfl ?_
      exact R39 _ _ _ _ (bi_k1 l0 rfl rfl) bi_e1 hh
def fX3_readText_39 (n : Nat) : Nat → ai_H → Nat → Int32 → Option ((Unit ⊕ Nat) × ai_H)
  | 0 => fun _ _ _ => none
  | k + 1 => fun h v0 v4 => fX3_readText_39b n (fX3_readText_39 n k) h v0 v4
theorem sX3_readText_39 {n : Nat} {q : (Unit ⊕ Nat) × ai_H} : ∀ (k : Nat) (h : ai_H) (v0 : Nat) (v4 : Int32) (lv : ai_L), ai_ld 0 lv = some (.ref v0) → ai_ld 4 lv = some (.int v4) → fX3_readText_39 n k h v0 v4 = some q → bi_go 305 tX3_readText n (tV n q) 39 lv [] h
  | 0 => fun _ _ _ _ _ _ hh => by cases hh
  | k + 1 => fun h v0 v4 lv l0 l4 hh => sX3_readText_39b  (sX3_readText_39  k) l0 l4 hh
def fX3_readText (n : Nat) (h : ai_H) (a0 : Nat) (a1 : Nat) (a2 : Int32) (a3 : Nat) : Option ((Unit ⊕ Nat) × ai_H) :=
  (kO n h a0 3).bind fun _ =>
  (sF n h a0 3 1 (.object "PathsKept$Told") (.ref a3)).bind fun h1 =>
  (pR n h1 a0 3 1).bind fun x2 =>
  (fX8_empty n h1 x2).bind fun q3 =>
  (sF n q3.2 a0 3 2 (.int) (.int (0 : Int32))).bind fun h4 =>
  (sF n h4 a0 3 3 (.int) (.int (0 : Int32))).bind fun h5 =>
  (sF n h5 a0 3 4 (.int) (.int (-1 : Int32))).bind fun h6 =>
  (pR n h6 a0 3 0).bind fun x7 =>
  (fX7_begin n h6 x7 a1 a2).bind fun q8 =>
  fX3_readText_39 n bi_K q8.2 a0 (0 : Int32)
theorem gX3_readText {n : Nat} {h : ai_H} {a0 : Nat} {a1 : Nat} {a2 : Int32} {a3 : Nat} {q : (Unit ⊕ Nat) × ai_H} (hh : fX3_readText n h a0 a1 a2 a3 = some q) : kO n h a0 3 = some () := by
  obtain ⟨_, e, -⟩ := bi_bd hh
  exact e
theorem sX3_readText {n : Nat} {h : ai_H} {a0 : Nat} {a1 : Nat} {a2 : Int32} {a3 : Nat} {q : (Unit ⊕ Nat) × ai_H} (hh : fX3_readText n h a0 a1 a2 a3 = some q) : bi_sp 306 23 [.ref a0, .ref a1, .int a2, .ref a3] h n (tV n q) := by
  refine bi_en (D := 305) (T := tX3_readText) (funext fun pc => rfl) rfl (Nat.le_of_ble_eq_true rfl) ?_
  unfold fX3_readText at hh
  obtain ⟨_, eO, hh⟩ := bi_bd hh
  refine go_al (pc := 0) rfl (rfl : ai_ld 0 (lv_args 0 [.ref a0, .ref a1, .int a2, .ref a3]) = some (.ref a0)) ?_
  refine go_al (pc := 1) rfl (rfl : ai_ld 3 (lv_args 0 [.ref a0, .ref a1, .int a2, .ref a3]) = some (.ref a3)) ?_
  obtain ⟨h1, eh1, hh⟩ := bi_bd hh
  refine go_pf (pc := 2) rfl eh1 ?_
  refine go_al (pc := 5) rfl (rfl : ai_ld 0 (lv_args 0 [.ref a0, .ref a1, .int a2, .ref a3]) = some (.ref a0)) ?_
  obtain ⟨x2, ex2, hh⟩ := bi_bd hh
  refine go_gfR (pc := 6) rfl ex2 ?_
  obtain ⟨q3, eq3, hh⟩ := bi_bd hh
  refine go_ivV (pc := 9) rfl rfl (gX8_empty eq3) (Nat.le_of_ble_eq_true rfl) (bi_up (sX8_empty eq3) (Nat.le_of_ble_eq_true rfl)) ?_
  refine go_al (pc := 12) rfl (rfl : ai_ld 0 (lv_args 0 [.ref a0, .ref a1, .int a2, .ref a3]) = some (.ref a0)) ?_
  refine go_pi (pc := 13) rfl ?_
  obtain ⟨h4, eh4, hh⟩ := bi_bd hh
  refine go_pf (pc := 14) rfl eh4 ?_
  refine go_al (pc := 17) rfl (rfl : ai_ld 0 (lv_args 0 [.ref a0, .ref a1, .int a2, .ref a3]) = some (.ref a0)) ?_
  refine go_pi (pc := 18) rfl ?_
  obtain ⟨h5, eh5, hh⟩ := bi_bd hh
  refine go_pf (pc := 19) rfl eh5 ?_
  refine go_al (pc := 22) rfl (rfl : ai_ld 0 (lv_args 0 [.ref a0, .ref a1, .int a2, .ref a3]) = some (.ref a0)) ?_
  refine go_pi (pc := 23) rfl ?_
  obtain ⟨h6, eh6, hh⟩ := bi_bd hh
  refine go_pf (pc := 24) rfl eh6 ?_
  refine go_al (pc := 27) rfl (rfl : ai_ld 0 (lv_args 0 [.ref a0, .ref a1, .int a2, .ref a3]) = some (.ref a0)) ?_
  obtain ⟨x7, ex7, hh⟩ := bi_bd hh
  refine go_gfR (pc := 28) rfl ex7 ?_
  refine go_al (pc := 31) rfl (rfl : ai_ld 1 (lv_args 0 [.ref a0, .ref a1, .int a2, .ref a3]) = some (.ref a1)) ?_
  refine go_il (pc := 32) rfl (rfl : ai_ld 2 (lv_args 0 [.ref a0, .ref a1, .int a2, .ref a3]) = some (.int a2)) ?_
  obtain ⟨q8, eq8, hh⟩ := bi_bd hh
  refine go_ivV (pc := 33) rfl rfl (gX7_begin eq8) (Nat.le_of_ble_eq_true rfl) (bi_up (sX7_begin eq8) (Nat.le_of_ble_eq_true rfl)) ?_
  refine go_pi (pc := 36) rfl ?_
  refine go_is (pc := 37) rfl ?_
  exact sX3_readText_39  _ _ _ _ _ (bi_k1 (rfl : ai_ld 0 (lv_args 0 [.ref a0, .ref a1, .int a2, .ref a3]) = some (.ref a0)) rfl rfl) bi_e1 hh
def fX4_empty (n : Nat) (h : ai_H) (a0 : Nat) : Option (Unit × ai_H) :=
  (kO n h a0 4).bind fun _ =>
  (sF n h a0 4 5 (.int) (.int (0 : Int32))).bind fun h1 =>
  (sF n h1 a0 4 6 (.int) (.int (-1 : Int32))).bind fun h2 =>
  some ((), h2)
theorem gX4_empty {n : Nat} {h : ai_H} {a0 : Nat} {q : Unit × ai_H} (hh : fX4_empty n h a0 = some q) : kO n h a0 4 = some () := by
  obtain ⟨_, e, -⟩ := bi_bd hh
  exact e
theorem sX4_empty {n : Nat} {h : ai_H} {a0 : Nat} {q : Unit × ai_H} (hh : fX4_empty n h a0 = some q) : bi_sp 1 43 [.ref a0] h n (fV n q) := by
  refine bi_en (D := 0) (T := tX4_empty) (funext fun pc => rfl) rfl (Nat.le_of_ble_eq_true rfl) ?_
  unfold fX4_empty at hh
  obtain ⟨_, eO, hh⟩ := bi_bd hh
  refine go_al (pc := 0) rfl (rfl : ai_ld 0 (lv_args 0 [.ref a0]) = some (.ref a0)) ?_
  refine go_pi (pc := 1) rfl ?_
  obtain ⟨h1, eh1, hh⟩ := bi_bd hh
  refine go_pf (pc := 2) rfl eh1 ?_
  refine go_al (pc := 5) rfl (rfl : ai_ld 0 (lv_args 0 [.ref a0]) = some (.ref a0)) ?_
  refine go_pi (pc := 6) rfl ?_
  obtain ⟨h2, eh2, hh⟩ := bi_bd hh
  refine go_pf (pc := 7) rfl eh2 ?_
  exact go_rv (pc := 10) rfl hh
def fX4_knownSize (n : Nat) (h : ai_H) (a0 : Nat) : Option (Int32 × ai_H) :=
  (kO n h a0 4).bind fun _ =>
  (pI n h a0 4 6).bind fun x1 =>
  if ¬ x1 = (-1 : Int32) then (
    (pI n h a0 4 6).bind fun x2 =>
    some (x2, h))
  else (
    (pI n h a0 4 5).bind fun x3 =>
    some (x3, h))
theorem gX4_knownSize {n : Nat} {h : ai_H} {a0 : Nat} {q : Int32 × ai_H} (hh : fX4_knownSize n h a0 = some q) : kO n h a0 4 = some () := by
  obtain ⟨_, e, -⟩ := bi_bd hh
  exact e
theorem sX4_knownSize {n : Nat} {h : ai_H} {a0 : Nat} {q : Int32 × ai_H} (hh : fX4_knownSize n h a0 = some q) : bi_sp 1 44 [.ref a0] h n (fI n q) := by
  refine bi_en (D := 0) (T := tX4_knownSize) (funext fun pc => rfl) rfl (Nat.le_of_ble_eq_true rfl) ?_
  unfold fX4_knownSize at hh
  obtain ⟨_, eO, hh⟩ := bi_bd hh
  refine go_al (pc := 0) rfl (rfl : ai_ld 0 (lv_args 0 [.ref a0]) = some (.ref a0)) ?_
  obtain ⟨x1, ex1, hh⟩ := bi_bd hh
  refine go_gfI (pc := 1) rfl ex1 ?_
  refine go_pi (pc := 4) rfl ?_
  refine bi_ite hh (fun hc hh => ?_) (fun hc hh => ?_)
  · refine go_cmpneT (pc := 5) rfl hc ?_
    refine go_al (pc := 15) rfl (rfl : ai_ld 0 (lv_args 0 [.ref a0]) = some (.ref a0)) ?_
    obtain ⟨x2, ex2, hh⟩ := bi_bd hh
    refine go_gfI (pc := 16) rfl ex2 ?_
    exact go_ri (pc := 19) rfl hh
  · refine go_cmpneF (pc := 5) rfl hc ?_
    refine go_al (pc := 8) rfl (rfl : ai_ld 0 (lv_args 0 [.ref a0]) = some (.ref a0)) ?_
    obtain ⟨x3, ex3, hh⟩ := bi_bd hh
    refine go_gfI (pc := 9) rfl ex3 ?_
    refine go_goto (pc := 12) rfl ?_
    exact go_ri (pc := 19) rfl hh
def fX4_add (n : Nat) (h : ai_H) (a0 : Nat) (a1 : Int32) (a2 : Int32) (a3 : Int32) (a4 : Int32) : Option (Int32 × ai_H) :=
  (kO n h a0 4).bind fun _ =>
  (pI n h a0 4 5).bind fun x1 =>
  if x1 < (24 : Int32) then (
    (pR n h a0 4 0).bind fun x2 =>
    (pI n h a0 4 5).bind fun x3 =>
    (wX 1 (fun x => x) n h x2 x3 a1).bind fun h4 =>
    (pR n h4 a0 4 1).bind fun x5 =>
    (pI n h4 a0 4 5).bind fun x6 =>
    (wX 1 (fun x => x) n h4 x5 x6 a2).bind fun h7 =>
    (pR n h7 a0 4 2).bind fun x8 =>
    (pI n h7 a0 4 5).bind fun x9 =>
    (wX 1 (fun x => x) n h7 x8 x9 a3).bind fun h10 =>
    (pR n h10 a0 4 3).bind fun x11 =>
    (pI n h10 a0 4 5).bind fun x12 =>
    (wX 1 (fun x => x) n h10 x11 x12 a4).bind fun h13 =>
    (pI n h13 a0 4 5).bind fun x14 =>
    (sF n h13 a0 4 5 (.int) (.int (x14 + (1 : Int32)))).bind fun h15 =>
    (pI n h15 a0 4 5).bind fun x16 =>
    some (x16 - (1 : Int32), h15))
  else (
    some ((-1 : Int32), h))
theorem gX4_add {n : Nat} {h : ai_H} {a0 : Nat} {a1 : Int32} {a2 : Int32} {a3 : Int32} {a4 : Int32} {q : Int32 × ai_H} (hh : fX4_add n h a0 a1 a2 a3 a4 = some q) : kO n h a0 4 = some () := by
  obtain ⟨_, e, -⟩ := bi_bd hh
  exact e
theorem sX4_add {n : Nat} {h : ai_H} {a0 : Nat} {a1 : Int32} {a2 : Int32} {a3 : Int32} {a4 : Int32} {q : Int32 × ai_H} (hh : fX4_add n h a0 a1 a2 a3 a4 = some q) : bi_sp 1 45 [.ref a0, .int a1, .int a2, .int a3, .int a4] h n (fI n q) := by
  refine bi_en (D := 0) (T := tX4_add) (funext fun pc => rfl) rfl (Nat.le_of_ble_eq_true rfl) ?_
  unfold fX4_add at hh
  obtain ⟨_, eO, hh⟩ := bi_bd hh
  refine go_al (pc := 0) rfl (rfl : ai_ld 0 (lv_args 0 [.ref a0, .int a1, .int a2, .int a3, .int a4]) = some (.ref a0)) ?_
  obtain ⟨x1, ex1, hh⟩ := bi_bd hh
  refine go_gfI (pc := 1) rfl ex1 ?_
  refine go_pi (pc := 4) rfl ?_
  refine bi_ite hh (fun hc hh => ?_) (fun hc hh => ?_)
  · refine go_cmpltT (pc := 6) rfl hc ?_
    refine go_al (pc := 11) rfl (rfl : ai_ld 0 (lv_args 0 [.ref a0, .int a1, .int a2, .int a3, .int a4]) = some (.ref a0)) ?_
    obtain ⟨x2, ex2, hh⟩ := bi_bd hh
    refine go_gfR (pc := 12) rfl ex2 ?_
    refine go_al (pc := 15) rfl (rfl : ai_ld 0 (lv_args 0 [.ref a0, .int a1, .int a2, .int a3, .int a4]) = some (.ref a0)) ?_
    obtain ⟨x3, ex3, hh⟩ := bi_bd hh
    refine go_gfI (pc := 16) rfl ex3 ?_
    refine go_il (pc := 19) rfl (rfl : ai_ld 1 (lv_args 0 [.ref a0, .int a1, .int a2, .int a3, .int a4]) = some (.int a1)) ?_
    obtain ⟨h4, eh4, hh⟩ := bi_bd hh
    refine go_iast (pc := 20) rfl eh4 ?_
    refine go_al (pc := 21) rfl (rfl : ai_ld 0 (lv_args 0 [.ref a0, .int a1, .int a2, .int a3, .int a4]) = some (.ref a0)) ?_
    obtain ⟨x5, ex5, hh⟩ := bi_bd hh
    refine go_gfR (pc := 22) rfl ex5 ?_
    refine go_al (pc := 25) rfl (rfl : ai_ld 0 (lv_args 0 [.ref a0, .int a1, .int a2, .int a3, .int a4]) = some (.ref a0)) ?_
    obtain ⟨x6, ex6, hh⟩ := bi_bd hh
    refine go_gfI (pc := 26) rfl ex6 ?_
    refine go_il (pc := 29) rfl (rfl : ai_ld 2 (lv_args 0 [.ref a0, .int a1, .int a2, .int a3, .int a4]) = some (.int a2)) ?_
    obtain ⟨h7, eh7, hh⟩ := bi_bd hh
    refine go_iast (pc := 30) rfl eh7 ?_
    refine go_al (pc := 31) rfl (rfl : ai_ld 0 (lv_args 0 [.ref a0, .int a1, .int a2, .int a3, .int a4]) = some (.ref a0)) ?_
    obtain ⟨x8, ex8, hh⟩ := bi_bd hh
    refine go_gfR (pc := 32) rfl ex8 ?_
    refine go_al (pc := 35) rfl (rfl : ai_ld 0 (lv_args 0 [.ref a0, .int a1, .int a2, .int a3, .int a4]) = some (.ref a0)) ?_
    obtain ⟨x9, ex9, hh⟩ := bi_bd hh
    refine go_gfI (pc := 36) rfl ex9 ?_
    refine go_il (pc := 39) rfl (rfl : ai_ld 3 (lv_args 0 [.ref a0, .int a1, .int a2, .int a3, .int a4]) = some (.int a3)) ?_
    obtain ⟨h10, eh10, hh⟩ := bi_bd hh
    refine go_iast (pc := 40) rfl eh10 ?_
    refine go_al (pc := 41) rfl (rfl : ai_ld 0 (lv_args 0 [.ref a0, .int a1, .int a2, .int a3, .int a4]) = some (.ref a0)) ?_
    obtain ⟨x11, ex11, hh⟩ := bi_bd hh
    refine go_gfR (pc := 42) rfl ex11 ?_
    refine go_al (pc := 45) rfl (rfl : ai_ld 0 (lv_args 0 [.ref a0, .int a1, .int a2, .int a3, .int a4]) = some (.ref a0)) ?_
    obtain ⟨x12, ex12, hh⟩ := bi_bd hh
    refine go_gfI (pc := 46) rfl ex12 ?_
    refine go_il (pc := 49) rfl (rfl : ai_ld 4 (lv_args 0 [.ref a0, .int a1, .int a2, .int a3, .int a4]) = some (.int a4)) ?_
    obtain ⟨h13, eh13, hh⟩ := bi_bd hh
    refine go_iast (pc := 51) rfl eh13 ?_
    refine go_al (pc := 52) rfl (rfl : ai_ld 0 (lv_args 0 [.ref a0, .int a1, .int a2, .int a3, .int a4]) = some (.ref a0)) ?_
    refine go_dup (pc := 53) rfl rfl ?_
    obtain ⟨x14, ex14, hh⟩ := bi_bd hh
    refine go_gfI (pc := 54) rfl ex14 ?_
    refine go_pi (pc := 57) rfl ?_
    refine go_iadd (pc := 58) rfl ?_
    obtain ⟨h15, eh15, hh⟩ := bi_bd hh
    refine go_pf (pc := 59) rfl eh15 ?_
    refine go_al (pc := 62) rfl (rfl : ai_ld 0 (lv_args 0 [.ref a0, .int a1, .int a2, .int a3, .int a4]) = some (.ref a0)) ?_
    obtain ⟨x16, ex16, hh⟩ := bi_bd hh
    refine go_gfI (pc := 63) rfl ex16 ?_
    refine go_pi (pc := 66) rfl ?_
    refine go_isub (pc := 67) rfl ?_
    exact go_ri (pc := 68) rfl hh
  · refine go_cmpltF (pc := 6) rfl hc ?_
    refine go_pi (pc := 9) rfl ?_
    exact go_ri (pc := 10) rfl hh
def fX4_sift_33 (n : Nat) (r12 : ai_H → Nat → Int32 → Int32 → Option (Unit × ai_H)) (h : ai_H) (v0 : Nat) (v1 : Int32) (v2 : Int32) (s0 : Int32) (s1 : Int32) (s2 : Nat) : Option (Unit × ai_H) :=
  (wB n h s2 s1 s0).bind fun h1 =>
  r12 h1 v0 v1 (v2 + 1)
theorem sX4_sift_33 {n : Nat} {r12 : ai_H → Nat → Int32 → Int32 → Option (Unit × ai_H)} {q : Unit × ai_H} {h : ai_H} {v0 : Nat} {v1 : Int32} {v2 : Int32} {s0 : Int32} {s1 : Int32} {s2 : Nat} {lv : ai_L} (R12 : ∀ (h : ai_H) (v0 : Nat) (v1 : Int32) (v2 : Int32) (lv : ai_L), ai_ld 0 lv = some (.ref v0) → ai_ld 1 lv = some (.int v1) → ai_ld 2 lv = some (.int v2) → r12 h v0 v1 v2 = some q → bi_go 1 tX4_sift n (fV n q) 12 lv [] h) (l0 : ai_ld 0 lv = some (.ref v0)) (l1 : ai_ld 1 lv = some (.int v1)) (l2 : ai_ld 2 lv = some (.int v2)) (hh : fX4_sift_33 n r12 h v0 v1 v2 s0 s1 s2 = some q) : bi_go 1 tX4_sift n (fV n q) 33 lv [.int s0, .int s1, .ref s2] h := by
  unfold fX4_sift_33 at hh
  obtain ⟨h1, eh1, hh⟩ := bi_bd hh
  refine go_bast (pc := 33) rfl eh1 ?_
  refine go_inc (pc := 34) rfl l2 ?_
  refine go_goto (pc := 37) rfl ?_
  exact R12 _ _ _ _ _ (bi_k1 l0 rfl rfl) (bi_k1 l1 rfl rfl) bi_e1 hh
def fX4_sift_112 (n : Nat) (r44 : ai_H → Nat → Int32 → Option (Unit × ai_H)) (h : ai_H) (v0 : Nat) (v2 : Int32) : Option (Unit × ai_H) :=
  r44 h v0 (v2 + (-1))
theorem sX4_sift_112 {n : Nat} {r44 : ai_H → Nat → Int32 → Option (Unit × ai_H)} {q : Unit × ai_H} {h : ai_H} {v0 : Nat} {v2 : Int32} {lv : ai_L} (R44 : ∀ (h : ai_H) (v0 : Nat) (v2 : Int32) (lv : ai_L), ai_ld 0 lv = some (.ref v0) → ai_ld 2 lv = some (.int v2) → r44 h v0 v2 = some q → bi_go 1 tX4_sift n (fV n q) 44 lv [] h) (l0 : ai_ld 0 lv = some (.ref v0)) (l2 : ai_ld 2 lv = some (.int v2)) (hh : fX4_sift_112 n r44 h v0 v2 = some q) : bi_go 1 tX4_sift n (fV n q) 112 lv [] h := by
  unfold fX4_sift_112 at hh
  refine go_inc (pc := 112) rfl l2 ?_
  refine go_goto (pc := 115) rfl ?_
  exact R44 _ _ _ _ (bi_k1 l0 rfl rfl) bi_e1 hh
def fX4_sift_95 (n : Nat) (r44 : ai_H → Nat → Int32 → Option (Unit × ai_H)) (h : ai_H) (v0 : Nat) (v2 : Int32) : Option (Unit × ai_H) :=
  (pI n h v0 4 7).bind fun x1 =>
  (pR n h v0 4 1).bind fun x2 =>
  (gX 1 n h x2 v2).bind fun x3 =>
  (sF n h v0 4 7 (.int) (.int (if x1 < x3 then x3 else x1))).bind fun h4 =>
  fX4_sift_112 n r44 h4 v0 v2
theorem sX4_sift_95 {n : Nat} {r44 : ai_H → Nat → Int32 → Option (Unit × ai_H)} {q : Unit × ai_H} {h : ai_H} {v0 : Nat} {v2 : Int32} {lv : ai_L} (R44 : ∀ (h : ai_H) (v0 : Nat) (v2 : Int32) (lv : ai_L), ai_ld 0 lv = some (.ref v0) → ai_ld 2 lv = some (.int v2) → r44 h v0 v2 = some q → bi_go 1 tX4_sift n (fV n q) 44 lv [] h) (l0 : ai_ld 0 lv = some (.ref v0)) (l2 : ai_ld 2 lv = some (.int v2)) (hh : fX4_sift_95 n r44 h v0 v2 = some q) : bi_go 1 tX4_sift n (fV n q) 95 lv [] h := by
  unfold fX4_sift_95 at hh
  refine go_al (pc := 95) rfl l0 ?_
  refine go_al (pc := 96) rfl l0 ?_
  obtain ⟨x1, ex1, hh⟩ := bi_bd hh
  refine go_gfI (pc := 97) rfl ex1 ?_
  refine go_al (pc := 100) rfl l0 ?_
  obtain ⟨x2, ex2, hh⟩ := bi_bd hh
  refine go_gfR (pc := 101) rfl ex2 ?_
  refine go_il (pc := 104) rfl l2 ?_
  obtain ⟨x3, ex3, hh⟩ := bi_bd hh
  refine go_iald (pc := 105) rfl ex3 ?_
  refine go_imax (pc := 106) rfl (Nat.le_of_ble_eq_true rfl) ?_
  obtain ⟨h4, eh4, hh⟩ := bi_bd hh
  refine go_pf (pc := 109) rfl eh4 ?_
  exact sX4_sift_112 R44 l0 l2 hh
def fX4_sift_44b (n : Nat) (r44 : ai_H → Nat → Int32 → Option (Unit × ai_H)) (h : ai_H) (v0 : Nat) (v2 : Int32) : Option (Unit × ai_H) :=
  if v2 < 0 then (
    some ((), h))
  else (
    (pR n h v0 4 4).bind fun x1 =>
    (gB n h x1 v2).bind fun x2 =>
    if ¬ x2 = 0 then (
      (pR n h v0 4 0).bind fun x3 =>
      (gX 1 n h x3 v2).bind fun x4 =>
      if ¬ x4 = (2 : Int32) then (
        fX4_sift_95 n r44 h v0 v2)
      else (
        (pR n h v0 4 2).bind fun x5 =>
        (gX 1 n h x5 v2).bind fun x6 =>
        if v2 ≤ x6 then (
          fX4_sift_95 n r44 h v0 v2)
        else (
          (pR n h v0 4 4).bind fun x7 =>
          (pR n h v0 4 2).bind fun x8 =>
          (gX 1 n h x8 v2).bind fun x9 =>
          (wB n h x7 x9 (0 : Int32)).bind fun h10 =>
          fX4_sift_112 n r44 h10 v0 v2)))
    else (
      fX4_sift_112 n r44 h v0 v2))
theorem sX4_sift_44b {n : Nat} {r44 : ai_H → Nat → Int32 → Option (Unit × ai_H)} {q : Unit × ai_H} {h : ai_H} {v0 : Nat} {v2 : Int32} {lv : ai_L} (R44 : ∀ (h : ai_H) (v0 : Nat) (v2 : Int32) (lv : ai_L), ai_ld 0 lv = some (.ref v0) → ai_ld 2 lv = some (.int v2) → r44 h v0 v2 = some q → bi_go 1 tX4_sift n (fV n q) 44 lv [] h) (l0 : ai_ld 0 lv = some (.ref v0)) (l2 : ai_ld 2 lv = some (.int v2)) (hh : fX4_sift_44b n r44 h v0 v2 = some q) : bi_go 1 tX4_sift n (fV n q) 44 lv [] h := by
  unfold fX4_sift_44b at hh
  refine go_il (pc := 44) rfl l2 ?_
  refine bi_ite hh (fun hc hh => ?_) (fun hc hh => ?_)
  · refine go_ifltT (pc := 45) rfl hc ?_
    exact go_rv (pc := 118) rfl hh
  · refine go_ifltF (pc := 45) rfl hc ?_
    refine go_al (pc := 48) rfl l0 ?_
    obtain ⟨x1, ex1, hh⟩ := bi_bd hh
    refine go_gfR (pc := 49) rfl ex1 ?_
    refine go_il (pc := 52) rfl l2 ?_
    obtain ⟨x2, ex2, hh⟩ := bi_bd hh
    refine go_bald (pc := 53) rfl ex2 ?_
    refine bi_ite hh (fun hc hh => ?_) (fun hc hh => ?_)
    · refine go_ifneT (pc := 54) rfl hc ?_
      refine go_al (pc := 60) rfl l0 ?_
      obtain ⟨x3, ex3, hh⟩ := bi_bd hh
      refine go_gfR (pc := 61) rfl ex3 ?_
      refine go_il (pc := 64) rfl l2 ?_
      obtain ⟨x4, ex4, hh⟩ := bi_bd hh
      refine go_iald (pc := 65) rfl ex4 ?_
      refine go_pi (pc := 66) rfl ?_
      refine bi_ite hh (fun hc hh => ?_) (fun hc hh => ?_)
      · refine go_cmpneT (pc := 67) rfl hc ?_
        exact sX4_sift_95 R44 l0 l2 hh
      · refine go_cmpneF (pc := 67) rfl hc ?_
        refine go_al (pc := 70) rfl l0 ?_
        obtain ⟨x5, ex5, hh⟩ := bi_bd hh
        refine go_gfR (pc := 71) rfl ex5 ?_
        refine go_il (pc := 74) rfl l2 ?_
        obtain ⟨x6, ex6, hh⟩ := bi_bd hh
        refine go_iald (pc := 75) rfl ex6 ?_
        refine go_il (pc := 76) rfl l2 ?_
        refine bi_ite hh (fun hc hh => ?_) (fun hc hh => ?_)
        · refine go_cmpgeT (pc := 77) rfl hc ?_
          exact sX4_sift_95 R44 l0 l2 hh
        · refine go_cmpgeF (pc := 77) rfl hc ?_
          refine go_al (pc := 80) rfl l0 ?_
          obtain ⟨x7, ex7, hh⟩ := bi_bd hh
          refine go_gfR (pc := 81) rfl ex7 ?_
          refine go_al (pc := 84) rfl l0 ?_
          obtain ⟨x8, ex8, hh⟩ := bi_bd hh
          refine go_gfR (pc := 85) rfl ex8 ?_
          refine go_il (pc := 88) rfl l2 ?_
          obtain ⟨x9, ex9, hh⟩ := bi_bd hh
          refine go_iald (pc := 89) rfl ex9 ?_
          refine go_pi (pc := 90) rfl ?_
          obtain ⟨h10, eh10, hh⟩ := bi_bd hh
          refine go_bast (pc := 91) rfl eh10 ?_
          refine go_goto (pc := 92) rfl ?_
          exact sX4_sift_112 R44 l0 l2 hh
    · refine go_ifneF (pc := 54) rfl hc ?_
      refine go_goto (pc := 57) rfl ?_
      exact sX4_sift_112 R44 l0 l2 hh
def fX4_sift_44 (n : Nat) : Nat → ai_H → Nat → Int32 → Option (Unit × ai_H)
  | 0 => fun _ _ _ => none
  | k + 1 => fun h v0 v2 => fX4_sift_44b n (fX4_sift_44 n k) h v0 v2
theorem sX4_sift_44 {n : Nat} {q : Unit × ai_H} : ∀ (k : Nat) (h : ai_H) (v0 : Nat) (v2 : Int32) (lv : ai_L), ai_ld 0 lv = some (.ref v0) → ai_ld 2 lv = some (.int v2) → fX4_sift_44 n k h v0 v2 = some q → bi_go 1 tX4_sift n (fV n q) 44 lv [] h
  | 0 => fun _ _ _ _ _ _ hh => by cases hh
  | k + 1 => fun h v0 v2 lv l0 l2 hh => sX4_sift_44b  (sX4_sift_44  k) l0 l2 hh
def fX4_sift_12b (n : Nat) (r12 : ai_H → Nat → Int32 → Int32 → Option (Unit × ai_H)) (h : ai_H) (v0 : Nat) (v1 : Int32) (v2 : Int32) : Option (Unit × ai_H) :=
  if (24 : Int32) ≤ v2 then (
    fX4_sift_44 n bi_K h v0 (v1 - (1 : Int32)))
  else (
    (pR n h v0 4 4).bind fun x1 =>
    if v1 ≤ v2 then (
      fX4_sift_33 n r12 h v0 v1 v2 (0 : Int32) v2 x1)
    else (
      fX4_sift_33 n r12 h v0 v1 v2 (1 : Int32) v2 x1))
theorem sX4_sift_12b {n : Nat} {r12 : ai_H → Nat → Int32 → Int32 → Option (Unit × ai_H)} {q : Unit × ai_H} {h : ai_H} {v0 : Nat} {v1 : Int32} {v2 : Int32} {lv : ai_L} (R12 : ∀ (h : ai_H) (v0 : Nat) (v1 : Int32) (v2 : Int32) (lv : ai_L), ai_ld 0 lv = some (.ref v0) → ai_ld 1 lv = some (.int v1) → ai_ld 2 lv = some (.int v2) → r12 h v0 v1 v2 = some q → bi_go 1 tX4_sift n (fV n q) 12 lv [] h) (l0 : ai_ld 0 lv = some (.ref v0)) (l1 : ai_ld 1 lv = some (.int v1)) (l2 : ai_ld 2 lv = some (.int v2)) (hh : fX4_sift_12b n r12 h v0 v1 v2 = some q) : bi_go 1 tX4_sift n (fV n q) 12 lv [] h := by
  unfold fX4_sift_12b at hh
  refine go_il (pc := 12) rfl l2 ?_
  refine go_pi (pc := 13) rfl ?_
  refine bi_ite hh (fun hc hh => ?_) (fun hc hh => ?_)
  · refine go_cmpgeT (pc := 15) rfl hc ?_
    refine go_il (pc := 40) rfl l1 ?_
    refine go_pi (pc := 41) rfl ?_
    refine go_isub (pc := 42) rfl ?_
    refine go_is (pc := 43) rfl ?_
    exact sX4_sift_44  _ _ _ _ _ (bi_k1 l0 rfl rfl) bi_e1 hh
  · refine go_cmpgeF (pc := 15) rfl hc ?_
    refine go_al (pc := 18) rfl l0 ?_
    obtain ⟨x1, ex1, hh⟩ := bi_bd hh
    refine go_gfR (pc := 19) rfl ex1 ?_
    refine go_il (pc := 22) rfl l2 ?_
    refine go_il (pc := 23) rfl l2 ?_
    refine go_il (pc := 24) rfl l1 ?_
    refine bi_ite hh (fun hc hh => ?_) (fun hc hh => ?_)
    · refine go_cmpgeT (pc := 25) rfl hc ?_
      refine go_pi (pc := 32) rfl ?_
      exact sX4_sift_33 R12 l0 l1 l2 hh
    · refine go_cmpgeF (pc := 25) rfl hc ?_
      refine go_pi (pc := 28) rfl ?_
      refine go_goto (pc := 29) rfl ?_
      exact sX4_sift_33 R12 l0 l1 l2 hh
def fX4_sift_12 (n : Nat) : Nat → ai_H → Nat → Int32 → Int32 → Option (Unit × ai_H)
  | 0 => fun _ _ _ _ => none
  | k + 1 => fun h v0 v1 v2 => fX4_sift_12b n (fX4_sift_12 n k) h v0 v1 v2
theorem sX4_sift_12 {n : Nat} {q : Unit × ai_H} : ∀ (k : Nat) (h : ai_H) (v0 : Nat) (v1 : Int32) (v2 : Int32) (lv : ai_L), ai_ld 0 lv = some (.ref v0) → ai_ld 1 lv = some (.int v1) → ai_ld 2 lv = some (.int v2) → fX4_sift_12 n k h v0 v1 v2 = some q → bi_go 1 tX4_sift n (fV n q) 12 lv [] h
  | 0 => fun _ _ _ _ _ _ _ _ hh => by cases hh
  | k + 1 => fun h v0 v1 v2 lv l0 l1 l2 hh => sX4_sift_12b  (sX4_sift_12  k) l0 l1 l2 hh
def fX4_sift (n : Nat) (h : ai_H) (a0 : Nat) : Option (Unit × ai_H) :=
  (kO n h a0 4).bind fun _ =>
  (fX4_knownSize n h a0).bind fun q1 =>
  (sF n q1.2 a0 4 7 (.int) (.int (0 : Int32))).bind fun h2 =>
  fX4_sift_12 n bi_K h2 a0 q1.1 (0 : Int32)
theorem gX4_sift {n : Nat} {h : ai_H} {a0 : Nat} {q : Unit × ai_H} (hh : fX4_sift n h a0 = some q) : kO n h a0 4 = some () := by
  obtain ⟨_, e, -⟩ := bi_bd hh
  exact e
theorem sX4_sift {n : Nat} {h : ai_H} {a0 : Nat} {q : Unit × ai_H} (hh : fX4_sift n h a0 = some q) : bi_sp 2 46 [.ref a0] h n (fV n q) := by
  refine bi_en (D := 1) (T := tX4_sift) (funext fun pc => rfl) rfl (Nat.le_of_ble_eq_true rfl) ?_
  unfold fX4_sift at hh
  obtain ⟨_, eO, hh⟩ := bi_bd hh
  refine go_al (pc := 0) rfl (rfl : ai_ld 0 (lv_args 0 [.ref a0]) = some (.ref a0)) ?_
  obtain ⟨q1, eq1, hh⟩ := bi_bd hh
  refine go_ivI (pc := 1) rfl rfl (gX4_knownSize eq1) (Nat.le_of_ble_eq_true rfl) (bi_up (sX4_knownSize eq1) (Nat.le_of_ble_eq_true rfl)) ?_
  refine go_is (pc := 4) rfl ?_
  refine go_al (pc := 5) rfl (bi_k1 (rfl : ai_ld 0 (lv_args 0 [.ref a0]) = some (.ref a0)) rfl rfl) ?_
  refine go_pi (pc := 6) rfl ?_
  obtain ⟨h2, eh2, hh⟩ := bi_bd hh
  refine go_pf (pc := 7) rfl eh2 ?_
  refine go_pi (pc := 10) rfl ?_
  refine go_is (pc := 11) rfl ?_
  exact sX4_sift_12  _ _ _ _ _ _ (bi_k1 (bi_k1 (rfl : ai_ld 0 (lv_args 0 [.ref a0]) = some (.ref a0)) rfl rfl) rfl rfl) (bi_k1 bi_e1 rfl rfl) bi_e1 hh
