/-! ===== methods as functions, part 7 ===== -/
def fX9_goOn_186 (n : Nat) (r6 : ai_H → Nat → Nat → Int32 → Int32 → Int32 → Int32 → Int32 → Int32 → Option (Unit × ai_H)) (r24 : ai_H → Nat → Nat → Int32 → Int32 → Int32 → Int32 → Int32 → Int32 → Int32 → Option (Unit × ai_H)) (h : ai_H) (v0 : Nat) (v1 : Nat) (v2 : Int32) (v3 : Int32) (v4 : Int32) (v5 : Int32) (v6 : Int32) (v7 : Int32) (v8 : Int32) : Option (Unit × ai_H) :=
  r24 h v0 v1 v2 v3 v4 v5 v6 v7 (v8 + 1)
theorem sX9_goOn_186 {n : Nat} {r6 : ai_H → Nat → Nat → Int32 → Int32 → Int32 → Int32 → Int32 → Int32 → Option (Unit × ai_H)} {r24 : ai_H → Nat → Nat → Int32 → Int32 → Int32 → Int32 → Int32 → Int32 → Int32 → Option (Unit × ai_H)} {q : Unit × ai_H} {h : ai_H} {v0 : Nat} {v1 : Nat} {v2 : Int32} {v3 : Int32} {v4 : Int32} {v5 : Int32} {v6 : Int32} {v7 : Int32} {v8 : Int32} {lv : ai_L} (R6 : ∀ (h : ai_H) (v0 : Nat) (v1 : Nat) (v2 : Int32) (v3 : Int32) (v4 : Int32) (v5 : Int32) (v6 : Int32) (v7 : Int32) (lv : ai_L), ai_ld 0 lv = some (.ref v0) → ai_ld 1 lv = some (.ref v1) → ai_ld 2 lv = some (.int v2) → ai_ld 3 lv = some (.int v3) → ai_ld 4 lv = some (.int v4) → ai_ld 5 lv = some (.int v5) → ai_ld 6 lv = some (.int v6) → ai_ld 7 lv = some (.int v7) → r6 h v0 v1 v2 v3 v4 v5 v6 v7 = some q → bi_go 1 tX9_goOn n (fV n q) 6 lv [] h) (R24 : ∀ (h : ai_H) (v0 : Nat) (v1 : Nat) (v2 : Int32) (v3 : Int32) (v4 : Int32) (v5 : Int32) (v6 : Int32) (v7 : Int32) (v8 : Int32) (lv : ai_L), ai_ld 0 lv = some (.ref v0) → ai_ld 1 lv = some (.ref v1) → ai_ld 2 lv = some (.int v2) → ai_ld 3 lv = some (.int v3) → ai_ld 4 lv = some (.int v4) → ai_ld 5 lv = some (.int v5) → ai_ld 6 lv = some (.int v6) → ai_ld 7 lv = some (.int v7) → ai_ld 8 lv = some (.int v8) → r24 h v0 v1 v2 v3 v4 v5 v6 v7 v8 = some q → bi_go 1 tX9_goOn n (fV n q) 24 lv [] h) (l0 : ai_ld 0 lv = some (.ref v0)) (l1 : ai_ld 1 lv = some (.ref v1)) (l2 : ai_ld 2 lv = some (.int v2)) (l3 : ai_ld 3 lv = some (.int v3)) (l4 : ai_ld 4 lv = some (.int v4)) (l5 : ai_ld 5 lv = some (.int v5)) (l6 : ai_ld 6 lv = some (.int v6)) (l7 : ai_ld 7 lv = some (.int v7)) (l8 : ai_ld 8 lv = some (.int v8)) (hh : fX9_goOn_186 n r6 r24 h v0 v1 v2 v3 v4 v5 v6 v7 v8 = some q) : bi_go 1 tX9_goOn n (fV n q) 186 lv [] h := by
  unfold fX9_goOn_186 at hh
  refine go_inc (pc := 186) rfl l8 ?_
  refine go_goto (pc := 189) rfl ?_
  exact R24 _ _ _ _ _ _ _ _ _ _ _ (bi_k1 l0 rfl rfl) (bi_k1 l1 rfl rfl) (bi_k1 l2 rfl rfl) (bi_k1 l3 rfl rfl) (bi_k1 l4 rfl rfl) (bi_k1 l5 rfl rfl) (bi_k1 l6 rfl rfl) (bi_k1 l7 rfl rfl) bi_e1 hh
def fX9_goOn_184 (n : Nat) (r6 : ai_H → Nat → Nat → Int32 → Int32 → Int32 → Int32 → Int32 → Int32 → Option (Unit × ai_H)) (r24 : ai_H → Nat → Nat → Int32 → Int32 → Int32 → Int32 → Int32 → Int32 → Int32 → Option (Unit × ai_H)) (h : ai_H) (v0 : Nat) (v1 : Nat) (v2 : Int32) (v3 : Int32) (v4 : Int32) (v5 : Int32) (v7 : Int32) (v8 : Int32) (s0 : Int32) : Option (Unit × ai_H) :=
  fX9_goOn_186 n r6 r24 h v0 v1 v2 v3 v4 v5 s0 v7 v8
theorem sX9_goOn_184 {n : Nat} {r6 : ai_H → Nat → Nat → Int32 → Int32 → Int32 → Int32 → Int32 → Int32 → Option (Unit × ai_H)} {r24 : ai_H → Nat → Nat → Int32 → Int32 → Int32 → Int32 → Int32 → Int32 → Int32 → Option (Unit × ai_H)} {q : Unit × ai_H} {h : ai_H} {v0 : Nat} {v1 : Nat} {v2 : Int32} {v3 : Int32} {v4 : Int32} {v5 : Int32} {v7 : Int32} {v8 : Int32} {s0 : Int32} {lv : ai_L} (R6 : ∀ (h : ai_H) (v0 : Nat) (v1 : Nat) (v2 : Int32) (v3 : Int32) (v4 : Int32) (v5 : Int32) (v6 : Int32) (v7 : Int32) (lv : ai_L), ai_ld 0 lv = some (.ref v0) → ai_ld 1 lv = some (.ref v1) → ai_ld 2 lv = some (.int v2) → ai_ld 3 lv = some (.int v3) → ai_ld 4 lv = some (.int v4) → ai_ld 5 lv = some (.int v5) → ai_ld 6 lv = some (.int v6) → ai_ld 7 lv = some (.int v7) → r6 h v0 v1 v2 v3 v4 v5 v6 v7 = some q → bi_go 1 tX9_goOn n (fV n q) 6 lv [] h) (R24 : ∀ (h : ai_H) (v0 : Nat) (v1 : Nat) (v2 : Int32) (v3 : Int32) (v4 : Int32) (v5 : Int32) (v6 : Int32) (v7 : Int32) (v8 : Int32) (lv : ai_L), ai_ld 0 lv = some (.ref v0) → ai_ld 1 lv = some (.ref v1) → ai_ld 2 lv = some (.int v2) → ai_ld 3 lv = some (.int v3) → ai_ld 4 lv = some (.int v4) → ai_ld 5 lv = some (.int v5) → ai_ld 6 lv = some (.int v6) → ai_ld 7 lv = some (.int v7) → ai_ld 8 lv = some (.int v8) → r24 h v0 v1 v2 v3 v4 v5 v6 v7 v8 = some q → bi_go 1 tX9_goOn n (fV n q) 24 lv [] h) (l0 : ai_ld 0 lv = some (.ref v0)) (l1 : ai_ld 1 lv = some (.ref v1)) (l2 : ai_ld 2 lv = some (.int v2)) (l3 : ai_ld 3 lv = some (.int v3)) (l4 : ai_ld 4 lv = some (.int v4)) (l5 : ai_ld 5 lv = some (.int v5)) (l7 : ai_ld 7 lv = some (.int v7)) (l8 : ai_ld 8 lv = some (.int v8)) (hh : fX9_goOn_184 n r6 r24 h v0 v1 v2 v3 v4 v5 v7 v8 s0 = some q) : bi_go 1 tX9_goOn n (fV n q) 184 lv [.int s0] h := by
  unfold fX9_goOn_184 at hh
  refine go_is (pc := 184) rfl ?_
  exact sX9_goOn_186 R6 R24 (bi_k1 l0 rfl rfl) (bi_k1 l1 rfl rfl) (bi_k1 l2 rfl rfl) (bi_k1 l3 rfl rfl) (bi_k1 l4 rfl rfl) (bi_k1 l5 rfl rfl) bi_e1 (bi_k1 l7 rfl rfl) (bi_k1 l8 rfl rfl) hh
def fX9_goOn_179 (n : Nat) (r6 : ai_H → Nat → Nat → Int32 → Int32 → Int32 → Int32 → Int32 → Int32 → Option (Unit × ai_H)) (r24 : ai_H → Nat → Nat → Int32 → Int32 → Int32 → Int32 → Int32 → Int32 → Int32 → Option (Unit × ai_H)) (h : ai_H) (v0 : Nat) (v1 : Nat) (v2 : Int32) (v3 : Int32) (v4 : Int32) (v5 : Int32) (v7 : Int32) (v8 : Int32) : Option (Unit × ai_H) :=
  fX9_goOn_184 n r6 r24 h v0 v1 v2 v3 v4 v5 v7 v8 (1 : Int32)
theorem sX9_goOn_179 {n : Nat} {r6 : ai_H → Nat → Nat → Int32 → Int32 → Int32 → Int32 → Int32 → Int32 → Option (Unit × ai_H)} {r24 : ai_H → Nat → Nat → Int32 → Int32 → Int32 → Int32 → Int32 → Int32 → Int32 → Option (Unit × ai_H)} {q : Unit × ai_H} {h : ai_H} {v0 : Nat} {v1 : Nat} {v2 : Int32} {v3 : Int32} {v4 : Int32} {v5 : Int32} {v7 : Int32} {v8 : Int32} {lv : ai_L} (R6 : ∀ (h : ai_H) (v0 : Nat) (v1 : Nat) (v2 : Int32) (v3 : Int32) (v4 : Int32) (v5 : Int32) (v6 : Int32) (v7 : Int32) (lv : ai_L), ai_ld 0 lv = some (.ref v0) → ai_ld 1 lv = some (.ref v1) → ai_ld 2 lv = some (.int v2) → ai_ld 3 lv = some (.int v3) → ai_ld 4 lv = some (.int v4) → ai_ld 5 lv = some (.int v5) → ai_ld 6 lv = some (.int v6) → ai_ld 7 lv = some (.int v7) → r6 h v0 v1 v2 v3 v4 v5 v6 v7 = some q → bi_go 1 tX9_goOn n (fV n q) 6 lv [] h) (R24 : ∀ (h : ai_H) (v0 : Nat) (v1 : Nat) (v2 : Int32) (v3 : Int32) (v4 : Int32) (v5 : Int32) (v6 : Int32) (v7 : Int32) (v8 : Int32) (lv : ai_L), ai_ld 0 lv = some (.ref v0) → ai_ld 1 lv = some (.ref v1) → ai_ld 2 lv = some (.int v2) → ai_ld 3 lv = some (.int v3) → ai_ld 4 lv = some (.int v4) → ai_ld 5 lv = some (.int v5) → ai_ld 6 lv = some (.int v6) → ai_ld 7 lv = some (.int v7) → ai_ld 8 lv = some (.int v8) → r24 h v0 v1 v2 v3 v4 v5 v6 v7 v8 = some q → bi_go 1 tX9_goOn n (fV n q) 24 lv [] h) (l0 : ai_ld 0 lv = some (.ref v0)) (l1 : ai_ld 1 lv = some (.ref v1)) (l2 : ai_ld 2 lv = some (.int v2)) (l3 : ai_ld 3 lv = some (.int v3)) (l4 : ai_ld 4 lv = some (.int v4)) (l5 : ai_ld 5 lv = some (.int v5)) (l7 : ai_ld 7 lv = some (.int v7)) (l8 : ai_ld 8 lv = some (.int v8)) (hh : fX9_goOn_179 n r6 r24 h v0 v1 v2 v3 v4 v5 v7 v8 = some q) : bi_go 1 tX9_goOn n (fV n q) 179 lv [] h := by
  unfold fX9_goOn_179 at hh
  refine go_pi (pc := 179) rfl ?_
  refine go_goto (pc := 180) rfl ?_
  exact sX9_goOn_184 R6 R24 l0 l1 l2 l3 l4 l5 l7 l8 hh
def fX9_goOn_183 (n : Nat) (r6 : ai_H → Nat → Nat → Int32 → Int32 → Int32 → Int32 → Int32 → Int32 → Option (Unit × ai_H)) (r24 : ai_H → Nat → Nat → Int32 → Int32 → Int32 → Int32 → Int32 → Int32 → Int32 → Option (Unit × ai_H)) (h : ai_H) (v0 : Nat) (v1 : Nat) (v2 : Int32) (v3 : Int32) (v4 : Int32) (v5 : Int32) (v7 : Int32) (v8 : Int32) : Option (Unit × ai_H) :=
  fX9_goOn_184 n r6 r24 h v0 v1 v2 v3 v4 v5 v7 v8 (0 : Int32)
theorem sX9_goOn_183 {n : Nat} {r6 : ai_H → Nat → Nat → Int32 → Int32 → Int32 → Int32 → Int32 → Int32 → Option (Unit × ai_H)} {r24 : ai_H → Nat → Nat → Int32 → Int32 → Int32 → Int32 → Int32 → Int32 → Int32 → Option (Unit × ai_H)} {q : Unit × ai_H} {h : ai_H} {v0 : Nat} {v1 : Nat} {v2 : Int32} {v3 : Int32} {v4 : Int32} {v5 : Int32} {v7 : Int32} {v8 : Int32} {lv : ai_L} (R6 : ∀ (h : ai_H) (v0 : Nat) (v1 : Nat) (v2 : Int32) (v3 : Int32) (v4 : Int32) (v5 : Int32) (v6 : Int32) (v7 : Int32) (lv : ai_L), ai_ld 0 lv = some (.ref v0) → ai_ld 1 lv = some (.ref v1) → ai_ld 2 lv = some (.int v2) → ai_ld 3 lv = some (.int v3) → ai_ld 4 lv = some (.int v4) → ai_ld 5 lv = some (.int v5) → ai_ld 6 lv = some (.int v6) → ai_ld 7 lv = some (.int v7) → r6 h v0 v1 v2 v3 v4 v5 v6 v7 = some q → bi_go 1 tX9_goOn n (fV n q) 6 lv [] h) (R24 : ∀ (h : ai_H) (v0 : Nat) (v1 : Nat) (v2 : Int32) (v3 : Int32) (v4 : Int32) (v5 : Int32) (v6 : Int32) (v7 : Int32) (v8 : Int32) (lv : ai_L), ai_ld 0 lv = some (.ref v0) → ai_ld 1 lv = some (.ref v1) → ai_ld 2 lv = some (.int v2) → ai_ld 3 lv = some (.int v3) → ai_ld 4 lv = some (.int v4) → ai_ld 5 lv = some (.int v5) → ai_ld 6 lv = some (.int v6) → ai_ld 7 lv = some (.int v7) → ai_ld 8 lv = some (.int v8) → r24 h v0 v1 v2 v3 v4 v5 v6 v7 v8 = some q → bi_go 1 tX9_goOn n (fV n q) 24 lv [] h) (l0 : ai_ld 0 lv = some (.ref v0)) (l1 : ai_ld 1 lv = some (.ref v1)) (l2 : ai_ld 2 lv = some (.int v2)) (l3 : ai_ld 3 lv = some (.int v3)) (l4 : ai_ld 4 lv = some (.int v4)) (l5 : ai_ld 5 lv = some (.int v5)) (l7 : ai_ld 7 lv = some (.int v7)) (l8 : ai_ld 8 lv = some (.int v8)) (hh : fX9_goOn_183 n r6 r24 h v0 v1 v2 v3 v4 v5 v7 v8 = some q) : bi_go 1 tX9_goOn n (fV n q) 183 lv [] h := by
  unfold fX9_goOn_183 at hh
  refine go_pi (pc := 183) rfl ?_
  exact sX9_goOn_184 R6 R24 l0 l1 l2 l3 l4 l5 l7 l8 hh
def fX9_goOn_24b (n : Nat) (r6 : ai_H → Nat → Nat → Int32 → Int32 → Int32 → Int32 → Int32 → Int32 → Option (Unit × ai_H)) (r24 : ai_H → Nat → Nat → Int32 → Int32 → Int32 → Int32 → Int32 → Int32 → Int32 → Option (Unit × ai_H)) (h : ai_H) (v0 : Nat) (v1 : Nat) (v2 : Int32) (v3 : Int32) (v4 : Int32) (v5 : Int32) (v6 : Int32) (v7 : Int32) (v8 : Int32) : Option (Unit × ai_H) :=
  (pR n h v1 8 1).bind fun x1 =>
  (pI n h x1 6 4).bind fun x2 =>
  if x2 ≤ v8 then (
    r6 h v0 v1 v2 v3 v4 v5 v6 (v7 + 1))
  else (
    if ¬ ((v2 >>> (v8 &&& 31)) &&& (1 : Int32)) = 0 then (
      (pR n h v1 8 1).bind fun x3 =>
      (fX6_cell n h x3 v8 (0 : Int32)).bind fun q4 =>
      (pR n q4.2 v1 8 1).bind fun x5 =>
      (fX6_cell n q4.2 x5 v8 (1 : Int32)).bind fun q6 =>
      (pR n q6.2 v1 8 1).bind fun x7 =>
      (fX6_cell n q6.2 x7 v8 (2 : Int32)).bind fun q8 =>
      (pR n q8.2 v0 9 1).bind fun x9 =>
      (gX 1 n q8.2 x9 ((v4 * (7 : Int32)) + q4.1)).bind fun x10 =>
      (fX9_lessen n q8.2 v0 (((v4 ||| (((1 : Int32) <<< (v8 &&& 31)) &&& v3)) * (7 : Int32)) + q6.1) x10 q8.1 v5).bind fun q11 =>
      (pR n q11.2 v0 9 1).bind fun x12 =>
      (gX 1 n q11.2 x12 ((v4 * (7 : Int32)) + q6.1)).bind fun x13 =>
      (fX9_lessen n q11.2 v0 (((v4 ||| (((1 : Int32) <<< (v8 &&& 31)) &&& v3)) * (7 : Int32)) + q4.1) x13 q8.1 v5).bind fun q14 =>
      if ¬ v6 = 0 then (
        fX9_goOn_179 n r6 r24 q14.2 v0 v1 v2 v3 v4 v5 v7 v8)
      else (
        if ¬ (v4 ||| (((1 : Int32) <<< (v8 &&& 31)) &&& v3)) = v4 then (
          fX9_goOn_183 n r6 r24 q14.2 v0 v1 v2 v3 v4 v5 v7 v8)
        else (
          if ¬ q11.1 = 0 then (
            fX9_goOn_179 n r6 r24 q14.2 v0 v1 v2 v3 v4 v5 v7 v8)
          else (
            if q14.1 = 0 then (
              fX9_goOn_183 n r6 r24 q14.2 v0 v1 v2 v3 v4 v5 v7 v8)
            else (
              fX9_goOn_179 n r6 r24 q14.2 v0 v1 v2 v3 v4 v5 v7 v8)))))
    else (
      fX9_goOn_186 n r6 r24 h v0 v1 v2 v3 v4 v5 v6 v7 v8))
theorem sX9_goOn_24b {n : Nat} {r6 : ai_H → Nat → Nat → Int32 → Int32 → Int32 → Int32 → Int32 → Int32 → Option (Unit × ai_H)} {r24 : ai_H → Nat → Nat → Int32 → Int32 → Int32 → Int32 → Int32 → Int32 → Int32 → Option (Unit × ai_H)} {q : Unit × ai_H} {h : ai_H} {v0 : Nat} {v1 : Nat} {v2 : Int32} {v3 : Int32} {v4 : Int32} {v5 : Int32} {v6 : Int32} {v7 : Int32} {v8 : Int32} {lv : ai_L} (R6 : ∀ (h : ai_H) (v0 : Nat) (v1 : Nat) (v2 : Int32) (v3 : Int32) (v4 : Int32) (v5 : Int32) (v6 : Int32) (v7 : Int32) (lv : ai_L), ai_ld 0 lv = some (.ref v0) → ai_ld 1 lv = some (.ref v1) → ai_ld 2 lv = some (.int v2) → ai_ld 3 lv = some (.int v3) → ai_ld 4 lv = some (.int v4) → ai_ld 5 lv = some (.int v5) → ai_ld 6 lv = some (.int v6) → ai_ld 7 lv = some (.int v7) → r6 h v0 v1 v2 v3 v4 v5 v6 v7 = some q → bi_go 1 tX9_goOn n (fV n q) 6 lv [] h) (R24 : ∀ (h : ai_H) (v0 : Nat) (v1 : Nat) (v2 : Int32) (v3 : Int32) (v4 : Int32) (v5 : Int32) (v6 : Int32) (v7 : Int32) (v8 : Int32) (lv : ai_L), ai_ld 0 lv = some (.ref v0) → ai_ld 1 lv = some (.ref v1) → ai_ld 2 lv = some (.int v2) → ai_ld 3 lv = some (.int v3) → ai_ld 4 lv = some (.int v4) → ai_ld 5 lv = some (.int v5) → ai_ld 6 lv = some (.int v6) → ai_ld 7 lv = some (.int v7) → ai_ld 8 lv = some (.int v8) → r24 h v0 v1 v2 v3 v4 v5 v6 v7 v8 = some q → bi_go 1 tX9_goOn n (fV n q) 24 lv [] h) (l0 : ai_ld 0 lv = some (.ref v0)) (l1 : ai_ld 1 lv = some (.ref v1)) (l2 : ai_ld 2 lv = some (.int v2)) (l3 : ai_ld 3 lv = some (.int v3)) (l4 : ai_ld 4 lv = some (.int v4)) (l5 : ai_ld 5 lv = some (.int v5)) (l6 : ai_ld 6 lv = some (.int v6)) (l7 : ai_ld 7 lv = some (.int v7)) (l8 : ai_ld 8 lv = some (.int v8)) (hh : fX9_goOn_24b n r6 r24 h v0 v1 v2 v3 v4 v5 v6 v7 v8 = some q) : bi_go 1 tX9_goOn n (fV n q) 24 lv [] h := by
  unfold fX9_goOn_24b at hh
  refine go_il (pc := 24) rfl l8 ?_
  refine go_al (pc := 26) rfl l1 ?_
  obtain ⟨x1, ex1, hh⟩ := bi_bd hh
  refine go_gfR (pc := 27) rfl ex1 ?_
  obtain ⟨x2, ex2, hh⟩ := bi_bd hh
  refine go_gfI (pc := 30) rfl ex2 ?_
  refine bi_ite hh (fun hc hh => ?_) (fun hc hh => ?_)
  · refine go_cmpgeT (pc := 33) rfl hc ?_
    refine go_inc (pc := 192) rfl l7 ?_
    refine go_goto (pc := 195) rfl ?_
    exact R6 _ _ _ _ _ _ _ _ _ _ (bi_k1 l0 rfl rfl) (bi_k1 l1 rfl rfl) (bi_k1 l2 rfl rfl) (bi_k1 l3 rfl rfl) (bi_k1 l4 rfl rfl) (bi_k1 l5 rfl rfl) (bi_k1 l6 rfl rfl) bi_e1 hh
  · refine go_cmpgeF (pc := 33) rfl hc ?_
    refine go_il (pc := 36) rfl l2 ?_
    refine go_il (pc := 37) rfl l8 ?_
    refine go_ishr (pc := 39) rfl ?_
    refine go_pi (pc := 40) rfl ?_
    refine go_iand (pc := 41) rfl ?_
    refine bi_ite hh (fun hc hh => ?_) (fun hc hh => ?_)
    · refine go_ifneT (pc := 42) rfl hc ?_
      refine go_il (pc := 48) rfl l4 ?_
      refine go_pi (pc := 50) rfl ?_
      refine go_il (pc := 51) rfl l8 ?_
      refine go_ishl (pc := 53) rfl ?_
      refine go_il (pc := 54) rfl l3 ?_
      refine go_iand (pc := 55) rfl ?_
      refine go_ior (pc := 56) rfl ?_
      refine go_is (pc := 57) rfl ?_
      refine go_al (pc := 59) rfl (bi_k1 l1 rfl rfl) ?_
      obtain ⟨x3, ex3, hh⟩ := bi_bd hh
      refine go_gfR (pc := 60) rfl ex3 ?_
      refine go_il (pc := 63) rfl (bi_k1 l8 rfl rfl) ?_
      refine go_pi (pc := 65) rfl ?_
      obtain ⟨q4, eq4, hh⟩ := bi_bd hh
      refine go_ivI (pc := 66) rfl rfl (gX6_cell eq4) (Nat.le_of_ble_eq_true rfl) (bi_up (sX6_cell eq4) (Nat.le_of_ble_eq_true rfl)) ?_
      refine go_is (pc := 69) rfl ?_
      refine go_al (pc := 71) rfl (bi_k1 (bi_k1 l1 rfl rfl) rfl rfl) ?_
      obtain ⟨x5, ex5, hh⟩ := bi_bd hh
      refine go_gfR (pc := 72) rfl ex5 ?_
      refine go_il (pc := 75) rfl (bi_k1 (bi_k1 l8 rfl rfl) rfl rfl) ?_
      refine go_pi (pc := 77) rfl ?_
      obtain ⟨q6, eq6, hh⟩ := bi_bd hh
      refine go_ivI (pc := 78) rfl rfl (gX6_cell eq6) (Nat.le_of_ble_eq_true rfl) (bi_up (sX6_cell eq6) (Nat.le_of_ble_eq_true rfl)) ?_
      refine go_is (pc := 81) rfl ?_
      refine go_al (pc := 83) rfl (bi_k1 (bi_k1 (bi_k1 l1 rfl rfl) rfl rfl) rfl rfl) ?_
      obtain ⟨x7, ex7, hh⟩ := bi_bd hh
      refine go_gfR (pc := 84) rfl ex7 ?_
      refine go_il (pc := 87) rfl (bi_k1 (bi_k1 (bi_k1 l8 rfl rfl) rfl rfl) rfl rfl) ?_
      refine go_pi (pc := 89) rfl ?_
      obtain ⟨q8, eq8, hh⟩ := bi_bd hh
      refine go_ivI (pc := 90) rfl rfl (gX6_cell eq8) (Nat.le_of_ble_eq_true rfl) (bi_up (sX6_cell eq8) (Nat.le_of_ble_eq_true rfl)) ?_
      refine go_is (pc := 93) rfl ?_
      refine go_al (pc := 95) rfl (bi_k1 (bi_k1 (bi_k1 (bi_k1 l0 rfl rfl) rfl rfl) rfl rfl) rfl rfl) ?_
      refine go_il (pc := 96) rfl (bi_k1 (bi_k1 (bi_k1 bi_e1 rfl rfl) rfl rfl) rfl rfl) ?_
      refine go_pi (pc := 98) rfl ?_
      refine go_imul (pc := 100) rfl ?_
      refine go_il (pc := 101) rfl (bi_k1 bi_e1 rfl rfl) ?_
      refine go_iadd (pc := 103) rfl ?_
      refine go_al (pc := 104) rfl (bi_k1 (bi_k1 (bi_k1 (bi_k1 l0 rfl rfl) rfl rfl) rfl rfl) rfl rfl) ?_
      obtain ⟨x9, ex9, hh⟩ := bi_bd hh
      refine go_gfR (pc := 105) rfl ex9 ?_
      refine go_il (pc := 108) rfl (bi_k1 (bi_k1 (bi_k1 (bi_k1 l4 rfl rfl) rfl rfl) rfl rfl) rfl rfl) ?_
      refine go_pi (pc := 110) rfl ?_
      refine go_imul (pc := 112) rfl ?_
      refine go_il (pc := 113) rfl (bi_k1 (bi_k1 bi_e1 rfl rfl) rfl rfl) ?_
      refine go_iadd (pc := 115) rfl ?_
      obtain ⟨x10, ex10, hh⟩ := bi_bd hh
      refine go_iald (pc := 116) rfl ex10 ?_
      refine go_il (pc := 117) rfl bi_e1 ?_
      refine go_il (pc := 119) rfl (bi_k1 (bi_k1 (bi_k1 (bi_k1 l5 rfl rfl) rfl rfl) rfl rfl) rfl rfl) ?_
      obtain ⟨q11, eq11, hh⟩ := bi_bd hh
      refine go_ivI (pc := 121) rfl rfl (gX9_lessen eq11) (Nat.le_of_ble_eq_true rfl) (bi_up (sX9_lessen eq11) (Nat.le_of_ble_eq_true rfl)) ?_
      refine go_is (pc := 124) rfl ?_
      refine go_al (pc := 126) rfl (bi_k1 (bi_k1 (bi_k1 (bi_k1 (bi_k1 l0 rfl rfl) rfl rfl) rfl rfl) rfl rfl) rfl rfl) ?_
      refine go_il (pc := 127) rfl (bi_k1 (bi_k1 (bi_k1 (bi_k1 bi_e1 rfl rfl) rfl rfl) rfl rfl) rfl rfl) ?_
      refine go_pi (pc := 129) rfl ?_
      refine go_imul (pc := 131) rfl ?_
      refine go_il (pc := 132) rfl (bi_k1 (bi_k1 (bi_k1 bi_e1 rfl rfl) rfl rfl) rfl rfl) ?_
      refine go_iadd (pc := 134) rfl ?_
      refine go_al (pc := 135) rfl (bi_k1 (bi_k1 (bi_k1 (bi_k1 (bi_k1 l0 rfl rfl) rfl rfl) rfl rfl) rfl rfl) rfl rfl) ?_
      obtain ⟨x12, ex12, hh⟩ := bi_bd hh
      refine go_gfR (pc := 136) rfl ex12 ?_
      refine go_il (pc := 139) rfl (bi_k1 (bi_k1 (bi_k1 (bi_k1 (bi_k1 l4 rfl rfl) rfl rfl) rfl rfl) rfl rfl) rfl rfl) ?_
      refine go_pi (pc := 141) rfl ?_
      refine go_imul (pc := 143) rfl ?_
      refine go_il (pc := 144) rfl (bi_k1 (bi_k1 bi_e1 rfl rfl) rfl rfl) ?_
      refine go_iadd (pc := 146) rfl ?_
      obtain ⟨x13, ex13, hh⟩ := bi_bd hh
      refine go_iald (pc := 147) rfl ex13 ?_
      refine go_il (pc := 148) rfl (bi_k1 bi_e1 rfl rfl) ?_
      refine go_il (pc := 150) rfl (bi_k1 (bi_k1 (bi_k1 (bi_k1 (bi_k1 l5 rfl rfl) rfl rfl) rfl rfl) rfl rfl) rfl rfl) ?_
      obtain ⟨q14, eq14, hh⟩ := bi_bd hh
      refine go_ivI (pc := 152) rfl rfl (gX9_lessen eq14) (Nat.le_of_ble_eq_true rfl) (bi_up (sX9_lessen eq14) (Nat.le_of_ble_eq_true rfl)) ?_
      refine go_is (pc := 155) rfl ?_
      refine go_il (pc := 157) rfl (bi_k1 (bi_k1 (bi_k1 (bi_k1 (bi_k1 (bi_k1 l6 rfl rfl) rfl rfl) rfl rfl) rfl rfl) rfl rfl) rfl rfl) ?_
      refine bi_ite hh (fun hc hh => ?_) (fun hc hh => ?_)
      · refine go_ifneT (pc := 159) rfl hc ?_
        exact sX9_goOn_179 R6 R24 (bi_k1 (bi_k1 (bi_k1 (bi_k1 (bi_k1 (bi_k1 l0 rfl rfl) rfl rfl) rfl rfl) rfl rfl) rfl rfl) rfl rfl) (bi_k1 (bi_k1 (bi_k1 (bi_k1 (bi_k1 (bi_k1 l1 rfl rfl) rfl rfl) rfl rfl) rfl rfl) rfl rfl) rfl rfl) (bi_k1 (bi_k1 (bi_k1 (bi_k1 (bi_k1 (bi_k1 l2 rfl rfl) rfl rfl) rfl rfl) rfl rfl) rfl rfl) rfl rfl) (bi_k1 (bi_k1 (bi_k1 (bi_k1 (bi_k1 (bi_k1 l3 rfl rfl) rfl rfl) rfl rfl) rfl rfl) rfl rfl) rfl rfl) (bi_k1 (bi_k1 (bi_k1 (bi_k1 (bi_k1 (bi_k1 l4 rfl rfl) rfl rfl) rfl rfl) rfl rfl) rfl rfl) rfl rfl) (bi_k1 (bi_k1 (bi_k1 (bi_k1 (bi_k1 (bi_k1 l5 rfl rfl) rfl rfl) rfl rfl) rfl rfl) rfl rfl) rfl rfl) (bi_k1 (bi_k1 (bi_k1 (bi_k1 (bi_k1 (bi_k1 l7 rfl rfl) rfl rfl) rfl rfl) rfl rfl) rfl rfl) rfl rfl) (bi_k1 (bi_k1 (bi_k1 (bi_k1 (bi_k1 (bi_k1 l8 rfl rfl) rfl rfl) rfl rfl) rfl rfl) rfl rfl) rfl rfl) hh
      · refine go_ifneF (pc := 159) rfl hc ?_
        refine go_il (pc := 162) rfl (bi_k1 (bi_k1 (bi_k1 (bi_k1 (bi_k1 bi_e1 rfl rfl) rfl rfl) rfl rfl) rfl rfl) rfl rfl) ?_
        refine go_il (pc := 164) rfl (bi_k1 (bi_k1 (bi_k1 (bi_k1 (bi_k1 (bi_k1 l4 rfl rfl) rfl rfl) rfl rfl) rfl rfl) rfl rfl) rfl rfl) ?_
        refine bi_ite hh (fun hc hh => ?_) (fun hc hh => ?_)
        · refine go_cmpneT (pc := 166) rfl hc ?_
          exact sX9_goOn_183 R6 R24 (bi_k1 (bi_k1 (bi_k1 (bi_k1 (bi_k1 (bi_k1 l0 rfl rfl) rfl rfl) rfl rfl) rfl rfl) rfl rfl) rfl rfl) (bi_k1 (bi_k1 (bi_k1 (bi_k1 (bi_k1 (bi_k1 l1 rfl rfl) rfl rfl) rfl rfl) rfl rfl) rfl rfl) rfl rfl) (bi_k1 (bi_k1 (bi_k1 (bi_k1 (bi_k1 (bi_k1 l2 rfl rfl) rfl rfl) rfl rfl) rfl rfl) rfl rfl) rfl rfl) (bi_k1 (bi_k1 (bi_k1 (bi_k1 (bi_k1 (bi_k1 l3 rfl rfl) rfl rfl) rfl rfl) rfl rfl) rfl rfl) rfl rfl) (bi_k1 (bi_k1 (bi_k1 (bi_k1 (bi_k1 (bi_k1 l4 rfl rfl) rfl rfl) rfl rfl) rfl rfl) rfl rfl) rfl rfl) (bi_k1 (bi_k1 (bi_k1 (bi_k1 (bi_k1 (bi_k1 l5 rfl rfl) rfl rfl) rfl rfl) rfl rfl) rfl rfl) rfl rfl) (bi_k1 (bi_k1 (bi_k1 (bi_k1 (bi_k1 (bi_k1 l7 rfl rfl) rfl rfl) rfl rfl) rfl rfl) rfl rfl) rfl rfl) (bi_k1 (bi_k1 (bi_k1 (bi_k1 (bi_k1 (bi_k1 l8 rfl rfl) rfl rfl) rfl rfl) rfl rfl) rfl rfl) rfl rfl) hh
        · refine go_cmpneF (pc := 166) rfl hc ?_
          refine go_il (pc := 169) rfl (bi_k1 bi_e1 rfl rfl) ?_
          refine bi_ite hh (fun hc hh => ?_) (fun hc hh => ?_)
          · refine go_ifneT (pc := 171) rfl hc ?_
            exact sX9_goOn_179 R6 R24 (bi_k1 (bi_k1 (bi_k1 (bi_k1 (bi_k1 (bi_k1 l0 rfl rfl) rfl rfl) rfl rfl) rfl rfl) rfl rfl) rfl rfl) (bi_k1 (bi_k1 (bi_k1 (bi_k1 (bi_k1 (bi_k1 l1 rfl rfl) rfl rfl) rfl rfl) rfl rfl) rfl rfl) rfl rfl) (bi_k1 (bi_k1 (bi_k1 (bi_k1 (bi_k1 (bi_k1 l2 rfl rfl) rfl rfl) rfl rfl) rfl rfl) rfl rfl) rfl rfl) (bi_k1 (bi_k1 (bi_k1 (bi_k1 (bi_k1 (bi_k1 l3 rfl rfl) rfl rfl) rfl rfl) rfl rfl) rfl rfl) rfl rfl) (bi_k1 (bi_k1 (bi_k1 (bi_k1 (bi_k1 (bi_k1 l4 rfl rfl) rfl rfl) rfl rfl) rfl rfl) rfl rfl) rfl rfl) (bi_k1 (bi_k1 (bi_k1 (bi_k1 (bi_k1 (bi_k1 l5 rfl rfl) rfl rfl) rfl rfl) rfl rfl) rfl rfl) rfl rfl) (bi_k1 (bi_k1 (bi_k1 (bi_k1 (bi_k1 (bi_k1 l7 rfl rfl) rfl rfl) rfl rfl) rfl rfl) rfl rfl) rfl rfl) (bi_k1 (bi_k1 (bi_k1 (bi_k1 (bi_k1 (bi_k1 l8 rfl rfl) rfl rfl) rfl rfl) rfl rfl) rfl rfl) rfl rfl) hh
          · refine go_ifneF (pc := 171) rfl hc ?_
            refine go_il (pc := 174) rfl bi_e1 ?_
            refine bi_ite hh (fun hc hh => ?_) (fun hc hh => ?_)
            · refine go_ifeqT (pc := 176) rfl hc ?_
              exact sX9_goOn_183 R6 R24 (bi_k1 (bi_k1 (bi_k1 (bi_k1 (bi_k1 (bi_k1 l0 rfl rfl) rfl rfl) rfl rfl) rfl rfl) rfl rfl) rfl rfl) (bi_k1 (bi_k1 (bi_k1 (bi_k1 (bi_k1 (bi_k1 l1 rfl rfl) rfl rfl) rfl rfl) rfl rfl) rfl rfl) rfl rfl) (bi_k1 (bi_k1 (bi_k1 (bi_k1 (bi_k1 (bi_k1 l2 rfl rfl) rfl rfl) rfl rfl) rfl rfl) rfl rfl) rfl rfl) (bi_k1 (bi_k1 (bi_k1 (bi_k1 (bi_k1 (bi_k1 l3 rfl rfl) rfl rfl) rfl rfl) rfl rfl) rfl rfl) rfl rfl) (bi_k1 (bi_k1 (bi_k1 (bi_k1 (bi_k1 (bi_k1 l4 rfl rfl) rfl rfl) rfl rfl) rfl rfl) rfl rfl) rfl rfl) (bi_k1 (bi_k1 (bi_k1 (bi_k1 (bi_k1 (bi_k1 l5 rfl rfl) rfl rfl) rfl rfl) rfl rfl) rfl rfl) rfl rfl) (bi_k1 (bi_k1 (bi_k1 (bi_k1 (bi_k1 (bi_k1 l7 rfl rfl) rfl rfl) rfl rfl) rfl rfl) rfl rfl) rfl rfl) (bi_k1 (bi_k1 (bi_k1 (bi_k1 (bi_k1 (bi_k1 l8 rfl rfl) rfl rfl) rfl rfl) rfl rfl) rfl rfl) rfl rfl) hh
            · refine go_ifeqF (pc := 176) rfl hc ?_
              exact sX9_goOn_179 R6 R24 (bi_k1 (bi_k1 (bi_k1 (bi_k1 (bi_k1 (bi_k1 l0 rfl rfl) rfl rfl) rfl rfl) rfl rfl) rfl rfl) rfl rfl) (bi_k1 (bi_k1 (bi_k1 (bi_k1 (bi_k1 (bi_k1 l1 rfl rfl) rfl rfl) rfl rfl) rfl rfl) rfl rfl) rfl rfl) (bi_k1 (bi_k1 (bi_k1 (bi_k1 (bi_k1 (bi_k1 l2 rfl rfl) rfl rfl) rfl rfl) rfl rfl) rfl rfl) rfl rfl) (bi_k1 (bi_k1 (bi_k1 (bi_k1 (bi_k1 (bi_k1 l3 rfl rfl) rfl rfl) rfl rfl) rfl rfl) rfl rfl) rfl rfl) (bi_k1 (bi_k1 (bi_k1 (bi_k1 (bi_k1 (bi_k1 l4 rfl rfl) rfl rfl) rfl rfl) rfl rfl) rfl rfl) rfl rfl) (bi_k1 (bi_k1 (bi_k1 (bi_k1 (bi_k1 (bi_k1 l5 rfl rfl) rfl rfl) rfl rfl) rfl rfl) rfl rfl) rfl rfl) (bi_k1 (bi_k1 (bi_k1 (bi_k1 (bi_k1 (bi_k1 l7 rfl rfl) rfl rfl) rfl rfl) rfl rfl) rfl rfl) rfl rfl) (bi_k1 (bi_k1 (bi_k1 (bi_k1 (bi_k1 (bi_k1 l8 rfl rfl) rfl rfl) rfl rfl) rfl rfl) rfl rfl) rfl rfl) hh
    · refine go_ifneF (pc := 42) rfl hc ?_
      refine go_goto (pc := 45) rfl ?_
      exact sX9_goOn_186 R6 R24 l0 l1 l2 l3 l4 l5 l6 l7 l8 hh
def fX9_goOn_24 (n : Nat) (r6 : ai_H → Nat → Nat → Int32 → Int32 → Int32 → Int32 → Int32 → Int32 → Option (Unit × ai_H)) : Nat → ai_H → Nat → Nat → Int32 → Int32 → Int32 → Int32 → Int32 → Int32 → Int32 → Option (Unit × ai_H)
  | 0 => fun _ _ _ _ _ _ _ _ _ _ => none
  | k + 1 => fun h v0 v1 v2 v3 v4 v5 v6 v7 v8 => fX9_goOn_24b n r6 (fX9_goOn_24 n r6 k) h v0 v1 v2 v3 v4 v5 v6 v7 v8
theorem sX9_goOn_24 {n : Nat} {r6 : ai_H → Nat → Nat → Int32 → Int32 → Int32 → Int32 → Int32 → Int32 → Option (Unit × ai_H)} {q : Unit × ai_H} (R6 : ∀ (h : ai_H) (v0 : Nat) (v1 : Nat) (v2 : Int32) (v3 : Int32) (v4 : Int32) (v5 : Int32) (v6 : Int32) (v7 : Int32) (lv : ai_L), ai_ld 0 lv = some (.ref v0) → ai_ld 1 lv = some (.ref v1) → ai_ld 2 lv = some (.int v2) → ai_ld 3 lv = some (.int v3) → ai_ld 4 lv = some (.int v4) → ai_ld 5 lv = some (.int v5) → ai_ld 6 lv = some (.int v6) → ai_ld 7 lv = some (.int v7) → r6 h v0 v1 v2 v3 v4 v5 v6 v7 = some q → bi_go 1 tX9_goOn n (fV n q) 6 lv [] h) : ∀ (k : Nat) (h : ai_H) (v0 : Nat) (v1 : Nat) (v2 : Int32) (v3 : Int32) (v4 : Int32) (v5 : Int32) (v6 : Int32) (v7 : Int32) (v8 : Int32) (lv : ai_L), ai_ld 0 lv = some (.ref v0) → ai_ld 1 lv = some (.ref v1) → ai_ld 2 lv = some (.int v2) → ai_ld 3 lv = some (.int v3) → ai_ld 4 lv = some (.int v4) → ai_ld 5 lv = some (.int v5) → ai_ld 6 lv = some (.int v6) → ai_ld 7 lv = some (.int v7) → ai_ld 8 lv = some (.int v8) → fX9_goOn_24 n r6 k h v0 v1 v2 v3 v4 v5 v6 v7 v8 = some q → bi_go 1 tX9_goOn n (fV n q) 24 lv [] h
  | 0 => fun _ _ _ _ _ _ _ _ _ _ _ _ _ _ _ _ _ _ _ _ hh => by cases hh
  | k + 1 => fun h v0 v1 v2 v3 v4 v5 v6 v7 v8 lv l0 l1 l2 l3 l4 l5 l6 l7 l8 hh => sX9_goOn_24b R6 (sX9_goOn_24 R6 k) l0 l1 l2 l3 l4 l5 l6 l7 l8 hh
def fX9_goOn_6b (n : Nat) (r6 : ai_H → Nat → Nat → Int32 → Int32 → Int32 → Int32 → Int32 → Int32 → Option (Unit × ai_H)) (h : ai_H) (v0 : Nat) (v1 : Nat) (v2 : Int32) (v3 : Int32) (v4 : Int32) (v5 : Int32) (v6 : Int32) (v7 : Int32) : Option (Unit × ai_H) :=
  if (7 : Int32) ≤ v7 then (
    some ((), h))
  else (
    if v6 = 0 then (
      some ((), h))
    else (
      fX9_goOn_24 n r6 bi_K h v0 v1 v2 v3 v4 v5 (0 : Int32) v7 (0 : Int32)))
theorem sX9_goOn_6b {n : Nat} {r6 : ai_H → Nat → Nat → Int32 → Int32 → Int32 → Int32 → Int32 → Int32 → Option (Unit × ai_H)} {q : Unit × ai_H} {h : ai_H} {v0 : Nat} {v1 : Nat} {v2 : Int32} {v3 : Int32} {v4 : Int32} {v5 : Int32} {v6 : Int32} {v7 : Int32} {lv : ai_L} (R6 : ∀ (h : ai_H) (v0 : Nat) (v1 : Nat) (v2 : Int32) (v3 : Int32) (v4 : Int32) (v5 : Int32) (v6 : Int32) (v7 : Int32) (lv : ai_L), ai_ld 0 lv = some (.ref v0) → ai_ld 1 lv = some (.ref v1) → ai_ld 2 lv = some (.int v2) → ai_ld 3 lv = some (.int v3) → ai_ld 4 lv = some (.int v4) → ai_ld 5 lv = some (.int v5) → ai_ld 6 lv = some (.int v6) → ai_ld 7 lv = some (.int v7) → r6 h v0 v1 v2 v3 v4 v5 v6 v7 = some q → bi_go 1 tX9_goOn n (fV n q) 6 lv [] h) (l0 : ai_ld 0 lv = some (.ref v0)) (l1 : ai_ld 1 lv = some (.ref v1)) (l2 : ai_ld 2 lv = some (.int v2)) (l3 : ai_ld 3 lv = some (.int v3)) (l4 : ai_ld 4 lv = some (.int v4)) (l5 : ai_ld 5 lv = some (.int v5)) (l6 : ai_ld 6 lv = some (.int v6)) (l7 : ai_ld 7 lv = some (.int v7)) (hh : fX9_goOn_6b n r6 h v0 v1 v2 v3 v4 v5 v6 v7 = some q) : bi_go 1 tX9_goOn n (fV n q) 6 lv [] h := by
  unfold fX9_goOn_6b at hh
  refine go_il (pc := 6) rfl l7 ?_
  refine go_pi (pc := 8) rfl ?_
  refine bi_ite hh (fun hc hh => ?_) (fun hc hh => ?_)
  · refine go_cmpgeT (pc := 10) rfl hc ?_
    exact go_rv (pc := 198) rfl hh
  · refine go_cmpgeF (pc := 10) rfl hc ?_
    refine go_il (pc := 13) rfl l6 ?_
    refine bi_ite hh (fun hc hh => ?_) (fun hc hh => ?_)
    · refine go_ifeqT (pc := 15) rfl hc ?_
      exact go_rv (pc := 198) rfl hh
    · refine go_ifeqF (pc := 15) rfl hc ?_
      refine go_pi (pc := 18) rfl ?_
      refine go_is (pc := 19) rfl ?_
      refine go_pi (pc := 21) rfl ?_
      refine go_is (pc := 22) rfl ?_
      exact sX9_goOn_24 R6 _ _ _ _ _ _ _ _ _ _ _ _ (bi_k1 (bi_k1 l0 rfl rfl) rfl rfl) (bi_k1 (bi_k1 l1 rfl rfl) rfl rfl) (bi_k1 (bi_k1 l2 rfl rfl) rfl rfl) (bi_k1 (bi_k1 l3 rfl rfl) rfl rfl) (bi_k1 (bi_k1 l4 rfl rfl) rfl rfl) (bi_k1 (bi_k1 l5 rfl rfl) rfl rfl) (bi_k1 bi_e1 rfl rfl) (bi_k1 (bi_k1 l7 rfl rfl) rfl rfl) bi_e1 hh
def fX9_goOn_6 (n : Nat) : Nat → ai_H → Nat → Nat → Int32 → Int32 → Int32 → Int32 → Int32 → Int32 → Option (Unit × ai_H)
  | 0 => fun _ _ _ _ _ _ _ _ _ => none
  | k + 1 => fun h v0 v1 v2 v3 v4 v5 v6 v7 => fX9_goOn_6b n (fX9_goOn_6 n k) h v0 v1 v2 v3 v4 v5 v6 v7
theorem sX9_goOn_6 {n : Nat} {q : Unit × ai_H} : ∀ (k : Nat) (h : ai_H) (v0 : Nat) (v1 : Nat) (v2 : Int32) (v3 : Int32) (v4 : Int32) (v5 : Int32) (v6 : Int32) (v7 : Int32) (lv : ai_L), ai_ld 0 lv = some (.ref v0) → ai_ld 1 lv = some (.ref v1) → ai_ld 2 lv = some (.int v2) → ai_ld 3 lv = some (.int v3) → ai_ld 4 lv = some (.int v4) → ai_ld 5 lv = some (.int v5) → ai_ld 6 lv = some (.int v6) → ai_ld 7 lv = some (.int v7) → fX9_goOn_6 n k h v0 v1 v2 v3 v4 v5 v6 v7 = some q → bi_go 1 tX9_goOn n (fV n q) 6 lv [] h
  | 0 => fun _ _ _ _ _ _ _ _ _ _ _ _ _ _ _ _ _ _ hh => by cases hh
  | k + 1 => fun h v0 v1 v2 v3 v4 v5 v6 v7 lv l0 l1 l2 l3 l4 l5 l6 l7 hh => sX9_goOn_6b  (sX9_goOn_6  k) l0 l1 l2 l3 l4 l5 l6 l7 hh
def fX9_goOn (n : Nat) (h : ai_H) (a0 : Nat) (a1 : Nat) (a2 : Int32) (a3 : Int32) (a4 : Int32) (a5 : Int32) : Option (Unit × ai_H) :=
  (kO n h a0 9).bind fun _ =>
  fX9_goOn_6 n bi_K h a0 a1 a2 a3 a4 a5 (1 : Int32) (0 : Int32)
theorem gX9_goOn {n : Nat} {h : ai_H} {a0 : Nat} {a1 : Nat} {a2 : Int32} {a3 : Int32} {a4 : Int32} {a5 : Int32} {q : Unit × ai_H} (hh : fX9_goOn n h a0 a1 a2 a3 a4 a5 = some q) : kO n h a0 9 = some () := by
  obtain ⟨_, e, -⟩ := bi_bd hh
  exact e
theorem sX9_goOn {n : Nat} {h : ai_H} {a0 : Nat} {a1 : Nat} {a2 : Int32} {a3 : Int32} {a4 : Int32} {a5 : Int32} {q : Unit × ai_H} (hh : fX9_goOn n h a0 a1 a2 a3 a4 a5 = some q) : bi_sp 2 84 [.ref a0, .ref a1, .int a2, .int a3, .int a4, .int a5] h n (fV n q) := by
  refine bi_en (D := 1) (T := tX9_goOn) (funext fun pc => rfl) rfl (Nat.le_of_ble_eq_true rfl) ?_
  unfold fX9_goOn at hh
  obtain ⟨_, eO, hh⟩ := bi_bd hh
  refine go_pi (pc := 0) rfl ?_
  refine go_is (pc := 1) rfl ?_
  refine go_pi (pc := 3) rfl ?_
  refine go_is (pc := 4) rfl ?_
  exact sX9_goOn_6  _ _ _ _ _ _ _ _ _ _ _ (bi_k1 (bi_k1 (rfl : ai_ld 0 (lv_args 0 [.ref a0, .ref a1, .int a2, .int a3, .int a4, .int a5]) = some (.ref a0)) rfl rfl) rfl rfl) (bi_k1 (bi_k1 (rfl : ai_ld 1 (lv_args 0 [.ref a0, .ref a1, .int a2, .int a3, .int a4, .int a5]) = some (.ref a1)) rfl rfl) rfl rfl) (bi_k1 (bi_k1 (rfl : ai_ld 2 (lv_args 0 [.ref a0, .ref a1, .int a2, .int a3, .int a4, .int a5]) = some (.int a2)) rfl rfl) rfl rfl) (bi_k1 (bi_k1 (rfl : ai_ld 3 (lv_args 0 [.ref a0, .ref a1, .int a2, .int a3, .int a4, .int a5]) = some (.int a3)) rfl rfl) rfl rfl) (bi_k1 (bi_k1 (rfl : ai_ld 4 (lv_args 0 [.ref a0, .ref a1, .int a2, .int a3, .int a4, .int a5]) = some (.int a4)) rfl rfl) rfl rfl) (bi_k1 (bi_k1 (rfl : ai_ld 5 (lv_args 0 [.ref a0, .ref a1, .int a2, .int a3, .int a4, .int a5]) = some (.int a5)) rfl rfl) rfl rfl) (bi_k1 bi_e1 rfl rfl) bi_e1 hh
def fX9_leastRound_131 (n : Nat) (r101 : ai_H → Nat → Nat → Int32 → Int32 → Int32 → Int32 → Int32 → Option (Int32 × ai_H)) (h : ai_H) (v0 : Nat) (v1 : Nat) (v4 : Int32) (v5 : Int32) (v6 : Int32) (v7 : Int32) (v9 : Int32) : Option (Int32 × ai_H) :=
  r101 h v0 v1 v4 v5 v6 v7 (v9 + 1)
theorem sX9_leastRound_131 {n : Nat} {r101 : ai_H → Nat → Nat → Int32 → Int32 → Int32 → Int32 → Int32 → Option (Int32 × ai_H)} {q : Int32 × ai_H} {h : ai_H} {v0 : Nat} {v1 : Nat} {v4 : Int32} {v5 : Int32} {v6 : Int32} {v7 : Int32} {v9 : Int32} {lv : ai_L} (R101 : ∀ (h : ai_H) (v0 : Nat) (v1 : Nat) (v4 : Int32) (v5 : Int32) (v6 : Int32) (v7 : Int32) (v9 : Int32) (lv : ai_L), ai_ld 0 lv = some (.ref v0) → ai_ld 1 lv = some (.ref v1) → ai_ld 4 lv = some (.int v4) → ai_ld 5 lv = some (.int v5) → ai_ld 6 lv = some (.int v6) → ai_ld 7 lv = some (.int v7) → ai_ld 9 lv = some (.int v9) → r101 h v0 v1 v4 v5 v6 v7 v9 = some q → bi_go 2 tX9_leastRound n (fI n q) 101 lv [] h) (l0 : ai_ld 0 lv = some (.ref v0)) (l1 : ai_ld 1 lv = some (.ref v1)) (l4 : ai_ld 4 lv = some (.int v4)) (l5 : ai_ld 5 lv = some (.int v5)) (l6 : ai_ld 6 lv = some (.int v6)) (l7 : ai_ld 7 lv = some (.int v7)) (l9 : ai_ld 9 lv = some (.int v9)) (hh : fX9_leastRound_131 n r101 h v0 v1 v4 v5 v6 v7 v9 = some q) : bi_go 2 tX9_leastRound n (fI n q) 131 lv [] h := by
  unfold fX9_leastRound_131 at hh
  refine go_inc (pc := 131) rfl l9 ?_
  refine go_goto (pc := 134) rfl ?_
  exact R101 _ _ _ _ _ _ _ _ _ (bi_k1 l0 rfl rfl) (bi_k1 l1 rfl rfl) (bi_k1 l4 rfl rfl) (bi_k1 l5 rfl rfl) (bi_k1 l6 rfl rfl) (bi_k1 l7 rfl rfl) bi_e1 hh
def fX9_leastRound_144b (n : Nat) (r144 : ai_H → Nat → Nat → Int32 → Int32 → Int32 → Int32 → Option (Int32 × ai_H)) (h : ai_H) (v0 : Nat) (v1 : Nat) (v4 : Int32) (v5 : Int32) (v9 : Int32) (v10 : Int32) : Option (Int32 × ai_H) :=
  (pR n h v1 8 0).bind fun x1 =>
  (pI n h x1 6 4).bind fun x2 =>
  if x2 ≤ v10 then (
    if v9 < (1000000 : Int32) then (
      if v5 = 0 then (
        some (v9, h))
      else (
        some (v9 >>> ((7 : Int32) &&& 31), h)))
    else (
      some ((-2 : Int32), h)))
  else (
    (pR n h v0 9 1).bind fun x3 =>
    (gX 1 n h x3 (((7 : Int32) * v4) + v10)).bind fun x4 =>
    r144 h v0 v1 v4 v5 (if x4 < v9 then x4 else v9) (v10 + 1))
theorem sX9_leastRound_144b {n : Nat} {r144 : ai_H → Nat → Nat → Int32 → Int32 → Int32 → Int32 → Option (Int32 × ai_H)} {q : Int32 × ai_H} {h : ai_H} {v0 : Nat} {v1 : Nat} {v4 : Int32} {v5 : Int32} {v9 : Int32} {v10 : Int32} {lv : ai_L} (R144 : ∀ (h : ai_H) (v0 : Nat) (v1 : Nat) (v4 : Int32) (v5 : Int32) (v9 : Int32) (v10 : Int32) (lv : ai_L), ai_ld 0 lv = some (.ref v0) → ai_ld 1 lv = some (.ref v1) → ai_ld 4 lv = some (.int v4) → ai_ld 5 lv = some (.int v5) → ai_ld 9 lv = some (.int v9) → ai_ld 10 lv = some (.int v10) → r144 h v0 v1 v4 v5 v9 v10 = some q → bi_go 2 tX9_leastRound n (fI n q) 144 lv [] h) (l0 : ai_ld 0 lv = some (.ref v0)) (l1 : ai_ld 1 lv = some (.ref v1)) (l4 : ai_ld 4 lv = some (.int v4)) (l5 : ai_ld 5 lv = some (.int v5)) (l9 : ai_ld 9 lv = some (.int v9)) (l10 : ai_ld 10 lv = some (.int v10)) (hh : fX9_leastRound_144b n r144 h v0 v1 v4 v5 v9 v10 = some q) : bi_go 2 tX9_leastRound n (fI n q) 144 lv [] h := by
  unfold fX9_leastRound_144b at hh
  refine go_il (pc := 144) rfl l10 ?_
  refine go_al (pc := 146) rfl l1 ?_
  obtain ⟨x1, ex1, hh⟩ := bi_bd hh
  refine go_gfR (pc := 147) rfl ex1 ?_
  obtain ⟨x2, ex2, hh⟩ := bi_bd hh
  refine go_gfI (pc := 150) rfl ex2 ?_
  refine bi_ite hh (fun hc hh => ?_) (fun hc hh => ?_)
  · refine go_cmpgeT (pc := 153) rfl hc ?_
    refine go_il (pc := 182) rfl l9 ?_
    refine go_pi (pc := 184) rfl ?_
    refine bi_ite hh (fun hc hh => ?_) (fun hc hh => ?_)
    · refine go_cmpltT (pc := 186) rfl hc ?_
      refine go_il (pc := 192) rfl l5 ?_
      refine bi_ite hh (fun hc hh => ?_) (fun hc hh => ?_)
      · refine go_ifeqT (pc := 194) rfl hc ?_
        refine go_il (pc := 205) rfl l9 ?_
        exact go_ri (pc := 207) rfl hh
      · refine go_ifeqF (pc := 194) rfl hc ?_
        refine go_il (pc := 197) rfl l9 ?_
        refine go_pi (pc := 199) rfl ?_
        refine go_ishr (pc := 201) rfl ?_
        refine go_goto (pc := 202) rfl ?_
        exact go_ri (pc := 207) rfl hh
    · refine go_cmpltF (pc := 186) rfl hc ?_
      refine go_pi (pc := 189) rfl ?_
      exact go_ri (pc := 191) rfl hh
  · refine go_cmpgeF (pc := 153) rfl hc ?_
    refine go_il (pc := 156) rfl l9 ?_
    refine go_al (pc := 158) rfl l0 ?_
    obtain ⟨x3, ex3, hh⟩ := bi_bd hh
    refine go_gfR (pc := 159) rfl ex3 ?_
    refine go_pi (pc := 162) rfl ?_
    refine go_il (pc := 164) rfl l4 ?_
    refine go_imul (pc := 166) rfl ?_
    refine go_il (pc := 167) rfl l10 ?_
    refine go_iadd (pc := 169) rfl ?_
    obtain ⟨x4, ex4, hh⟩ := bi_bd hh
    refine go_iald (pc := 170) rfl ex4 ?_
    refine go_imin (pc := 171) rfl (Nat.le_of_ble_eq_true rfl) ?_
    refine go_is (pc := 174) rfl ?_
    refine go_inc (pc := 176) rfl (bi_k1 l10 rfl rfl) ?_
    refine go_goto (pc := 179) rfl ?_
    exact R144 _ _ _ _ _ _ _ _ (bi_k1 (bi_k1 l0 rfl rfl) rfl rfl) (bi_k1 (bi_k1 l1 rfl rfl) rfl rfl) (bi_k1 (bi_k1 l4 rfl rfl) rfl rfl) (bi_k1 (bi_k1 l5 rfl rfl) rfl rfl) (bi_k1 bi_e1 rfl rfl) bi_e1 hh
def fX9_leastRound_144 (n : Nat) : Nat → ai_H → Nat → Nat → Int32 → Int32 → Int32 → Int32 → Option (Int32 × ai_H)
  | 0 => fun _ _ _ _ _ _ _ => none
  | k + 1 => fun h v0 v1 v4 v5 v9 v10 => fX9_leastRound_144b n (fX9_leastRound_144 n k) h v0 v1 v4 v5 v9 v10
theorem sX9_leastRound_144 {n : Nat} {q : Int32 × ai_H} : ∀ (k : Nat) (h : ai_H) (v0 : Nat) (v1 : Nat) (v4 : Int32) (v5 : Int32) (v9 : Int32) (v10 : Int32) (lv : ai_L), ai_ld 0 lv = some (.ref v0) → ai_ld 1 lv = some (.ref v1) → ai_ld 4 lv = some (.int v4) → ai_ld 5 lv = some (.int v5) → ai_ld 9 lv = some (.int v9) → ai_ld 10 lv = some (.int v10) → fX9_leastRound_144 n k h v0 v1 v4 v5 v9 v10 = some q → bi_go 2 tX9_leastRound n (fI n q) 144 lv [] h
  | 0 => fun _ _ _ _ _ _ _ _ _ _ _ _ _ _ hh => by cases hh
  | k + 1 => fun h v0 v1 v4 v5 v9 v10 lv l0 l1 l4 l5 l9 l10 hh => sX9_leastRound_144b  (sX9_leastRound_144  k) l0 l1 l4 l5 l9 l10 hh
def fX9_leastRound_101b (n : Nat) (r101 : ai_H → Nat → Nat → Int32 → Int32 → Int32 → Int32 → Int32 → Option (Int32 × ai_H)) (h : ai_H) (v0 : Nat) (v1 : Nat) (v4 : Int32) (v5 : Int32) (v6 : Int32) (v7 : Int32) (v9 : Int32) : Option (Int32 × ai_H) :=
  if v4 < v9 then (
    fX9_leastRound_144 n bi_K h v0 v1 v4 v5 (1000000 : Int32) (0 : Int32))
  else (
    if ¬ (v9 &&& (v4 ^^^ (-1 : Int32))) = 0 then (
      fX9_leastRound_131 n r101 h v0 v1 v4 v5 v6 v7 v9)
    else (
      (fX9_goOn n h v0 v1 v6 v4 v9 v7).bind fun q1 =>
      fX9_leastRound_131 n r101 q1.2 v0 v1 v4 v5 v6 v7 v9))
theorem sX9_leastRound_101b {n : Nat} {r101 : ai_H → Nat → Nat → Int32 → Int32 → Int32 → Int32 → Int32 → Option (Int32 × ai_H)} {q : Int32 × ai_H} {h : ai_H} {v0 : Nat} {v1 : Nat} {v4 : Int32} {v5 : Int32} {v6 : Int32} {v7 : Int32} {v9 : Int32} {lv : ai_L} (R101 : ∀ (h : ai_H) (v0 : Nat) (v1 : Nat) (v4 : Int32) (v5 : Int32) (v6 : Int32) (v7 : Int32) (v9 : Int32) (lv : ai_L), ai_ld 0 lv = some (.ref v0) → ai_ld 1 lv = some (.ref v1) → ai_ld 4 lv = some (.int v4) → ai_ld 5 lv = some (.int v5) → ai_ld 6 lv = some (.int v6) → ai_ld 7 lv = some (.int v7) → ai_ld 9 lv = some (.int v9) → r101 h v0 v1 v4 v5 v6 v7 v9 = some q → bi_go 2 tX9_leastRound n (fI n q) 101 lv [] h) (l0 : ai_ld 0 lv = some (.ref v0)) (l1 : ai_ld 1 lv = some (.ref v1)) (l4 : ai_ld 4 lv = some (.int v4)) (l5 : ai_ld 5 lv = some (.int v5)) (l6 : ai_ld 6 lv = some (.int v6)) (l7 : ai_ld 7 lv = some (.int v7)) (l9 : ai_ld 9 lv = some (.int v9)) (hh : fX9_leastRound_101b n r101 h v0 v1 v4 v5 v6 v7 v9 = some q) : bi_go 2 tX9_leastRound n (fI n q) 101 lv [] h := by
  unfold fX9_leastRound_101b at hh
  refine go_il (pc := 101) rfl l9 ?_
  refine go_il (pc := 103) rfl l4 ?_
  refine bi_ite hh (fun hc hh => ?_) (fun hc hh => ?_)
  · refine go_cmpgtT (pc := 105) rfl hc ?_
    refine go_pi (pc := 137) rfl ?_
    refine go_is (pc := 139) rfl ?_
    refine go_pi (pc := 141) rfl ?_
    refine go_is (pc := 142) rfl ?_
    exact sX9_leastRound_144  _ _ _ _ _ _ _ _ _ (bi_k1 (bi_k1 l0 rfl rfl) rfl rfl) (bi_k1 (bi_k1 l1 rfl rfl) rfl rfl) (bi_k1 (bi_k1 l4 rfl rfl) rfl rfl) (bi_k1 (bi_k1 l5 rfl rfl) rfl rfl) (bi_k1 bi_e1 rfl rfl) bi_e1 hh
  · refine go_cmpgtF (pc := 105) rfl hc ?_
    refine go_il (pc := 108) rfl l9 ?_
    refine go_il (pc := 110) rfl l4 ?_
    refine go_pi (pc := 112) rfl ?_
    refine go_ixor (pc := 113) rfl ?_
    refine go_iand (pc := 114) rfl ?_
    refine bi_ite hh (fun hc hh => ?_) (fun hc hh => ?_)
    · refine go_ifneT (pc := 115) rfl hc ?_
      exact sX9_leastRound_131 R101 l0 l1 l4 l5 l6 l7 l9 hh
    · refine go_ifneF (pc := 115) rfl hc ?_
      refine go_al (pc := 118) rfl l0 ?_
      refine go_al (pc := 119) rfl l1 ?_
      refine go_il (pc := 120) rfl l6 ?_
      refine go_il (pc := 122) rfl l4 ?_
      refine go_il (pc := 124) rfl l9 ?_
      refine go_il (pc := 126) rfl l7 ?_
      obtain ⟨q1, eq1, hh⟩ := bi_bd hh
      refine go_ivV (pc := 128) rfl rfl (gX9_goOn eq1) (Nat.le_of_ble_eq_true rfl) (bi_up (sX9_goOn eq1) (Nat.le_of_ble_eq_true rfl)) ?_
      exact sX9_leastRound_131 R101 l0 l1 l4 l5 l6 l7 l9 hh
def fX9_leastRound_101 (n : Nat) : Nat → ai_H → Nat → Nat → Int32 → Int32 → Int32 → Int32 → Int32 → Option (Int32 × ai_H)
  | 0 => fun _ _ _ _ _ _ _ _ => none
  | k + 1 => fun h v0 v1 v4 v5 v6 v7 v9 => fX9_leastRound_101b n (fX9_leastRound_101 n k) h v0 v1 v4 v5 v6 v7 v9
theorem sX9_leastRound_101 {n : Nat} {q : Int32 × ai_H} : ∀ (k : Nat) (h : ai_H) (v0 : Nat) (v1 : Nat) (v4 : Int32) (v5 : Int32) (v6 : Int32) (v7 : Int32) (v9 : Int32) (lv : ai_L), ai_ld 0 lv = some (.ref v0) → ai_ld 1 lv = some (.ref v1) → ai_ld 4 lv = some (.int v4) → ai_ld 5 lv = some (.int v5) → ai_ld 6 lv = some (.int v6) → ai_ld 7 lv = some (.int v7) → ai_ld 9 lv = some (.int v9) → fX9_leastRound_101 n k h v0 v1 v4 v5 v6 v7 v9 = some q → bi_go 2 tX9_leastRound n (fI n q) 101 lv [] h
  | 0 => fun _ _ _ _ _ _ _ _ _ _ _ _ _ _ _ _ hh => by cases hh
  | k + 1 => fun h v0 v1 v4 v5 v6 v7 v9 lv l0 l1 l4 l5 l6 l7 l9 hh => sX9_leastRound_101b  (sX9_leastRound_101  k) l0 l1 l4 l5 l6 l7 l9 hh
def fX9_leastRound_85 (n : Nat) (h : ai_H) (v0 : Nat) (v1 : Nat) (v2 : Nat) (v3 : Int32) (v4 : Int32) (v5 : Int32) (v6 : Int32) (v7 : Int32) : Option (Int32 × ai_H) :=
  (pR n h v0 9 1).bind fun x1 =>
  (pR n h v2 5 7).bind fun x2 =>
  (gX 1 n h x2 v3).bind fun x3 =>
  (wX 1 (fun x => x) n h x1 x3 v7).bind fun h4 =>
  fX9_leastRound_101 n bi_K h4 v0 v1 v4 v5 v6 v7 (0 : Int32)
theorem sX9_leastRound_85 {n : Nat} {q : Int32 × ai_H} {h : ai_H} {v0 : Nat} {v1 : Nat} {v2 : Nat} {v3 : Int32} {v4 : Int32} {v5 : Int32} {v6 : Int32} {v7 : Int32} {lv : ai_L} (l0 : ai_ld 0 lv = some (.ref v0)) (l1 : ai_ld 1 lv = some (.ref v1)) (l2 : ai_ld 2 lv = some (.ref v2)) (l3 : ai_ld 3 lv = some (.int v3)) (l4 : ai_ld 4 lv = some (.int v4)) (l5 : ai_ld 5 lv = some (.int v5)) (l6 : ai_ld 6 lv = some (.int v6)) (l7 : ai_ld 7 lv = some (.int v7)) (hh : fX9_leastRound_85 n h v0 v1 v2 v3 v4 v5 v6 v7 = some q) : bi_go 2 tX9_leastRound n (fI n q) 85 lv [] h := by
  unfold fX9_leastRound_85 at hh
  refine go_al (pc := 85) rfl l0 ?_
  obtain ⟨x1, ex1, hh⟩ := bi_bd hh
  refine go_gfR (pc := 86) rfl ex1 ?_
  refine go_al (pc := 89) rfl l2 ?_
  obtain ⟨x2, ex2, hh⟩ := bi_bd hh
  refine go_gfR (pc := 90) rfl ex2 ?_
  refine go_il (pc := 93) rfl l3 ?_
  obtain ⟨x3, ex3, hh⟩ := bi_bd hh
  refine go_iald (pc := 94) rfl ex3 ?_
  refine go_il (pc := 95) rfl l7 ?_
  obtain ⟨h4, eh4, hh⟩ := bi_bd hh
  refine go_iast (pc := 97) rfl eh4 ?_
  refine go_pi (pc := 98) rfl ?_
  refine go_is (pc := 99) rfl ?_
  exact sX9_leastRound_101  _ _ _ _ _ _ _ _ _ _ (bi_k1 l0 rfl rfl) (bi_k1 l1 rfl rfl) (bi_k1 l4 rfl rfl) (bi_k1 l5 rfl rfl) (bi_k1 l6 rfl rfl) (bi_k1 l7 rfl rfl) bi_e1 hh
def fX9_leastRound_53b (n : Nat) (r53 : ai_H → Nat → Nat → Nat → Int32 → Int32 → Int32 → Int32 → Int32 → Int32 → Int32 → Option (Int32 × ai_H)) (h : ai_H) (v0 : Nat) (v1 : Nat) (v2 : Nat) (v3 : Int32) (v4 : Int32) (v5 : Int32) (v6 : Int32) (v7 : Int32) (v8 : Int32) (v9 : Int32) : Option (Int32 × ai_H) :=
  if v8 ≤ v9 then (
    fX9_leastRound_85 n h v0 v1 v2 v3 v4 v5 v6 v7)
  else (
    (pR n h v0 9 1).bind fun x1 =>
    (lA n h x1).bind fun x2 =>
    if x2 ≤ v9 then (
      fX9_leastRound_85 n h v0 v1 v2 v3 v4 v5 v6 v7)
    else (
      (pR n h v0 9 1).bind fun x3 =>
      (wX 1 (fun x => x) n h x3 v9 (1000000 : Int32)).bind fun h4 =>
      r53 h4 v0 v1 v2 v3 v4 v5 v6 v7 v8 (v9 + 1)))
theorem sX9_leastRound_53b {n : Nat} {r53 : ai_H → Nat → Nat → Nat → Int32 → Int32 → Int32 → Int32 → Int32 → Int32 → Int32 → Option (Int32 × ai_H)} {q : Int32 × ai_H} {h : ai_H} {v0 : Nat} {v1 : Nat} {v2 : Nat} {v3 : Int32} {v4 : Int32} {v5 : Int32} {v6 : Int32} {v7 : Int32} {v8 : Int32} {v9 : Int32} {lv : ai_L} (R53 : ∀ (h : ai_H) (v0 : Nat) (v1 : Nat) (v2 : Nat) (v3 : Int32) (v4 : Int32) (v5 : Int32) (v6 : Int32) (v7 : Int32) (v8 : Int32) (v9 : Int32) (lv : ai_L), ai_ld 0 lv = some (.ref v0) → ai_ld 1 lv = some (.ref v1) → ai_ld 2 lv = some (.ref v2) → ai_ld 3 lv = some (.int v3) → ai_ld 4 lv = some (.int v4) → ai_ld 5 lv = some (.int v5) → ai_ld 6 lv = some (.int v6) → ai_ld 7 lv = some (.int v7) → ai_ld 8 lv = some (.int v8) → ai_ld 9 lv = some (.int v9) → r53 h v0 v1 v2 v3 v4 v5 v6 v7 v8 v9 = some q → bi_go 2 tX9_leastRound n (fI n q) 53 lv [] h) (l0 : ai_ld 0 lv = some (.ref v0)) (l1 : ai_ld 1 lv = some (.ref v1)) (l2 : ai_ld 2 lv = some (.ref v2)) (l3 : ai_ld 3 lv = some (.int v3)) (l4 : ai_ld 4 lv = some (.int v4)) (l5 : ai_ld 5 lv = some (.int v5)) (l6 : ai_ld 6 lv = some (.int v6)) (l7 : ai_ld 7 lv = some (.int v7)) (l8 : ai_ld 8 lv = some (.int v8)) (l9 : ai_ld 9 lv = some (.int v9)) (hh : fX9_leastRound_53b n r53 h v0 v1 v2 v3 v4 v5 v6 v7 v8 v9 = some q) : bi_go 2 tX9_leastRound n (fI n q) 53 lv [] h := by
  unfold fX9_leastRound_53b at hh
  refine go_il (pc := 53) rfl l9 ?_
  refine go_il (pc := 55) rfl l8 ?_
  refine bi_ite hh (fun hc hh => ?_) (fun hc hh => ?_)
  · refine go_cmpgeT (pc := 57) rfl hc ?_
    exact sX9_leastRound_85  l0 l1 l2 l3 l4 l5 l6 l7 hh
  · refine go_cmpgeF (pc := 57) rfl hc ?_
    refine go_il (pc := 60) rfl l9 ?_
    refine go_al (pc := 62) rfl l0 ?_
    obtain ⟨x1, ex1, hh⟩ := bi_bd hh
    refine go_gfR (pc := 63) rfl ex1 ?_
    obtain ⟨x2, ex2, hh⟩ := bi_bd hh
    refine go_len (pc := 66) rfl ex2 ?_
    refine bi_ite hh (fun hc hh => ?_) (fun hc hh => ?_)
    · refine go_cmpgeT (pc := 67) rfl hc ?_
      exact sX9_leastRound_85  l0 l1 l2 l3 l4 l5 l6 l7 hh
    · refine go_cmpgeF (pc := 67) rfl hc ?_
      refine go_al (pc := 70) rfl l0 ?_
      obtain ⟨x3, ex3, hh⟩ := bi_bd hh
      refine go_gfR (pc := 71) rfl ex3 ?_
      refine go_il (pc := 74) rfl l9 ?_
      refine go_pi (pc := 76) rfl ?_
      obtain ⟨h4, eh4, hh⟩ := bi_bd hh
      refine go_iast (pc := 78) rfl eh4 ?_
      refine go_inc (pc := 79) rfl l9 ?_
      refine go_goto (pc := 82) rfl ?_
      exact R53 _ _ _ _ _ _ _ _ _ _ _ _ (bi_k1 l0 rfl rfl) (bi_k1 l1 rfl rfl) (bi_k1 l2 rfl rfl) (bi_k1 l3 rfl rfl) (bi_k1 l4 rfl rfl) (bi_k1 l5 rfl rfl) (bi_k1 l6 rfl rfl) (bi_k1 l7 rfl rfl) (bi_k1 l8 rfl rfl) bi_e1 hh
def fX9_leastRound_53 (n : Nat) : Nat → ai_H → Nat → Nat → Nat → Int32 → Int32 → Int32 → Int32 → Int32 → Int32 → Int32 → Option (Int32 × ai_H)
  | 0 => fun _ _ _ _ _ _ _ _ _ _ _ => none
  | k + 1 => fun h v0 v1 v2 v3 v4 v5 v6 v7 v8 v9 => fX9_leastRound_53b n (fX9_leastRound_53 n k) h v0 v1 v2 v3 v4 v5 v6 v7 v8 v9
theorem sX9_leastRound_53 {n : Nat} {q : Int32 × ai_H} : ∀ (k : Nat) (h : ai_H) (v0 : Nat) (v1 : Nat) (v2 : Nat) (v3 : Int32) (v4 : Int32) (v5 : Int32) (v6 : Int32) (v7 : Int32) (v8 : Int32) (v9 : Int32) (lv : ai_L), ai_ld 0 lv = some (.ref v0) → ai_ld 1 lv = some (.ref v1) → ai_ld 2 lv = some (.ref v2) → ai_ld 3 lv = some (.int v3) → ai_ld 4 lv = some (.int v4) → ai_ld 5 lv = some (.int v5) → ai_ld 6 lv = some (.int v6) → ai_ld 7 lv = some (.int v7) → ai_ld 8 lv = some (.int v8) → ai_ld 9 lv = some (.int v9) → fX9_leastRound_53 n k h v0 v1 v2 v3 v4 v5 v6 v7 v8 v9 = some q → bi_go 2 tX9_leastRound n (fI n q) 53 lv [] h
  | 0 => fun _ _ _ _ _ _ _ _ _ _ _ _ _ _ _ _ _ _ _ _ _ _ hh => by cases hh
  | k + 1 => fun h v0 v1 v2 v3 v4 v5 v6 v7 v8 v9 lv l0 l1 l2 l3 l4 l5 l6 l7 l8 l9 hh => sX9_leastRound_53b  (sX9_leastRound_53  k) l0 l1 l2 l3 l4 l5 l6 l7 l8 l9 hh
def fX9_leastRound_39 (n : Nat) (h : ai_H) (v0 : Nat) (v1 : Nat) (v2 : Nat) (v3 : Int32) (v4 : Int32) (v5 : Int32) (v6 : Int32) (s0 : Int32) : Option (Int32 × ai_H) :=
  fX9_leastRound_53 n bi_K h v0 v1 v2 v3 v4 v5 v6 s0 ((7 : Int32) * (v4 + (1 : Int32))) (0 : Int32)
theorem sX9_leastRound_39 {n : Nat} {q : Int32 × ai_H} {h : ai_H} {v0 : Nat} {v1 : Nat} {v2 : Nat} {v3 : Int32} {v4 : Int32} {v5 : Int32} {v6 : Int32} {s0 : Int32} {lv : ai_L} (l0 : ai_ld 0 lv = some (.ref v0)) (l1 : ai_ld 1 lv = some (.ref v1)) (l2 : ai_ld 2 lv = some (.ref v2)) (l3 : ai_ld 3 lv = some (.int v3)) (l4 : ai_ld 4 lv = some (.int v4)) (l5 : ai_ld 5 lv = some (.int v5)) (l6 : ai_ld 6 lv = some (.int v6)) (hh : fX9_leastRound_39 n h v0 v1 v2 v3 v4 v5 v6 s0 = some q) : bi_go 2 tX9_leastRound n (fI n q) 39 lv [.int s0] h := by
  unfold fX9_leastRound_39 at hh
  refine go_is (pc := 39) rfl ?_
  refine go_pi (pc := 41) rfl ?_
  refine go_il (pc := 43) rfl (bi_k1 l4 rfl rfl) ?_
  refine go_pi (pc := 45) rfl ?_
  refine go_iadd (pc := 46) rfl ?_
  refine go_imul (pc := 47) rfl ?_
  refine go_is (pc := 48) rfl ?_
  refine go_pi (pc := 50) rfl ?_
  refine go_is (pc := 51) rfl ?_
  exact sX9_leastRound_53  _ _ _ _ _ _ _ _ _ _ _ _ _ (bi_k1 (bi_k1 (bi_k1 l0 rfl rfl) rfl rfl) rfl rfl) (bi_k1 (bi_k1 (bi_k1 l1 rfl rfl) rfl rfl) rfl rfl) (bi_k1 (bi_k1 (bi_k1 l2 rfl rfl) rfl rfl) rfl rfl) (bi_k1 (bi_k1 (bi_k1 l3 rfl rfl) rfl rfl) rfl rfl) (bi_k1 (bi_k1 (bi_k1 l4 rfl rfl) rfl rfl) rfl rfl) (bi_k1 (bi_k1 (bi_k1 l5 rfl rfl) rfl rfl) rfl rfl) (bi_k1 (bi_k1 (bi_k1 l6 rfl rfl) rfl rfl) rfl rfl) (bi_k1 (bi_k1 bi_e1 rfl rfl) rfl rfl) (bi_k1 bi_e1 rfl rfl) bi_e1 hh
def fX9_leastRound (n : Nat) (h : ai_H) (a0 : Nat) (a1 : Nat) (a2 : Nat) (a3 : Int32) (a4 : Int32) (a5 : Int32) : Option (Int32 × ai_H) :=
  (kO n h a0 9).bind fun _ =>
  (fX9_openFor n h a1 a2 a3).bind fun q1 =>
  if (a4 &&& (q1.1 ^^^ (-1 : Int32))) = 0 then (
    if a5 = 0 then (
      fX9_leastRound_39 n q1.2 a0 a1 a2 a3 a4 a5 q1.1 (0 : Int32))
    else (
      (pR n q1.2 a1 8 2).bind fun x2 =>
      (fX6_cell n q1.2 x2 a3 (2 : Int32)).bind fun q3 =>
      fX9_leastRound_39 n q3.2 a0 a1 a2 a3 a4 a5 q1.1 q3.1))
  else (
    some ((-2 : Int32), q1.2))
theorem gX9_leastRound {n : Nat} {h : ai_H} {a0 : Nat} {a1 : Nat} {a2 : Nat} {a3 : Int32} {a4 : Int32} {a5 : Int32} {q : Int32 × ai_H} (hh : fX9_leastRound n h a0 a1 a2 a3 a4 a5 = some q) : kO n h a0 9 = some () := by
  obtain ⟨_, e, -⟩ := bi_bd hh
  exact e
theorem sX9_leastRound {n : Nat} {h : ai_H} {a0 : Nat} {a1 : Nat} {a2 : Nat} {a3 : Int32} {a4 : Int32} {a5 : Int32} {q : Int32 × ai_H} (hh : fX9_leastRound n h a0 a1 a2 a3 a4 a5 = some q) : bi_sp 3 83 [.ref a0, .ref a1, .ref a2, .int a3, .int a4, .int a5] h n (fI n q) := by
  refine bi_en (D := 2) (T := tX9_leastRound) (funext fun pc => rfl) rfl (Nat.le_of_ble_eq_true rfl) ?_
  unfold fX9_leastRound at hh
  obtain ⟨_, eO, hh⟩ := bi_bd hh
  refine go_al (pc := 0) rfl (rfl : ai_ld 1 (lv_args 0 [.ref a0, .ref a1, .ref a2, .int a3, .int a4, .int a5]) = some (.ref a1)) ?_
  refine go_al (pc := 1) rfl (rfl : ai_ld 2 (lv_args 0 [.ref a0, .ref a1, .ref a2, .int a3, .int a4, .int a5]) = some (.ref a2)) ?_
  refine go_il (pc := 2) rfl (rfl : ai_ld 3 (lv_args 0 [.ref a0, .ref a1, .ref a2, .int a3, .int a4, .int a5]) = some (.int a3)) ?_
  obtain ⟨q1, eq1, hh⟩ := bi_bd hh
  refine go_iSI (pc := 3) rfl (Nat.le_of_ble_eq_true rfl) rfl (Nat.le_of_ble_eq_true rfl) (bi_up (sX9_openFor eq1) (Nat.le_of_ble_eq_true rfl)) ?_
  refine go_is (pc := 6) rfl ?_
  refine go_il (pc := 8) rfl (bi_k1 (rfl : ai_ld 4 (lv_args 0 [.ref a0, .ref a1, .ref a2, .int a3, .int a4, .int a5]) = some (.int a4)) rfl rfl) ?_
  refine go_il (pc := 10) rfl bi_e1 ?_
  refine go_pi (pc := 12) rfl ?_
  refine go_ixor (pc := 13) rfl ?_
  refine go_iand (pc := 14) rfl ?_
  refine bi_ite hh (fun hc hh => ?_) (fun hc hh => ?_)
  · refine go_ifeqT (pc := 15) rfl hc ?_
    refine go_il (pc := 21) rfl (bi_k1 (rfl : ai_ld 5 (lv_args 0 [.ref a0, .ref a1, .ref a2, .int a3, .int a4, .int a5]) = some (.int a5)) rfl rfl) ?_
    refine bi_ite hh (fun hc hh => ?_) (fun hc hh => ?_)
    · refine go_ifeqT (pc := 23) rfl hc ?_
      refine go_pi (pc := 38) rfl ?_
      exact sX9_leastRound_39  (bi_k1 (rfl : ai_ld 0 (lv_args 0 [.ref a0, .ref a1, .ref a2, .int a3, .int a4, .int a5]) = some (.ref a0)) rfl rfl) (bi_k1 (rfl : ai_ld 1 (lv_args 0 [.ref a0, .ref a1, .ref a2, .int a3, .int a4, .int a5]) = some (.ref a1)) rfl rfl) (bi_k1 (rfl : ai_ld 2 (lv_args 0 [.ref a0, .ref a1, .ref a2, .int a3, .int a4, .int a5]) = some (.ref a2)) rfl rfl) (bi_k1 (rfl : ai_ld 3 (lv_args 0 [.ref a0, .ref a1, .ref a2, .int a3, .int a4, .int a5]) = some (.int a3)) rfl rfl) (bi_k1 (rfl : ai_ld 4 (lv_args 0 [.ref a0, .ref a1, .ref a2, .int a3, .int a4, .int a5]) = some (.int a4)) rfl rfl) (bi_k1 (rfl : ai_ld 5 (lv_args 0 [.ref a0, .ref a1, .ref a2, .int a3, .int a4, .int a5]) = some (.int a5)) rfl rfl) bi_e1 hh
    · refine go_ifeqF (pc := 23) rfl hc ?_
      refine go_al (pc := 26) rfl (bi_k1 (rfl : ai_ld 1 (lv_args 0 [.ref a0, .ref a1, .ref a2, .int a3, .int a4, .int a5]) = some (.ref a1)) rfl rfl) ?_
      obtain ⟨x2, ex2, hh⟩ := bi_bd hh
      refine go_gfR (pc := 27) rfl ex2 ?_
      refine go_il (pc := 30) rfl (bi_k1 (rfl : ai_ld 3 (lv_args 0 [.ref a0, .ref a1, .ref a2, .int a3, .int a4, .int a5]) = some (.int a3)) rfl rfl) ?_
      refine go_pi (pc := 31) rfl ?_
      obtain ⟨q3, eq3, hh⟩ := bi_bd hh
      refine go_ivI (pc := 32) rfl rfl (gX6_cell eq3) (Nat.le_of_ble_eq_true rfl) (bi_up (sX6_cell eq3) (Nat.le_of_ble_eq_true rfl)) ?_
      refine go_goto (pc := 35) rfl ?_
      exact sX9_leastRound_39  (bi_k1 (rfl : ai_ld 0 (lv_args 0 [.ref a0, .ref a1, .ref a2, .int a3, .int a4, .int a5]) = some (.ref a0)) rfl rfl) (bi_k1 (rfl : ai_ld 1 (lv_args 0 [.ref a0, .ref a1, .ref a2, .int a3, .int a4, .int a5]) = some (.ref a1)) rfl rfl) (bi_k1 (rfl : ai_ld 2 (lv_args 0 [.ref a0, .ref a1, .ref a2, .int a3, .int a4, .int a5]) = some (.ref a2)) rfl rfl) (bi_k1 (rfl : ai_ld 3 (lv_args 0 [.ref a0, .ref a1, .ref a2, .int a3, .int a4, .int a5]) = some (.int a3)) rfl rfl) (bi_k1 (rfl : ai_ld 4 (lv_args 0 [.ref a0, .ref a1, .ref a2, .int a3, .int a4, .int a5]) = some (.int a4)) rfl rfl) (bi_k1 (rfl : ai_ld 5 (lv_args 0 [.ref a0, .ref a1, .ref a2, .int a3, .int a4, .int a5]) = some (.int a5)) rfl rfl) bi_e1 hh
  · refine go_ifeqF (pc := 15) rfl hc ?_
    refine go_pi (pc := 18) rfl ?_
    exact go_ri (pc := 20) rfl hh
def fX9_matchFrom_10 (n : Nat) (cX9_matchFrom : ai_H → Nat → Int32 → Int32 → Int32 → Int32 → Option (Unit × ai_H)) (h : ai_H) (v0 : Nat) (v4 : Int32) : Option (Unit × ai_H) :=
  (pI n h v0 9 6).bind fun x1 =>
  if v4 ≤ x1 then (
    some ((), h))
  else (
    (sF n h v0 9 6 (.int) (.int v4)).bind fun h2 =>
    (pR n h2 v0 9 4).bind fun x3 =>
    (pR n h2 v0 9 5).bind fun x4 =>
    (cA n h2 x3 (0 : Int32) x4 (0 : Int32) (4 : Int32)).bind fun h5 =>
    some ((), h5))
theorem sX9_matchFrom_10 {n : Nat} {D : Nat} {cX9_matchFrom : ai_H → Nat → Int32 → Int32 → Int32 → Int32 → Option (Unit × ai_H)} {q : Unit × ai_H} {h : ai_H} {v0 : Nat} {v4 : Int32} {lv : ai_L} (hD : 0 ≤ D) (CX9_matchFrom : ∀ (h : ai_H) (a0 : Nat) (a1 : Int32) (a2 : Int32) (a3 : Int32) (a4 : Int32) (q : Unit × ai_H), cX9_matchFrom h a0 a1 a2 a3 a4 = some q → kO n h a0 9 = some () ∧ bi_sp D 87 [.ref a0, .int a1, .int a2, .int a3, .int a4] h n (fV n q)) (l0 : ai_ld 0 lv = some (.ref v0)) (l4 : ai_ld 4 lv = some (.int v4)) (hh : fX9_matchFrom_10 n cX9_matchFrom h v0 v4 = some q) : bi_go D tX9_matchFrom n (fV n q) 10 lv [] h := by
  unfold fX9_matchFrom_10 at hh
  refine go_il (pc := 10) rfl l4 ?_
  refine go_al (pc := 12) rfl l0 ?_
  obtain ⟨x1, ex1, hh⟩ := bi_bd hh
  refine go_gfI (pc := 13) rfl ex1 ?_
  refine bi_ite hh (fun hc hh => ?_) (fun hc hh => ?_)
  · refine go_cmpleT (pc := 16) rfl hc ?_
    exact go_rv (pc := 39) rfl hh
  · refine go_cmpleF (pc := 16) rfl hc ?_
    refine go_al (pc := 19) rfl l0 ?_
    refine go_il (pc := 20) rfl l4 ?_
    obtain ⟨h2, eh2, hh⟩ := bi_bd hh
    refine go_pf (pc := 22) rfl eh2 ?_
    refine go_al (pc := 25) rfl l0 ?_
    obtain ⟨x3, ex3, hh⟩ := bi_bd hh
    refine go_gfR (pc := 26) rfl ex3 ?_
    refine go_pi (pc := 29) rfl ?_
    refine go_al (pc := 30) rfl l0 ?_
    obtain ⟨x4, ex4, hh⟩ := bi_bd hh
    refine go_gfR (pc := 31) rfl ex4 ?_
    refine go_pi (pc := 34) rfl ?_
    refine go_pi (pc := 35) rfl ?_
    obtain ⟨h5, eh5, hh⟩ := bi_bd hh
    refine go_cp (pc := 36) rfl eh5 (Nat.le_of_ble_eq_true rfl) ?_
    exact go_rv (pc := 39) rfl hh
def fX9_matchFrom_102 (n : Nat) (cX9_matchFrom : ai_H → Nat → Int32 → Int32 → Int32 → Int32 → Option (Unit × ai_H)) (r43 : ai_H → Nat → Int32 → Int32 → Int32 → Int32 → Int32 → Option (Unit × ai_H)) (h : ai_H) (v0 : Nat) (v1 : Int32) (v2 : Int32) (v3 : Int32) (v4 : Int32) (v5 : Int32) : Option (Unit × ai_H) :=
  r43 h v0 v1 v2 v3 v4 (v5 + 1)
theorem sX9_matchFrom_102 {n : Nat} {D : Nat} {cX9_matchFrom : ai_H → Nat → Int32 → Int32 → Int32 → Int32 → Option (Unit × ai_H)} {r43 : ai_H → Nat → Int32 → Int32 → Int32 → Int32 → Int32 → Option (Unit × ai_H)} {q : Unit × ai_H} {h : ai_H} {v0 : Nat} {v1 : Int32} {v2 : Int32} {v3 : Int32} {v4 : Int32} {v5 : Int32} {lv : ai_L} (hD : 0 ≤ D) (CX9_matchFrom : ∀ (h : ai_H) (a0 : Nat) (a1 : Int32) (a2 : Int32) (a3 : Int32) (a4 : Int32) (q : Unit × ai_H), cX9_matchFrom h a0 a1 a2 a3 a4 = some q → kO n h a0 9 = some () ∧ bi_sp D 87 [.ref a0, .int a1, .int a2, .int a3, .int a4] h n (fV n q)) (R43 : ∀ (h : ai_H) (v0 : Nat) (v1 : Int32) (v2 : Int32) (v3 : Int32) (v4 : Int32) (v5 : Int32) (lv : ai_L), ai_ld 0 lv = some (.ref v0) → ai_ld 1 lv = some (.int v1) → ai_ld 2 lv = some (.int v2) → ai_ld 3 lv = some (.int v3) → ai_ld 4 lv = some (.int v4) → ai_ld 5 lv = some (.int v5) → r43 h v0 v1 v2 v3 v4 v5 = some q → bi_go D tX9_matchFrom n (fV n q) 43 lv [] h) (l0 : ai_ld 0 lv = some (.ref v0)) (l1 : ai_ld 1 lv = some (.int v1)) (l2 : ai_ld 2 lv = some (.int v2)) (l3 : ai_ld 3 lv = some (.int v3)) (l4 : ai_ld 4 lv = some (.int v4)) (l5 : ai_ld 5 lv = some (.int v5)) (hh : fX9_matchFrom_102 n cX9_matchFrom r43 h v0 v1 v2 v3 v4 v5 = some q) : bi_go D tX9_matchFrom n (fV n q) 102 lv [] h := by
  unfold fX9_matchFrom_102 at hh
  refine go_inc (pc := 102) rfl l5 ?_
  refine go_goto (pc := 105) rfl ?_
  exact R43 _ _ _ _ _ _ _ _ (bi_k1 l0 rfl rfl) (bi_k1 l1 rfl rfl) (bi_k1 l2 rfl rfl) (bi_k1 l3 rfl rfl) (bi_k1 l4 rfl rfl) bi_e1 hh
def fX9_matchFrom_43b (n : Nat) (cX9_matchFrom : ai_H → Nat → Int32 → Int32 → Int32 → Int32 → Option (Unit × ai_H)) (r43 : ai_H → Nat → Int32 → Int32 → Int32 → Int32 → Int32 → Option (Unit × ai_H)) (h : ai_H) (v0 : Nat) (v1 : Int32) (v2 : Int32) (v3 : Int32) (v4 : Int32) (v5 : Int32) : Option (Unit × ai_H) :=
  if (9 : Int32) ≤ v5 then (
    (pR n h v0 9 4).bind fun x1 =>
    (wX 1 (fun x => x) n h x1 v1 (-2 : Int32)).bind fun h2 =>
    (cX9_matchFrom h2 v0 (v1 + (1 : Int32)) v2 v3 v4).bind fun q3 =>
    some ((), q3.2))
  else (
    (pR n h v0 9 2).bind fun x4 =>
    (gX 1 n h x4 v1).bind fun x5 =>
    if ((x5 &&& (v3 ^^^ (-1 : Int32))) &&& ((1 : Int32) <<< (v5 &&& 31))) = 0 then (
      fX9_matchFrom_102 n cX9_matchFrom r43 h v0 v1 v2 v3 v4 v5)
    else (
      (pR n h v0 9 4).bind fun x6 =>
      (wX 1 (fun x => x) n h x6 v1 v5).bind fun h7 =>
      (pR n h7 v0 9 3).bind fun x8 =>
      (gX 1 n h7 x8 v5).bind fun x9 =>
      (cX9_matchFrom h7 v0 (v1 + (1 : Int32)) v2 (v3 ||| ((1 : Int32) <<< (v5 &&& 31))) (v4 + x9)).bind fun q10 =>
      fX9_matchFrom_102 n cX9_matchFrom r43 q10.2 v0 v1 v2 v3 v4 v5))
theorem sX9_matchFrom_43b {n : Nat} {D : Nat} {cX9_matchFrom : ai_H → Nat → Int32 → Int32 → Int32 → Int32 → Option (Unit × ai_H)} {r43 : ai_H → Nat → Int32 → Int32 → Int32 → Int32 → Int32 → Option (Unit × ai_H)} {q : Unit × ai_H} {h : ai_H} {v0 : Nat} {v1 : Int32} {v2 : Int32} {v3 : Int32} {v4 : Int32} {v5 : Int32} {lv : ai_L} (hD : 0 ≤ D) (CX9_matchFrom : ∀ (h : ai_H) (a0 : Nat) (a1 : Int32) (a2 : Int32) (a3 : Int32) (a4 : Int32) (q : Unit × ai_H), cX9_matchFrom h a0 a1 a2 a3 a4 = some q → kO n h a0 9 = some () ∧ bi_sp D 87 [.ref a0, .int a1, .int a2, .int a3, .int a4] h n (fV n q)) (R43 : ∀ (h : ai_H) (v0 : Nat) (v1 : Int32) (v2 : Int32) (v3 : Int32) (v4 : Int32) (v5 : Int32) (lv : ai_L), ai_ld 0 lv = some (.ref v0) → ai_ld 1 lv = some (.int v1) → ai_ld 2 lv = some (.int v2) → ai_ld 3 lv = some (.int v3) → ai_ld 4 lv = some (.int v4) → ai_ld 5 lv = some (.int v5) → r43 h v0 v1 v2 v3 v4 v5 = some q → bi_go D tX9_matchFrom n (fV n q) 43 lv [] h) (l0 : ai_ld 0 lv = some (.ref v0)) (l1 : ai_ld 1 lv = some (.int v1)) (l2 : ai_ld 2 lv = some (.int v2)) (l3 : ai_ld 3 lv = some (.int v3)) (l4 : ai_ld 4 lv = some (.int v4)) (l5 : ai_ld 5 lv = some (.int v5)) (hh : fX9_matchFrom_43b n cX9_matchFrom r43 h v0 v1 v2 v3 v4 v5 = some q) : bi_go D tX9_matchFrom n (fV n q) 43 lv [] h := by
  unfold fX9_matchFrom_43b at hh
  refine go_il (pc := 43) rfl l5 ?_
  refine go_pi (pc := 45) rfl ?_
  refine bi_ite hh (fun hc hh => ?_) (fun hc hh => ?_)
  · refine go_cmpgeT (pc := 47) rfl hc ?_
    refine go_al (pc := 108) rfl l0 ?_
    obtain ⟨x1, ex1, hh⟩ := bi_bd hh
    refine go_gfR (pc := 109) rfl ex1 ?_
    refine go_il (pc := 112) rfl l1 ?_
    refine go_pi (pc := 113) rfl ?_
    obtain ⟨h2, eh2, hh⟩ := bi_bd hh
    refine go_iast (pc := 115) rfl eh2 ?_
    refine go_al (pc := 116) rfl l0 ?_
    refine go_il (pc := 117) rfl l1 ?_
    refine go_pi (pc := 118) rfl ?_
    refine go_iadd (pc := 119) rfl ?_
    refine go_il (pc := 120) rfl l2 ?_
    refine go_il (pc := 121) rfl l3 ?_
    refine go_il (pc := 122) rfl l4 ?_
    obtain ⟨q3, eq3, hh⟩ := bi_bd hh
    refine go_ivV (pc := 124) rfl rfl (CX9_matchFrom _ _ _ _ _ _ _ eq3).1 (Nat.le_of_ble_eq_true rfl) (CX9_matchFrom _ _ _ _ _ _ _ eq3).2 ?_
    exact go_rv (pc := 127) rfl hh
  · refine go_cmpgeF (pc := 47) rfl hc ?_
    refine go_pi (pc := 50) rfl ?_
    refine go_il (pc := 51) rfl l5 ?_
    refine go_ishl (pc := 53) rfl ?_
    refine go_is (pc := 54) rfl ?_
    refine go_al (pc := 56) rfl (bi_k1 l0 rfl rfl) ?_
    obtain ⟨x4, ex4, hh⟩ := bi_bd hh
    refine go_gfR (pc := 57) rfl ex4 ?_
    refine go_il (pc := 60) rfl (bi_k1 l1 rfl rfl) ?_
    obtain ⟨x5, ex5, hh⟩ := bi_bd hh
    refine go_iald (pc := 61) rfl ex5 ?_
    refine go_il (pc := 62) rfl (bi_k1 l3 rfl rfl) ?_
    refine go_pi (pc := 63) rfl ?_
    refine go_ixor (pc := 64) rfl ?_
    refine go_iand (pc := 65) rfl ?_
    refine go_il (pc := 66) rfl bi_e1 ?_
    refine go_iand (pc := 68) rfl ?_
    refine bi_ite hh (fun hc hh => ?_) (fun hc hh => ?_)
    · refine go_ifeqT (pc := 69) rfl hc ?_
      exact sX9_matchFrom_102 hD CX9_matchFrom R43 (bi_k1 l0 rfl rfl) (bi_k1 l1 rfl rfl) (bi_k1 l2 rfl rfl) (bi_k1 l3 rfl rfl) (bi_k1 l4 rfl rfl) (bi_k1 l5 rfl rfl) hh
    · refine go_ifeqF (pc := 69) rfl hc ?_
      refine go_al (pc := 72) rfl (bi_k1 l0 rfl rfl) ?_
      obtain ⟨x6, ex6, hh⟩ := bi_bd hh
      refine go_gfR (pc := 73) rfl ex6 ?_
      refine go_il (pc := 76) rfl (bi_k1 l1 rfl rfl) ?_
      refine go_il (pc := 77) rfl (bi_k1 l5 rfl rfl) ?_
      obtain ⟨h7, eh7, hh⟩ := bi_bd hh
      refine go_iast (pc := 79) rfl eh7 ?_
      refine go_al (pc := 80) rfl (bi_k1 l0 rfl rfl) ?_
      refine go_il (pc := 81) rfl (bi_k1 l1 rfl rfl) ?_
      refine go_pi (pc := 82) rfl ?_
      refine go_iadd (pc := 83) rfl ?_
      refine go_il (pc := 84) rfl (bi_k1 l2 rfl rfl) ?_
      refine go_il (pc := 85) rfl (bi_k1 l3 rfl rfl) ?_
      refine go_il (pc := 86) rfl bi_e1 ?_
      refine go_ior (pc := 88) rfl ?_
      refine go_il (pc := 89) rfl (bi_k1 l4 rfl rfl) ?_
      refine go_al (pc := 91) rfl (bi_k1 l0 rfl rfl) ?_
      obtain ⟨x8, ex8, hh⟩ := bi_bd hh
      refine go_gfR (pc := 92) rfl ex8 ?_
      refine go_il (pc := 95) rfl (bi_k1 l5 rfl rfl) ?_
      obtain ⟨x9, ex9, hh⟩ := bi_bd hh
      refine go_iald (pc := 97) rfl ex9 ?_
      refine go_iadd (pc := 98) rfl ?_
      obtain ⟨q10, eq10, hh⟩ := bi_bd hh
      refine go_ivV (pc := 99) rfl rfl (CX9_matchFrom _ _ _ _ _ _ _ eq10).1 (Nat.le_of_ble_eq_true rfl) (CX9_matchFrom _ _ _ _ _ _ _ eq10).2 ?_
      exact sX9_matchFrom_102 hD CX9_matchFrom R43 (bi_k1 l0 rfl rfl) (bi_k1 l1 rfl rfl) (bi_k1 l2 rfl rfl) (bi_k1 l3 rfl rfl) (bi_k1 l4 rfl rfl) (bi_k1 l5 rfl rfl) hh
def fX9_matchFrom_43 (n : Nat) (cX9_matchFrom : ai_H → Nat → Int32 → Int32 → Int32 → Int32 → Option (Unit × ai_H)) : Nat → ai_H → Nat → Int32 → Int32 → Int32 → Int32 → Int32 → Option (Unit × ai_H)
  | 0 => fun _ _ _ _ _ _ _ => none
  | k + 1 => fun h v0 v1 v2 v3 v4 v5 => fX9_matchFrom_43b n cX9_matchFrom (fX9_matchFrom_43 n cX9_matchFrom k) h v0 v1 v2 v3 v4 v5
theorem sX9_matchFrom_43 {n : Nat} {D : Nat} {cX9_matchFrom : ai_H → Nat → Int32 → Int32 → Int32 → Int32 → Option (Unit × ai_H)} {q : Unit × ai_H} (hD : 0 ≤ D) (CX9_matchFrom : ∀ (h : ai_H) (a0 : Nat) (a1 : Int32) (a2 : Int32) (a3 : Int32) (a4 : Int32) (q : Unit × ai_H), cX9_matchFrom h a0 a1 a2 a3 a4 = some q → kO n h a0 9 = some () ∧ bi_sp D 87 [.ref a0, .int a1, .int a2, .int a3, .int a4] h n (fV n q)) : ∀ (k : Nat) (h : ai_H) (v0 : Nat) (v1 : Int32) (v2 : Int32) (v3 : Int32) (v4 : Int32) (v5 : Int32) (lv : ai_L), ai_ld 0 lv = some (.ref v0) → ai_ld 1 lv = some (.int v1) → ai_ld 2 lv = some (.int v2) → ai_ld 3 lv = some (.int v3) → ai_ld 4 lv = some (.int v4) → ai_ld 5 lv = some (.int v5) → fX9_matchFrom_43 n cX9_matchFrom k h v0 v1 v2 v3 v4 v5 = some q → bi_go D tX9_matchFrom n (fV n q) 43 lv [] h
  | 0 => fun _ _ _ _ _ _ _ _ _ _ _ _ _ _ hh => by cases hh
  | k + 1 => fun h v0 v1 v2 v3 v4 v5 lv l0 l1 l2 l3 l4 l5 hh => sX9_matchFrom_43b hD CX9_matchFrom (sX9_matchFrom_43 hD CX9_matchFrom k) l0 l1 l2 l3 l4 l5 hh
def fX9_matchFrom (n : Nat) (cX9_matchFrom : ai_H → Nat → Int32 → Int32 → Int32 → Int32 → Option (Unit × ai_H)) (h : ai_H) (a0 : Nat) (a1 : Int32) (a2 : Int32) (a3 : Int32) (a4 : Int32) : Option (Unit × ai_H) :=
  (kO n h a0 9).bind fun _ =>
  if a2 ≤ a1 then (
    fX9_matchFrom_10 n cX9_matchFrom h a0 a4)
  else (
    if a1 < (4 : Int32) then (
      fX9_matchFrom_43 n cX9_matchFrom bi_K h a0 a1 a2 a3 a4 (0 : Int32))
    else (
      fX9_matchFrom_10 n cX9_matchFrom h a0 a4))
theorem gX9_matchFrom {n : Nat} {cX9_matchFrom : ai_H → Nat → Int32 → Int32 → Int32 → Int32 → Option (Unit × ai_H)} {h : ai_H} {a0 : Nat} {a1 : Int32} {a2 : Int32} {a3 : Int32} {a4 : Int32} {q : Unit × ai_H} (hh : fX9_matchFrom n cX9_matchFrom h a0 a1 a2 a3 a4 = some q) : kO n h a0 9 = some () := by
  obtain ⟨_, e, -⟩ := bi_bd hh
  exact e
theorem sX9_matchFrom {n : Nat} {D : Nat} {cX9_matchFrom : ai_H → Nat → Int32 → Int32 → Int32 → Int32 → Option (Unit × ai_H)} {h : ai_H} {a0 : Nat} {a1 : Int32} {a2 : Int32} {a3 : Int32} {a4 : Int32} {q : Unit × ai_H} (hD : 0 ≤ D) (CX9_matchFrom : ∀ (h : ai_H) (a0 : Nat) (a1 : Int32) (a2 : Int32) (a3 : Int32) (a4 : Int32) (q : Unit × ai_H), cX9_matchFrom h a0 a1 a2 a3 a4 = some q → kO n h a0 9 = some () ∧ bi_sp D 87 [.ref a0, .int a1, .int a2, .int a3, .int a4] h n (fV n q)) (hh : fX9_matchFrom n cX9_matchFrom h a0 a1 a2 a3 a4 = some q) : bi_sp (D + 1) 87 [.ref a0, .int a1, .int a2, .int a3, .int a4] h n (fV n q) := by
  refine bi_en (D := D) (T := tX9_matchFrom) (funext fun pc => rfl) rfl (Nat.le_of_ble_eq_true rfl) ?_
  unfold fX9_matchFrom at hh
  obtain ⟨_, eO, hh⟩ := bi_bd hh
  refine go_il (pc := 0) rfl (rfl : ai_ld 1 (lv_args 0 [.ref a0, .int a1, .int a2, .int a3, .int a4]) = some (.int a1)) ?_
  refine go_il (pc := 1) rfl (rfl : ai_ld 2 (lv_args 0 [.ref a0, .int a1, .int a2, .int a3, .int a4]) = some (.int a2)) ?_
  refine bi_ite hh (fun hc hh => ?_) (fun hc hh => ?_)
  · refine go_cmpgeT (pc := 2) rfl hc ?_
    exact sX9_matchFrom_10 hD CX9_matchFrom (rfl : ai_ld 0 (lv_args 0 [.ref a0, .int a1, .int a2, .int a3, .int a4]) = some (.ref a0)) (rfl : ai_ld 4 (lv_args 0 [.ref a0, .int a1, .int a2, .int a3, .int a4]) = some (.int a4)) hh
  · refine go_cmpgeF (pc := 2) rfl hc ?_
    refine go_il (pc := 5) rfl (rfl : ai_ld 1 (lv_args 0 [.ref a0, .int a1, .int a2, .int a3, .int a4]) = some (.int a1)) ?_
    refine go_pi (pc := 6) rfl ?_
    refine bi_ite hh (fun hc hh => ?_) (fun hc hh => ?_)
    · refine go_cmpltT (pc := 7) rfl hc ?_
      refine go_pi (pc := 40) rfl ?_
      refine go_is (pc := 41) rfl ?_
      exact sX9_matchFrom_43 hD CX9_matchFrom _ _ _ _ _ _ _ _ _ (bi_k1 (rfl : ai_ld 0 (lv_args 0 [.ref a0, .int a1, .int a2, .int a3, .int a4]) = some (.ref a0)) rfl rfl) (bi_k1 (rfl : ai_ld 1 (lv_args 0 [.ref a0, .int a1, .int a2, .int a3, .int a4]) = some (.int a1)) rfl rfl) (bi_k1 (rfl : ai_ld 2 (lv_args 0 [.ref a0, .int a1, .int a2, .int a3, .int a4]) = some (.int a2)) rfl rfl) (bi_k1 (rfl : ai_ld 3 (lv_args 0 [.ref a0, .int a1, .int a2, .int a3, .int a4]) = some (.int a3)) rfl rfl) (bi_k1 (rfl : ai_ld 4 (lv_args 0 [.ref a0, .int a1, .int a2, .int a3, .int a4]) = some (.int a4)) rfl rfl) bi_e1 hh
    · refine go_cmpltF (pc := 7) rfl hc ?_
      exact sX9_matchFrom_10 hD CX9_matchFrom (rfl : ai_ld 0 (lv_args 0 [.ref a0, .int a1, .int a2, .int a3, .int a4]) = some (.ref a0)) (rfl : ai_ld 4 (lv_args 0 [.ref a0, .int a1, .int a2, .int a3, .int a4]) = some (.int a4)) hh
def fs2 (n : Nat) : Nat → (ai_H → Nat → Int32 → Int32 → Int32 → Int32 → Option (Unit × ai_H))
  | 0 => fun _ _ _ _ _ _ => none
  | k + 1 => fun h a0 a1 a2 a3 a4 => fX9_matchFrom n (fs2 n k) h a0 a1 a2 a3 a4
theorem ss2 {n : Nat} : ∀ k : Nat, (∀ (h : ai_H) (a0 : Nat) (a1 : Int32) (a2 : Int32) (a3 : Int32) (a4 : Int32) (q : Unit × ai_H), (fs2 n k) h a0 a1 a2 a3 a4 = some q → kO n h a0 9 = some () ∧ bi_sp (0 + k) 87 [.ref a0, .int a1, .int a2, .int a3, .int a4] h n (fV n q))
  | 0 => fun _ _ _ _ _ _ _ hh => (by cases hh)
  | k + 1 => fun _ _ _ _ _ _ _ hh => ⟨gX9_matchFrom (cX9_matchFrom := (fs2 n k)) hh, sX9_matchFrom (cX9_matchFrom := (fs2 n k)) (D := 0 + k) (Nat.le_add_right _ _) (ss2 k) hh⟩
def FX9_matchFrom (n : Nat) (h : ai_H) (a0 : Nat) (a1 : Int32) (a2 : Int32) (a3 : Int32) (a4 : Int32) : Option (Unit × ai_H) := (fs2 n bi_N) h a0 a1 a2 a3 a4
theorem GX9_matchFrom {n : Nat} {h : ai_H} {a0 : Nat} {a1 : Int32} {a2 : Int32} {a3 : Int32} {a4 : Int32} {q : Unit × ai_H} (hh : FX9_matchFrom n h a0 a1 a2 a3 a4 = some q) : kO n h a0 9 = some () := ((ss2 bi_N) _ _ _ _ _ _ _ hh).1
theorem SX9_matchFrom {n : Nat} {h : ai_H} {a0 : Nat} {a1 : Int32} {a2 : Int32} {a3 : Int32} {a4 : Int32} {q : Unit × ai_H} (hh : FX9_matchFrom n h a0 a1 a2 a3 a4 = some q) : bi_sp (0 + bi_N) 87 [.ref a0, .int a1, .int a2, .int a3, .int a4] h n (fV n q) := ((ss2 bi_N) _ _ _ _ _ _ _ hh).2
def fX9_matchAll_84 (n : Nat) (r2 : ai_H → Nat → Nat → Nat → Int32 → Option (Unit × ai_H)) (r31 : ai_H → Nat → Nat → Nat → Int32 → Int32 → Int32 → Option (Unit × ai_H)) (h : ai_H) (v0 : Nat) (v1 : Nat) (v2 : Nat) (v3 : Int32) (v4 : Int32) (v5 : Int32) : Option (Unit × ai_H) :=
  r31 h v0 v1 v2 v3 v4 (v5 + 1)
theorem sX9_matchAll_84 {n : Nat} {r2 : ai_H → Nat → Nat → Nat → Int32 → Option (Unit × ai_H)} {r31 : ai_H → Nat → Nat → Nat → Int32 → Int32 → Int32 → Option (Unit × ai_H)} {q : Unit × ai_H} {h : ai_H} {v0 : Nat} {v1 : Nat} {v2 : Nat} {v3 : Int32} {v4 : Int32} {v5 : Int32} {lv : ai_L} (R2 : ∀ (h : ai_H) (v0 : Nat) (v1 : Nat) (v2 : Nat) (v3 : Int32) (lv : ai_L), ai_ld 0 lv = some (.ref v0) → ai_ld 1 lv = some (.ref v1) → ai_ld 2 lv = some (.ref v2) → ai_ld 3 lv = some (.int v3) → r2 h v0 v1 v2 v3 = some q → bi_go 300 tX9_matchAll n (fV n q) 2 lv [] h) (R31 : ∀ (h : ai_H) (v0 : Nat) (v1 : Nat) (v2 : Nat) (v3 : Int32) (v4 : Int32) (v5 : Int32) (lv : ai_L), ai_ld 0 lv = some (.ref v0) → ai_ld 1 lv = some (.ref v1) → ai_ld 2 lv = some (.ref v2) → ai_ld 3 lv = some (.int v3) → ai_ld 4 lv = some (.int v4) → ai_ld 5 lv = some (.int v5) → r31 h v0 v1 v2 v3 v4 v5 = some q → bi_go 300 tX9_matchAll n (fV n q) 31 lv [] h) (l0 : ai_ld 0 lv = some (.ref v0)) (l1 : ai_ld 1 lv = some (.ref v1)) (l2 : ai_ld 2 lv = some (.ref v2)) (l3 : ai_ld 3 lv = some (.int v3)) (l4 : ai_ld 4 lv = some (.int v4)) (l5 : ai_ld 5 lv = some (.int v5)) (hh : fX9_matchAll_84 n r2 r31 h v0 v1 v2 v3 v4 v5 = some q) : bi_go 300 tX9_matchAll n (fV n q) 84 lv [] h := by
  unfold fX9_matchAll_84 at hh
  refine go_inc (pc := 84) rfl l5 ?_
  refine go_goto (pc := 87) rfl ?_
  exact R31 _ _ _ _ _ _ _ _ (bi_k1 l0 rfl rfl) (bi_k1 l1 rfl rfl) (bi_k1 l2 rfl rfl) (bi_k1 l3 rfl rfl) (bi_k1 l4 rfl rfl) bi_e1 hh
def fX9_matchAll_31b (n : Nat) (r2 : ai_H → Nat → Nat → Nat → Int32 → Option (Unit × ai_H)) (r31 : ai_H → Nat → Nat → Nat → Int32 → Int32 → Int32 → Option (Unit × ai_H)) (h : ai_H) (v0 : Nat) (v1 : Nat) (v2 : Nat) (v3 : Int32) (v4 : Int32) (v5 : Int32) : Option (Unit × ai_H) :=
  (pR n h v1 8 1).bind fun x1 =>
  (pI n h x1 6 4).bind fun x2 =>
  if x2 ≤ v5 then (
    r2 h v0 v1 v2 (v3 + 1))
  else (
    if ((v4 >>> (v5 &&& 31)) &&& (1 : Int32)) = 0 then (
      fX9_matchAll_84 n r2 r31 h v0 v1 v2 v3 v4 v5)
    else (
      (fX8_ends n h v1 v5).bind fun q3 =>
      (pR n q3.2 v2 5 7).bind fun x4 =>
      (gX 1 n q3.2 x4 v3).bind fun x5 =>
      if ((q3.1 >>> (x5 &&& 31)) &&& (1 : Int32)) = 0 then (
        fX9_matchAll_84 n r2 r31 q3.2 v0 v1 v2 v3 v4 v5)
      else (
        (pR n q3.2 v0 9 2).bind fun x6 =>
        (gX 1 n q3.2 x6 v3).bind fun x7 =>
        (wX 1 (fun x => x) n q3.2 x6 v3 (x7 ||| ((1 : Int32) <<< (v5 &&& 31)))).bind fun h8 =>
        fX9_matchAll_84 n r2 r31 h8 v0 v1 v2 v3 v4 v5)))
theorem sX9_matchAll_31b {n : Nat} {r2 : ai_H → Nat → Nat → Nat → Int32 → Option (Unit × ai_H)} {r31 : ai_H → Nat → Nat → Nat → Int32 → Int32 → Int32 → Option (Unit × ai_H)} {q : Unit × ai_H} {h : ai_H} {v0 : Nat} {v1 : Nat} {v2 : Nat} {v3 : Int32} {v4 : Int32} {v5 : Int32} {lv : ai_L} (R2 : ∀ (h : ai_H) (v0 : Nat) (v1 : Nat) (v2 : Nat) (v3 : Int32) (lv : ai_L), ai_ld 0 lv = some (.ref v0) → ai_ld 1 lv = some (.ref v1) → ai_ld 2 lv = some (.ref v2) → ai_ld 3 lv = some (.int v3) → r2 h v0 v1 v2 v3 = some q → bi_go 300 tX9_matchAll n (fV n q) 2 lv [] h) (R31 : ∀ (h : ai_H) (v0 : Nat) (v1 : Nat) (v2 : Nat) (v3 : Int32) (v4 : Int32) (v5 : Int32) (lv : ai_L), ai_ld 0 lv = some (.ref v0) → ai_ld 1 lv = some (.ref v1) → ai_ld 2 lv = some (.ref v2) → ai_ld 3 lv = some (.int v3) → ai_ld 4 lv = some (.int v4) → ai_ld 5 lv = some (.int v5) → r31 h v0 v1 v2 v3 v4 v5 = some q → bi_go 300 tX9_matchAll n (fV n q) 31 lv [] h) (l0 : ai_ld 0 lv = some (.ref v0)) (l1 : ai_ld 1 lv = some (.ref v1)) (l2 : ai_ld 2 lv = some (.ref v2)) (l3 : ai_ld 3 lv = some (.int v3)) (l4 : ai_ld 4 lv = some (.int v4)) (l5 : ai_ld 5 lv = some (.int v5)) (hh : fX9_matchAll_31b n r2 r31 h v0 v1 v2 v3 v4 v5 = some q) : bi_go 300 tX9_matchAll n (fV n q) 31 lv [] h := by
  unfold fX9_matchAll_31b at hh
  refine go_il (pc := 31) rfl l5 ?_
  refine go_al (pc := 33) rfl l1 ?_
  obtain ⟨x1, ex1, hh⟩ := bi_bd hh
  refine go_gfR (pc := 34) rfl ex1 ?_
  obtain ⟨x2, ex2, hh⟩ := bi_bd hh
  refine go_gfI (pc := 37) rfl ex2 ?_
  refine bi_ite hh (fun hc hh => ?_) (fun hc hh => ?_)
  · refine go_cmpgeT (pc := 40) rfl hc ?_
    refine go_inc (pc := 90) rfl l3 ?_
    refine go_goto (pc := 93) rfl ?_
    exact R2 _ _ _ _ _ _ (bi_k1 l0 rfl rfl) (bi_k1 l1 rfl rfl) (bi_k1 l2 rfl rfl) bi_e1 hh
  · refine go_cmpgeF (pc := 40) rfl hc ?_
    refine go_il (pc := 43) rfl l4 ?_
    refine go_il (pc := 45) rfl l5 ?_
    refine go_ishr (pc := 47) rfl ?_
    refine go_pi (pc := 48) rfl ?_
    refine go_iand (pc := 49) rfl ?_
    refine bi_ite hh (fun hc hh => ?_) (fun hc hh => ?_)
    · refine go_ifeqT (pc := 50) rfl hc ?_
      exact sX9_matchAll_84 R2 R31 l0 l1 l2 l3 l4 l5 hh
    · refine go_ifeqF (pc := 50) rfl hc ?_
      refine go_al (pc := 53) rfl l1 ?_
      refine go_il (pc := 54) rfl l5 ?_
      obtain ⟨q3, eq3, hh⟩ := bi_bd hh
      refine go_ivI (pc := 56) rfl rfl (gX8_ends eq3) (Nat.le_of_ble_eq_true rfl) (bi_up (sX8_ends eq3) (Nat.le_of_ble_eq_true rfl)) ?_
      refine go_al (pc := 59) rfl l2 ?_
      obtain ⟨x4, ex4, hh⟩ := bi_bd hh
      refine go_gfR (pc := 60) rfl ex4 ?_
      refine go_il (pc := 63) rfl l3 ?_
      obtain ⟨x5, ex5, hh⟩ := bi_bd hh
      refine go_iald (pc := 64) rfl ex5 ?_
      refine go_ishr (pc := 65) rfl ?_
      refine go_pi (pc := 66) rfl ?_
      refine go_iand (pc := 67) rfl ?_
      refine bi_ite hh (fun hc hh => ?_) (fun hc hh => ?_)
      · refine go_ifeqT (pc := 68) rfl hc ?_
        exact sX9_matchAll_84 R2 R31 l0 l1 l2 l3 l4 l5 hh
      · refine go_ifeqF (pc := 68) rfl hc ?_
        refine go_al (pc := 71) rfl l0 ?_
        obtain ⟨x6, ex6, hh⟩ := bi_bd hh
        refine go_gfR (pc := 72) rfl ex6 ?_
        refine go_il (pc := 75) rfl l3 ?_
        refine go_dup2 (pc := 76) rfl rfl rfl ?_
        obtain ⟨x7, ex7, hh⟩ := bi_bd hh
        refine go_iald (pc := 77) rfl ex7 ?_
        refine go_pi (pc := 78) rfl ?_
        refine go_il (pc := 79) rfl l5 ?_
        refine go_ishl (pc := 81) rfl ?_
        refine go_ior (pc := 82) rfl ?_
        obtain ⟨h8, eh8, hh⟩ := bi_bd hh
        refine go_iast (pc := 83) rfl eh8 ?_
        exact sX9_matchAll_84 R2 R31 l0 l1 l2 l3 l4 l5 hh
def fX9_matchAll_31 (n : Nat) (r2 : ai_H → Nat → Nat → Nat → Int32 → Option (Unit × ai_H)) : Nat → ai_H → Nat → Nat → Nat → Int32 → Int32 → Int32 → Option (Unit × ai_H)
  | 0 => fun _ _ _ _ _ _ _ => none
  | k + 1 => fun h v0 v1 v2 v3 v4 v5 => fX9_matchAll_31b n r2 (fX9_matchAll_31 n r2 k) h v0 v1 v2 v3 v4 v5
theorem sX9_matchAll_31 {n : Nat} {r2 : ai_H → Nat → Nat → Nat → Int32 → Option (Unit × ai_H)} {q : Unit × ai_H} (R2 : ∀ (h : ai_H) (v0 : Nat) (v1 : Nat) (v2 : Nat) (v3 : Int32) (lv : ai_L), ai_ld 0 lv = some (.ref v0) → ai_ld 1 lv = some (.ref v1) → ai_ld 2 lv = some (.ref v2) → ai_ld 3 lv = some (.int v3) → r2 h v0 v1 v2 v3 = some q → bi_go 300 tX9_matchAll n (fV n q) 2 lv [] h) : ∀ (k : Nat) (h : ai_H) (v0 : Nat) (v1 : Nat) (v2 : Nat) (v3 : Int32) (v4 : Int32) (v5 : Int32) (lv : ai_L), ai_ld 0 lv = some (.ref v0) → ai_ld 1 lv = some (.ref v1) → ai_ld 2 lv = some (.ref v2) → ai_ld 3 lv = some (.int v3) → ai_ld 4 lv = some (.int v4) → ai_ld 5 lv = some (.int v5) → fX9_matchAll_31 n r2 k h v0 v1 v2 v3 v4 v5 = some q → bi_go 300 tX9_matchAll n (fV n q) 31 lv [] h
  | 0 => fun _ _ _ _ _ _ _ _ _ _ _ _ _ _ hh => by cases hh
  | k + 1 => fun h v0 v1 v2 v3 v4 v5 lv l0 l1 l2 l3 l4 l5 hh => sX9_matchAll_31b R2 (sX9_matchAll_31 R2 k) l0 l1 l2 l3 l4 l5 hh
def fX9_matchAll_2b (n : Nat) (r2 : ai_H → Nat → Nat → Nat → Int32 → Option (Unit × ai_H)) (h : ai_H) (v0 : Nat) (v1 : Nat) (v2 : Nat) (v3 : Int32) : Option (Unit × ai_H) :=
  (pR n h v1 8 2).bind fun x1 =>
  (pI n h x1 6 4).bind fun x2 =>
  if x2 ≤ v3 then (
    (pR n h v2 5 5).bind fun x3 =>
    (pR n h v0 9 3).bind fun x4 =>
    (cA n h x3 (0 : Int32) x4 (0 : Int32) (9 : Int32)).bind fun h5 =>
    (pR n h5 v0 9 4).bind fun x6 =>
    (fJ7_fill_53178 n h5 x6 (-2 : Int32)).bind fun q7 =>
    (sF n q7.2 v0 9 6 (.int) (.int (-1 : Int32))).bind fun h8 =>
    (pR n h8 v1 8 2).bind fun x9 =>
    (pI n h8 x9 6 4).bind fun x10 =>
    (FX9_matchFrom n h8 v0 (0 : Int32) x10 (0 : Int32) (0 : Int32)).bind fun q11 =>
    some ((), q11.2))
  else (
    (fX9_openFor n h v1 v2 v3).bind fun q12 =>
    (pR n q12.2 v0 9 2).bind fun x13 =>
    (wX 1 (fun x => x) n q12.2 x13 v3 (0 : Int32)).bind fun h14 =>
    fX9_matchAll_31 n r2 bi_K h14 v0 v1 v2 v3 q12.1 (0 : Int32))
theorem sX9_matchAll_2b {n : Nat} {r2 : ai_H → Nat → Nat → Nat → Int32 → Option (Unit × ai_H)} {q : Unit × ai_H} {h : ai_H} {v0 : Nat} {v1 : Nat} {v2 : Nat} {v3 : Int32} {lv : ai_L} (R2 : ∀ (h : ai_H) (v0 : Nat) (v1 : Nat) (v2 : Nat) (v3 : Int32) (lv : ai_L), ai_ld 0 lv = some (.ref v0) → ai_ld 1 lv = some (.ref v1) → ai_ld 2 lv = some (.ref v2) → ai_ld 3 lv = some (.int v3) → r2 h v0 v1 v2 v3 = some q → bi_go 300 tX9_matchAll n (fV n q) 2 lv [] h) (l0 : ai_ld 0 lv = some (.ref v0)) (l1 : ai_ld 1 lv = some (.ref v1)) (l2 : ai_ld 2 lv = some (.ref v2)) (l3 : ai_ld 3 lv = some (.int v3)) (hh : fX9_matchAll_2b n r2 h v0 v1 v2 v3 = some q) : bi_go 300 tX9_matchAll n (fV n q) 2 lv [] h := by
  unfold fX9_matchAll_2b at hh
  refine go_il (pc := 2) rfl l3 ?_
  refine go_al (pc := 3) rfl l1 ?_
  obtain ⟨x1, ex1, hh⟩ := bi_bd hh
  refine go_gfR (pc := 4) rfl ex1 ?_
  obtain ⟨x2, ex2, hh⟩ := bi_bd hh
  refine go_gfI (pc := 7) rfl ex2 ?_
  refine bi_ite hh (fun hc hh => ?_) (fun hc hh => ?_)
  · refine go_cmpgeT (pc := 10) rfl hc ?_
    refine go_al (pc := 96) rfl l2 ?_
    obtain ⟨x3, ex3, hh⟩ := bi_bd hh
    refine go_gfR (pc := 97) rfl ex3 ?_
    refine go_pi (pc := 100) rfl ?_
    refine go_al (pc := 101) rfl l0 ?_
    obtain ⟨x4, ex4, hh⟩ := bi_bd hh
    refine go_gfR (pc := 102) rfl ex4 ?_
    refine go_pi (pc := 105) rfl ?_
    refine go_pi (pc := 106) rfl ?_
    obtain ⟨h5, eh5, hh⟩ := bi_bd hh
    refine go_cp (pc := 108) rfl eh5 (Nat.le_of_ble_eq_true rfl) ?_
    refine go_al (pc := 111) rfl l0 ?_
    obtain ⟨x6, ex6, hh⟩ := bi_bd hh
    refine go_gfR (pc := 112) rfl ex6 ?_
    refine go_pi (pc := 115) rfl ?_
    obtain ⟨q7, eq7, hh⟩ := bi_bd hh
    refine go_iSV (pc := 117) rfl (Nat.le_of_ble_eq_true rfl) rfl (Nat.le_of_ble_eq_true rfl) (bi_up (sJ7_fill_53178 eq7) (Nat.le_of_ble_eq_true rfl)) ?_
    refine go_al (pc := 120) rfl l0 ?_
    refine go_pi (pc := 121) rfl ?_
    obtain ⟨h8, eh8, hh⟩ := bi_bd hh
    refine go_pf (pc := 122) rfl eh8 ?_
    refine go_al (pc := 125) rfl l0 ?_
    refine go_pi (pc := 126) rfl ?_
    refine go_al (pc := 127) rfl l1 ?_
    obtain ⟨x9, ex9, hh⟩ := bi_bd hh
    refine go_gfR (pc := 128) rfl ex9 ?_
    obtain ⟨x10, ex10, hh⟩ := bi_bd hh
    refine go_gfI (pc := 131) rfl ex10 ?_
    refine go_pi (pc := 134) rfl ?_
    refine go_pi (pc := 135) rfl ?_
    obtain ⟨q11, eq11, hh⟩ := bi_bd hh
    refine go_ivV (pc := 136) rfl rfl (GX9_matchFrom eq11) (Nat.le_of_ble_eq_true rfl) (bi_up (SX9_matchFrom eq11) (Nat.le_of_ble_eq_true rfl)) ?_
    exact go_rv (pc := 139) rfl hh
  · refine go_cmpgeF (pc := 10) rfl hc ?_
    refine go_al (pc := 13) rfl l1 ?_
    refine go_al (pc := 14) rfl l2 ?_
    refine go_il (pc := 15) rfl l3 ?_
    obtain ⟨q12, eq12, hh⟩ := bi_bd hh
    refine go_iSI (pc := 16) rfl (Nat.le_of_ble_eq_true rfl) rfl (Nat.le_of_ble_eq_true rfl) (bi_up (sX9_openFor eq12) (Nat.le_of_ble_eq_true rfl)) ?_
    refine go_is (pc := 19) rfl ?_
    refine go_al (pc := 21) rfl (bi_k1 l0 rfl rfl) ?_
    obtain ⟨x13, ex13, hh⟩ := bi_bd hh
    refine go_gfR (pc := 22) rfl ex13 ?_
    refine go_il (pc := 25) rfl (bi_k1 l3 rfl rfl) ?_
    refine go_pi (pc := 26) rfl ?_
    obtain ⟨h14, eh14, hh⟩ := bi_bd hh
    refine go_iast (pc := 27) rfl eh14 ?_
    refine go_pi (pc := 28) rfl ?_
    refine go_is (pc := 29) rfl ?_
    exact sX9_matchAll_31 R2 _ _ _ _ _ _ _ _ _ (bi_k1 (bi_k1 l0 rfl rfl) rfl rfl) (bi_k1 (bi_k1 l1 rfl rfl) rfl rfl) (bi_k1 (bi_k1 l2 rfl rfl) rfl rfl) (bi_k1 (bi_k1 l3 rfl rfl) rfl rfl) (bi_k1 bi_e1 rfl rfl) bi_e1 hh
def fX9_matchAll_2 (n : Nat) : Nat → ai_H → Nat → Nat → Nat → Int32 → Option (Unit × ai_H)
  | 0 => fun _ _ _ _ _ => none
  | k + 1 => fun h v0 v1 v2 v3 => fX9_matchAll_2b n (fX9_matchAll_2 n k) h v0 v1 v2 v3
theorem sX9_matchAll_2 {n : Nat} {q : Unit × ai_H} : ∀ (k : Nat) (h : ai_H) (v0 : Nat) (v1 : Nat) (v2 : Nat) (v3 : Int32) (lv : ai_L), ai_ld 0 lv = some (.ref v0) → ai_ld 1 lv = some (.ref v1) → ai_ld 2 lv = some (.ref v2) → ai_ld 3 lv = some (.int v3) → fX9_matchAll_2 n k h v0 v1 v2 v3 = some q → bi_go 300 tX9_matchAll n (fV n q) 2 lv [] h
  | 0 => fun _ _ _ _ _ _ _ _ _ _ hh => by cases hh
  | k + 1 => fun h v0 v1 v2 v3 lv l0 l1 l2 l3 hh => sX9_matchAll_2b  (sX9_matchAll_2  k) l0 l1 l2 l3 hh
def fX9_matchAll (n : Nat) (h : ai_H) (a0 : Nat) (a1 : Nat) (a2 : Nat) : Option (Unit × ai_H) :=
  (kO n h a0 9).bind fun _ =>
  fX9_matchAll_2 n bi_K h a0 a1 a2 (0 : Int32)
theorem gX9_matchAll {n : Nat} {h : ai_H} {a0 : Nat} {a1 : Nat} {a2 : Nat} {q : Unit × ai_H} (hh : fX9_matchAll n h a0 a1 a2 = some q) : kO n h a0 9 = some () := by
  obtain ⟨_, e, -⟩ := bi_bd hh
  exact e
theorem sX9_matchAll {n : Nat} {h : ai_H} {a0 : Nat} {a1 : Nat} {a2 : Nat} {q : Unit × ai_H} (hh : fX9_matchAll n h a0 a1 a2 = some q) : bi_sp 301 86 [.ref a0, .ref a1, .ref a2] h n (fV n q) := by
  refine bi_en (D := 300) (T := tX9_matchAll) (funext fun pc => rfl) rfl (Nat.le_of_ble_eq_true rfl) ?_
  unfold fX9_matchAll at hh
  obtain ⟨_, eO, hh⟩ := bi_bd hh
  refine go_pi (pc := 0) rfl ?_
  refine go_is (pc := 1) rfl ?_
  exact sX9_matchAll_2  _ _ _ _ _ _ _ (bi_k1 (rfl : ai_ld 0 (lv_args 0 [.ref a0, .ref a1, .ref a2]) = some (.ref a0)) rfl rfl) (bi_k1 (rfl : ai_ld 1 (lv_args 0 [.ref a0, .ref a1, .ref a2]) = some (.ref a1)) rfl rfl) (bi_k1 (rfl : ai_ld 2 (lv_args 0 [.ref a0, .ref a1, .ref a2]) = some (.ref a2)) rfl rfl) bi_e1 hh
def fX10_putFour_3b (n : Nat) (r3 : ai_H → Nat → Int32 → Int32 → Option (Unit × ai_H)) (h : ai_H) (v0 : Nat) (v1 : Int32) (v2 : Int32) : Option (Unit × ai_H) :=
  if v2 < 0 then (
    some ((), h))
  else (
    (pI n h v0 10 1).bind fun x1 =>
    if (700 : Int32) ≤ x1 then (
      some ((), h))
    else (
      (pR n h v0 10 0).bind fun x2 =>
      (pI n h v0 10 1).bind fun x3 =>
      (wB n h x2 x3 ((v1 >>> (v2 &&& 31)).toInt8.toInt32)).bind fun h4 =>
      (pI n h4 v0 10 1).bind fun x5 =>
      (sF n h4 v0 10 1 (.int) (.int (x5 + (1 : Int32)))).bind fun h6 =>
      r3 h6 v0 v1 (v2 + (-8))))
theorem sX10_putFour_3b {n : Nat} {r3 : ai_H → Nat → Int32 → Int32 → Option (Unit × ai_H)} {q : Unit × ai_H} {h : ai_H} {v0 : Nat} {v1 : Int32} {v2 : Int32} {lv : ai_L} (R3 : ∀ (h : ai_H) (v0 : Nat) (v1 : Int32) (v2 : Int32) (lv : ai_L), ai_ld 0 lv = some (.ref v0) → ai_ld 1 lv = some (.int v1) → ai_ld 2 lv = some (.int v2) → r3 h v0 v1 v2 = some q → bi_go 0 tX10_putFour n (fV n q) 3 lv [] h) (l0 : ai_ld 0 lv = some (.ref v0)) (l1 : ai_ld 1 lv = some (.int v1)) (l2 : ai_ld 2 lv = some (.int v2)) (hh : fX10_putFour_3b n r3 h v0 v1 v2 = some q) : bi_go 0 tX10_putFour n (fV n q) 3 lv [] h := by
  unfold fX10_putFour_3b at hh
  refine go_il (pc := 3) rfl l2 ?_
  refine bi_ite hh (fun hc hh => ?_) (fun hc hh => ?_)
  · refine go_ifltT (pc := 4) rfl hc ?_
    exact go_rv (pc := 46) rfl hh
  · refine go_ifltF (pc := 4) rfl hc ?_
    refine go_al (pc := 7) rfl l0 ?_
    obtain ⟨x1, ex1, hh⟩ := bi_bd hh
    refine go_gfI (pc := 8) rfl ex1 ?_
    refine go_pi (pc := 11) rfl ?_
    refine bi_ite hh (fun hc hh => ?_) (fun hc hh => ?_)
    · refine go_cmpgeT (pc := 14) rfl hc ?_
      exact go_rv (pc := 46) rfl hh
    · refine go_cmpgeF (pc := 14) rfl hc ?_
      refine go_al (pc := 17) rfl l0 ?_
      obtain ⟨x2, ex2, hh⟩ := bi_bd hh
      refine go_gfR (pc := 18) rfl ex2 ?_
      refine go_al (pc := 21) rfl l0 ?_
      obtain ⟨x3, ex3, hh⟩ := bi_bd hh
      refine go_gfI (pc := 22) rfl ex3 ?_
      refine go_il (pc := 25) rfl l1 ?_
      refine go_il (pc := 26) rfl l2 ?_
      refine go_ishr (pc := 27) rfl ?_
      refine go_i2b (pc := 28) rfl ?_
      obtain ⟨h4, eh4, hh⟩ := bi_bd hh
      refine go_bast (pc := 29) rfl eh4 ?_
      refine go_al (pc := 30) rfl l0 ?_
      refine go_dup (pc := 31) rfl rfl ?_
      obtain ⟨x5, ex5, hh⟩ := bi_bd hh
      refine go_gfI (pc := 32) rfl ex5 ?_
      refine go_pi (pc := 35) rfl ?_
      refine go_iadd (pc := 36) rfl ?_
      obtain ⟨h6, eh6, hh⟩ := bi_bd hh
      refine go_pf (pc := 37) rfl eh6 ?_
      refine go_inc (pc := 40) rfl l2 ?_
      refine go_goto (pc := 43) rfl ?_
      exact R3 _ _ _ _ _ (bi_k1 l0 rfl rfl) (bi_k1 l1 rfl rfl) bi_e1 hh
def fX10_putFour_3 (n : Nat) : Nat → ai_H → Nat → Int32 → Int32 → Option (Unit × ai_H)
  | 0 => fun _ _ _ _ => none
  | k + 1 => fun h v0 v1 v2 => fX10_putFour_3b n (fX10_putFour_3 n k) h v0 v1 v2
theorem sX10_putFour_3 {n : Nat} {q : Unit × ai_H} : ∀ (k : Nat) (h : ai_H) (v0 : Nat) (v1 : Int32) (v2 : Int32) (lv : ai_L), ai_ld 0 lv = some (.ref v0) → ai_ld 1 lv = some (.int v1) → ai_ld 2 lv = some (.int v2) → fX10_putFour_3 n k h v0 v1 v2 = some q → bi_go 0 tX10_putFour n (fV n q) 3 lv [] h
  | 0 => fun _ _ _ _ _ _ _ _ hh => by cases hh
  | k + 1 => fun h v0 v1 v2 lv l0 l1 l2 hh => sX10_putFour_3b  (sX10_putFour_3  k) l0 l1 l2 hh
def fX10_putFour (n : Nat) (h : ai_H) (a0 : Nat) (a1 : Int32) : Option (Unit × ai_H) :=
  (kO n h a0 10).bind fun _ =>
  fX10_putFour_3 n bi_K h a0 a1 (24 : Int32)
theorem gX10_putFour {n : Nat} {h : ai_H} {a0 : Nat} {a1 : Int32} {q : Unit × ai_H} (hh : fX10_putFour n h a0 a1 = some q) : kO n h a0 10 = some () := by
  obtain ⟨_, e, -⟩ := bi_bd hh
  exact e
theorem sX10_putFour {n : Nat} {h : ai_H} {a0 : Nat} {a1 : Int32} {q : Unit × ai_H} (hh : fX10_putFour n h a0 a1 = some q) : bi_sp 1 90 [.ref a0, .int a1] h n (fV n q) := by
  refine bi_en (D := 0) (T := tX10_putFour) (funext fun pc => rfl) rfl (Nat.le_of_ble_eq_true rfl) ?_
  unfold fX10_putFour at hh
  obtain ⟨_, eO, hh⟩ := bi_bd hh
  refine go_pi (pc := 0) rfl ?_
  refine go_is (pc := 2) rfl ?_
  exact sX10_putFour_3  _ _ _ _ _ _ (bi_k1 (rfl : ai_ld 0 (lv_args 0 [.ref a0, .int a1]) = some (.ref a0)) rfl rfl) (bi_k1 (rfl : ai_ld 1 (lv_args 0 [.ref a0, .int a1]) = some (.int a1)) rfl rfl) bi_e1 hh
def fX10_feed (n : Nat) (h : ai_H) (a0 : Nat) (a1 : Int32) (a2 : Int32) (a3 : Int32) (a4 : Int32) (a5 : Int32) : Option (Int32 × ai_H) :=
  (kO n h a0 10).bind fun _ =>
  (pI n h a0 10 1).bind fun x1 =>
  if (x1 + (20 : Int32)) ≤ (700 : Int32) then (
    (fX10_putFour n h a0 a1).bind fun q2 =>
    (fX10_putFour n q2.2 a0 a2).bind fun q3 =>
    (fX10_putFour n q3.2 a0 a3).bind fun q4 =>
    (fX10_putFour n q4.2 a0 a4).bind fun q5 =>
    (fX10_putFour n q5.2 a0 a5).bind fun q6 =>
    (pI n q6.2 a0 10 1).bind fun x7 =>
    some (x7, q6.2))
  else (
    some ((-1 : Int32), h))
theorem gX10_feed {n : Nat} {h : ai_H} {a0 : Nat} {a1 : Int32} {a2 : Int32} {a3 : Int32} {a4 : Int32} {a5 : Int32} {q : Int32 × ai_H} (hh : fX10_feed n h a0 a1 a2 a3 a4 a5 = some q) : kO n h a0 10 = some () := by
  obtain ⟨_, e, -⟩ := bi_bd hh
  exact e
theorem sX10_feed {n : Nat} {h : ai_H} {a0 : Nat} {a1 : Int32} {a2 : Int32} {a3 : Int32} {a4 : Int32} {a5 : Int32} {q : Int32 × ai_H} (hh : fX10_feed n h a0 a1 a2 a3 a4 a5 = some q) : bi_sp 2 89 [.ref a0, .int a1, .int a2, .int a3, .int a4, .int a5] h n (fI n q) := by
  refine bi_en (D := 1) (T := tX10_feed) (funext fun pc => rfl) rfl (Nat.le_of_ble_eq_true rfl) ?_
  unfold fX10_feed at hh
  obtain ⟨_, eO, hh⟩ := bi_bd hh
  refine go_al (pc := 0) rfl (rfl : ai_ld 0 (lv_args 0 [.ref a0, .int a1, .int a2, .int a3, .int a4, .int a5]) = some (.ref a0)) ?_
  obtain ⟨x1, ex1, hh⟩ := bi_bd hh
  refine go_gfI (pc := 1) rfl ex1 ?_
  refine go_pi (pc := 4) rfl ?_
  refine go_iadd (pc := 6) rfl ?_
  refine go_pi (pc := 7) rfl ?_
  refine bi_ite hh (fun hc hh => ?_) (fun hc hh => ?_)
  · refine go_cmpleT (pc := 10) rfl hc ?_
    refine go_al (pc := 15) rfl (rfl : ai_ld 0 (lv_args 0 [.ref a0, .int a1, .int a2, .int a3, .int a4, .int a5]) = some (.ref a0)) ?_
    refine go_il (pc := 16) rfl (rfl : ai_ld 1 (lv_args 0 [.ref a0, .int a1, .int a2, .int a3, .int a4, .int a5]) = some (.int a1)) ?_
    obtain ⟨q2, eq2, hh⟩ := bi_bd hh
    refine go_ivV (pc := 17) rfl rfl (gX10_putFour eq2) (Nat.le_of_ble_eq_true rfl) (bi_up (sX10_putFour eq2) (Nat.le_of_ble_eq_true rfl)) ?_
    refine go_al (pc := 20) rfl (rfl : ai_ld 0 (lv_args 0 [.ref a0, .int a1, .int a2, .int a3, .int a4, .int a5]) = some (.ref a0)) ?_
    refine go_il (pc := 21) rfl (rfl : ai_ld 2 (lv_args 0 [.ref a0, .int a1, .int a2, .int a3, .int a4, .int a5]) = some (.int a2)) ?_
    obtain ⟨q3, eq3, hh⟩ := bi_bd hh
    refine go_ivV (pc := 22) rfl rfl (gX10_putFour eq3) (Nat.le_of_ble_eq_true rfl) (bi_up (sX10_putFour eq3) (Nat.le_of_ble_eq_true rfl)) ?_
    refine go_al (pc := 25) rfl (rfl : ai_ld 0 (lv_args 0 [.ref a0, .int a1, .int a2, .int a3, .int a4, .int a5]) = some (.ref a0)) ?_
    refine go_il (pc := 26) rfl (rfl : ai_ld 3 (lv_args 0 [.ref a0, .int a1, .int a2, .int a3, .int a4, .int a5]) = some (.int a3)) ?_
    obtain ⟨q4, eq4, hh⟩ := bi_bd hh
    refine go_ivV (pc := 27) rfl rfl (gX10_putFour eq4) (Nat.le_of_ble_eq_true rfl) (bi_up (sX10_putFour eq4) (Nat.le_of_ble_eq_true rfl)) ?_
    refine go_al (pc := 30) rfl (rfl : ai_ld 0 (lv_args 0 [.ref a0, .int a1, .int a2, .int a3, .int a4, .int a5]) = some (.ref a0)) ?_
    refine go_il (pc := 31) rfl (rfl : ai_ld 4 (lv_args 0 [.ref a0, .int a1, .int a2, .int a3, .int a4, .int a5]) = some (.int a4)) ?_
    obtain ⟨q5, eq5, hh⟩ := bi_bd hh
    refine go_ivV (pc := 33) rfl rfl (gX10_putFour eq5) (Nat.le_of_ble_eq_true rfl) (bi_up (sX10_putFour eq5) (Nat.le_of_ble_eq_true rfl)) ?_
    refine go_al (pc := 36) rfl (rfl : ai_ld 0 (lv_args 0 [.ref a0, .int a1, .int a2, .int a3, .int a4, .int a5]) = some (.ref a0)) ?_
    refine go_il (pc := 37) rfl (rfl : ai_ld 5 (lv_args 0 [.ref a0, .int a1, .int a2, .int a3, .int a4, .int a5]) = some (.int a5)) ?_
    obtain ⟨q6, eq6, hh⟩ := bi_bd hh
    refine go_ivV (pc := 39) rfl rfl (gX10_putFour eq6) (Nat.le_of_ble_eq_true rfl) (bi_up (sX10_putFour eq6) (Nat.le_of_ble_eq_true rfl)) ?_
    refine go_al (pc := 42) rfl (rfl : ai_ld 0 (lv_args 0 [.ref a0, .int a1, .int a2, .int a3, .int a4, .int a5]) = some (.ref a0)) ?_
    obtain ⟨x7, ex7, hh⟩ := bi_bd hh
    refine go_gfI (pc := 43) rfl ex7 ?_
    exact go_ri (pc := 46) rfl hh
  · refine go_cmpleF (pc := 10) rfl hc ?_
    refine go_pi (pc := 13) rfl ?_
    exact go_ri (pc := 14) rfl hh
def fX10_fault (n : Nat) (h : ai_H) (a0 : Nat) (a1 : Int32) : Option (Int32 × ai_H) :=
  (kO n h a0 10).bind fun _ =>
  if a1 = 0 then (
    (pR n h a0 10 2).bind fun x1 =>
    (pI n h x1 3 3).bind fun x2 =>
    some (x2, h))
  else (
    if a1 = 1 then (
      (pR n h a0 10 2).bind fun x3 =>
      (pI n h x3 3 4).bind fun x4 =>
      some (x4, h))
    else (
      some ((-1 : Int32), h)))
theorem gX10_fault {n : Nat} {h : ai_H} {a0 : Nat} {a1 : Int32} {q : Int32 × ai_H} (hh : fX10_fault n h a0 a1 = some q) : kO n h a0 10 = some () := by
  obtain ⟨_, e, -⟩ := bi_bd hh
  exact e
theorem sX10_fault {n : Nat} {h : ai_H} {a0 : Nat} {a1 : Int32} {q : Int32 × ai_H} (hh : fX10_fault n h a0 a1 = some q) : bi_sp 1 92 [.ref a0, .int a1] h n (fI n q) := by
  refine bi_en (D := 0) (T := tX10_fault) (funext fun pc => rfl) rfl (Nat.le_of_ble_eq_true rfl) ?_
  unfold fX10_fault at hh
  obtain ⟨_, eO, hh⟩ := bi_bd hh
  refine go_il (pc := 0) rfl (rfl : ai_ld 1 (lv_args 0 [.ref a0, .int a1]) = some (.int a1)) ?_
  refine bi_ite hh (fun hc0 hh => ?_) (fun hc0 hh => ?_)
  · refine go_swc (t := 28) 0 (pc := 1) rfl hc0 (by decide) ?_
    refine go_al (pc := 28) rfl (rfl : ai_ld 0 (lv_args 0 [.ref a0, .int a1]) = some (.ref a0)) ?_
    obtain ⟨x1, ex1, hh⟩ := bi_bd hh
    refine go_gfR (pc := 29) rfl ex1 ?_
    obtain ⟨x2, ex2, hh⟩ := bi_bd hh
    refine go_gfI (pc := 32) rfl ex2 ?_
    exact go_ri (pc := 35) rfl hh
  · skip
    refine bi_ite hh (fun hc1 hh => ?_) (fun hc1 hh => ?_)
    · refine go_swc (t := 36) 1 (pc := 1) rfl hc1 (by decide) ?_
      refine go_al (pc := 36) rfl (rfl : ai_ld 0 (lv_args 0 [.ref a0, .int a1]) = some (.ref a0)) ?_
      obtain ⟨x3, ex3, hh⟩ := bi_bd hh
      refine go_gfR (pc := 37) rfl ex3 ?_
      obtain ⟨x4, ex4, hh⟩ := bi_bd hh
      refine go_gfI (pc := 40) rfl ex4 ?_
      exact go_ri (pc := 43) rfl hh
    · skip
      refine go_swd (pc := 1) rfl (fun i hi => match i, hi with | 0, _ => Or.inr (lv_neT hc0 (by decide)) | 1, _ => Or.inr (lv_neT hc1 (by decide)) | i + 2, hi => absurd hi (Nat.not_lt.mpr (Nat.le_add_left _ _))) ?_
      refine go_pi (pc := 44) rfl ?_
      exact go_ri (pc := 45) rfl hh
