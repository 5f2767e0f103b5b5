/-! ===== methods as functions, part 21 ===== -/
def fX11_settle_118 (n : Nat) (r58 : ai_H → Nat → Int32 → Int32 → Int32 → Option (Unit × ai_H)) (r64 : ai_H → Nat → Int32 → Int32 → Int32 → Int32 → Int32 → Option (Unit × ai_H)) (h : ai_H) (v0 : Nat) (v1 : Int32) (v2 : Int32) (v3 : Int32) (v4 : Int32) (v5 : Int32) : Option (Unit × ai_H) :=
  r64 h v0 v1 v2 v3 v4 (v5 + 1)
theorem sX11_settle_118 {n : Nat} {r58 : ai_H → Nat → Int32 → Int32 → Int32 → Option (Unit × ai_H)} {r64 : ai_H → Nat → Int32 → Int32 → Int32 → Int32 → Int32 → Option (Unit × ai_H)} {q : Unit × ai_H} {h : ai_H} {v0 : Nat} {v1 : Int32} {v2 : Int32} {v3 : Int32} {v4 : Int32} {v5 : Int32} {lv : ai_L} (R58 : ∀ (h : ai_H) (v0 : Nat) (v1 : Int32) (v2 : Int32) (v3 : Int32) (lv : ai_L), ai_ld 0 lv = some (.ref v0) → ai_ld 1 lv = some (.int v1) → ai_ld 2 lv = some (.int v2) → ai_ld 3 lv = some (.int v3) → r58 h v0 v1 v2 v3 = some q → bi_go 1 tX11_settle n (fV n q) 58 lv [] h) (R64 : ∀ (h : ai_H) (v0 : Nat) (v1 : Int32) (v2 : Int32) (v3 : Int32) (v4 : Int32) (v5 : Int32) (lv : ai_L), ai_ld 0 lv = some (.ref v0) → ai_ld 1 lv = some (.int v1) → ai_ld 2 lv = some (.int v2) → ai_ld 3 lv = some (.int v3) → ai_ld 4 lv = some (.int v4) → ai_ld 5 lv = some (.int v5) → r64 h v0 v1 v2 v3 v4 v5 = some q → bi_go 1 tX11_settle n (fV n q) 64 lv [] h) (l0 : ai_ld 0 lv = some (.ref v0)) (l1 : ai_ld 1 lv = some (.int v1)) (l2 : ai_ld 2 lv = some (.int v2)) (l3 : ai_ld 3 lv = some (.int v3)) (l4 : ai_ld 4 lv = some (.int v4)) (l5 : ai_ld 5 lv = some (.int v5)) (hh : fX11_settle_118 n r58 r64 h v0 v1 v2 v3 v4 v5 = some q) : bi_go 1 tX11_settle n (fV n q) 118 lv [] h := by
  unfold fX11_settle_118 at hh
  refine go_inc (pc := 118) rfl l5 ?_
  refine go_goto (pc := 121) rfl ?_
  exact R64 _ _ _ _ _ _ _ _ (bi_k1 l0 rfl rfl) (bi_k1 l1 rfl rfl) (bi_k1 l2 rfl rfl) (bi_k1 l3 rfl rfl) (bi_k1 l4 rfl rfl) bi_e1 hh
def fX11_settle_114 (n : Nat) (r58 : ai_H → Nat → Int32 → Int32 → Int32 → Option (Unit × ai_H)) (r64 : ai_H → Nat → Int32 → Int32 → Int32 → Int32 → Int32 → Option (Unit × ai_H)) (h : ai_H) (v0 : Nat) (v1 : Int32) (v2 : Int32) (v3 : Int32) (v5 : Int32) : Option (Unit × ai_H) :=
  fX11_settle_118 n r58 r64 h v0 v1 v2 v3 v5 v5
theorem sX11_settle_114 {n : Nat} {r58 : ai_H → Nat → Int32 → Int32 → Int32 → Option (Unit × ai_H)} {r64 : ai_H → Nat → Int32 → Int32 → Int32 → Int32 → Int32 → Option (Unit × ai_H)} {q : Unit × ai_H} {h : ai_H} {v0 : Nat} {v1 : Int32} {v2 : Int32} {v3 : Int32} {v5 : Int32} {lv : ai_L} (R58 : ∀ (h : ai_H) (v0 : Nat) (v1 : Int32) (v2 : Int32) (v3 : Int32) (lv : ai_L), ai_ld 0 lv = some (.ref v0) → ai_ld 1 lv = some (.int v1) → ai_ld 2 lv = some (.int v2) → ai_ld 3 lv = some (.int v3) → r58 h v0 v1 v2 v3 = some q → bi_go 1 tX11_settle n (fV n q) 58 lv [] h) (R64 : ∀ (h : ai_H) (v0 : Nat) (v1 : Int32) (v2 : Int32) (v3 : Int32) (v4 : Int32) (v5 : Int32) (lv : ai_L), ai_ld 0 lv = some (.ref v0) → ai_ld 1 lv = some (.int v1) → ai_ld 2 lv = some (.int v2) → ai_ld 3 lv = some (.int v3) → ai_ld 4 lv = some (.int v4) → ai_ld 5 lv = some (.int v5) → r64 h v0 v1 v2 v3 v4 v5 = some q → bi_go 1 tX11_settle n (fV n q) 64 lv [] h) (l0 : ai_ld 0 lv = some (.ref v0)) (l1 : ai_ld 1 lv = some (.int v1)) (l2 : ai_ld 2 lv = some (.int v2)) (l3 : ai_ld 3 lv = some (.int v3)) (l5 : ai_ld 5 lv = some (.int v5)) (hh : fX11_settle_114 n r58 r64 h v0 v1 v2 v3 v5 = some q) : bi_go 1 tX11_settle n (fV n q) 114 lv [] h := by
  unfold fX11_settle_114 at hh
  refine go_il (pc := 114) rfl l5 ?_
  refine go_is (pc := 116) rfl ?_
  exact sX11_settle_118 R58 R64 (bi_k1 l0 rfl rfl) (bi_k1 l1 rfl rfl) (bi_k1 l2 rfl rfl) (bi_k1 l3 rfl rfl) bi_e1 (bi_k1 l5 rfl rfl) hh
def fX11_settle_267 (n : Nat) (r58 : ai_H → Nat → Int32 → Int32 → Int32 → Option (Unit × ai_H)) (r141 : ai_H → Nat → Int32 → Int32 → Int32 → Int32 → Int32 → Option (Unit × ai_H)) (h : ai_H) (v0 : Nat) (v1 : Int32) (v2 : Int32) (v3 : Int32) (v4 : Int32) (v5 : Int32) : Option (Unit × ai_H) :=
  r141 h v0 v1 v2 v3 v4 (v5 + 1)
theorem sX11_settle_267 {n : Nat} {r58 : ai_H → Nat → Int32 → Int32 → Int32 → Option (Unit × ai_H)} {r141 : ai_H → Nat → Int32 → Int32 → Int32 → Int32 → Int32 → Option (Unit × ai_H)} {q : Unit × ai_H} {h : ai_H} {v0 : Nat} {v1 : Int32} {v2 : Int32} {v3 : Int32} {v4 : Int32} {v5 : Int32} {lv : ai_L} (R58 : ∀ (h : ai_H) (v0 : Nat) (v1 : Int32) (v2 : Int32) (v3 : Int32) (lv : ai_L), ai_ld 0 lv = some (.ref v0) → ai_ld 1 lv = some (.int v1) → ai_ld 2 lv = some (.int v2) → ai_ld 3 lv = some (.int v3) → r58 h v0 v1 v2 v3 = some q → bi_go 1 tX11_settle n (fV n q) 58 lv [] h) (R141 : ∀ (h : ai_H) (v0 : Nat) (v1 : Int32) (v2 : Int32) (v3 : Int32) (v4 : Int32) (v5 : Int32) (lv : ai_L), ai_ld 0 lv = some (.ref v0) → ai_ld 1 lv = some (.int v1) → ai_ld 2 lv = some (.int v2) → ai_ld 3 lv = some (.int v3) → ai_ld 4 lv = some (.int v4) → ai_ld 5 lv = some (.int v5) → r141 h v0 v1 v2 v3 v4 v5 = some q → bi_go 1 tX11_settle n (fV n q) 141 lv [] h) (l0 : ai_ld 0 lv = some (.ref v0)) (l1 : ai_ld 1 lv = some (.int v1)) (l2 : ai_ld 2 lv = some (.int v2)) (l3 : ai_ld 3 lv = some (.int v3)) (l4 : ai_ld 4 lv = some (.int v4)) (l5 : ai_ld 5 lv = some (.int v5)) (hh : fX11_settle_267 n r58 r141 h v0 v1 v2 v3 v4 v5 = some q) : bi_go 1 tX11_settle n (fV n q) 267 lv [] h := by
  unfold fX11_settle_267 at hh
  refine go_inc (pc := 267) rfl l5 ?_
  refine go_goto (pc := 270) rfl ?_
  exact R141 _ _ _ _ _ _ _ _ (bi_k1 l0 rfl rfl) (bi_k1 l1 rfl rfl) (bi_k1 l2 rfl rfl) (bi_k1 l3 rfl rfl) (bi_k1 l4 rfl rfl) bi_e1 hh
def fX11_settle_258 (n : Nat) (r58 : ai_H → Nat → Int32 → Int32 → Int32 → Option (Unit × ai_H)) (r141 : ai_H → Nat → Int32 → Int32 → Int32 → Int32 → Int32 → Option (Unit × ai_H)) (h : ai_H) (v0 : Nat) (v1 : Int32) (v2 : Int32) (v3 : Int32) (v4 : Int32) (v5 : Int32) (v6 : Int32) (v7 : Int32) : Option (Unit × ai_H) :=
  (pR n h v0 11 77).bind fun x1 =>
  (wX 1 (fun x => x) n h x1 v7 v6).bind fun h2 =>
  fX11_settle_267 n r58 r141 h2 v0 v1 v2 v3 v4 v5
theorem sX11_settle_258 {n : Nat} {r58 : ai_H → Nat → Int32 → Int32 → Int32 → Option (Unit × ai_H)} {r141 : ai_H → Nat → Int32 → Int32 → Int32 → Int32 → Int32 → Option (Unit × ai_H)} {q : Unit × ai_H} {h : ai_H} {v0 : Nat} {v1 : Int32} {v2 : Int32} {v3 : Int32} {v4 : Int32} {v5 : Int32} {v6 : Int32} {v7 : Int32} {lv : ai_L} (R58 : ∀ (h : ai_H) (v0 : Nat) (v1 : Int32) (v2 : Int32) (v3 : Int32) (lv : ai_L), ai_ld 0 lv = some (.ref v0) → ai_ld 1 lv = some (.int v1) → ai_ld 2 lv = some (.int v2) → ai_ld 3 lv = some (.int v3) → r58 h v0 v1 v2 v3 = some q → bi_go 1 tX11_settle n (fV n q) 58 lv [] h) (R141 : ∀ (h : ai_H) (v0 : Nat) (v1 : Int32) (v2 : Int32) (v3 : Int32) (v4 : Int32) (v5 : Int32) (lv : ai_L), ai_ld 0 lv = some (.ref v0) → ai_ld 1 lv = some (.int v1) → ai_ld 2 lv = some (.int v2) → ai_ld 3 lv = some (.int v3) → ai_ld 4 lv = some (.int v4) → ai_ld 5 lv = some (.int v5) → r141 h v0 v1 v2 v3 v4 v5 = some q → bi_go 1 tX11_settle n (fV n q) 141 lv [] h) (l0 : ai_ld 0 lv = some (.ref v0)) (l1 : ai_ld 1 lv = some (.int v1)) (l2 : ai_ld 2 lv = some (.int v2)) (l3 : ai_ld 3 lv = some (.int v3)) (l4 : ai_ld 4 lv = some (.int v4)) (l5 : ai_ld 5 lv = some (.int v5)) (l6 : ai_ld 6 lv = some (.int v6)) (l7 : ai_ld 7 lv = some (.int v7)) (hh : fX11_settle_258 n r58 r141 h v0 v1 v2 v3 v4 v5 v6 v7 = some q) : bi_go 1 tX11_settle n (fV n q) 258 lv [] h := by
  unfold fX11_settle_258 at hh
  refine go_al (pc := 258) rfl l0 ?_
  obtain ⟨x1, ex1, hh⟩ := bi_bd hh
  refine go_gfR (pc := 259) rfl ex1 ?_
  refine go_il (pc := 262) rfl l7 ?_
  refine go_il (pc := 264) rfl l6 ?_
  obtain ⟨h2, eh2, hh⟩ := bi_bd hh
  refine go_iast (pc := 266) rfl eh2 ?_
  exact sX11_settle_267 R58 R141 l0 l1 l2 l3 l4 l5 hh
def fX11_settle_141b (n : Nat) (r58 : ai_H → Nat → Int32 → Int32 → Int32 → Option (Unit × ai_H)) (r141 : ai_H → Nat → Int32 → Int32 → Int32 → Int32 → Int32 → Option (Unit × ai_H)) (h : ai_H) (v0 : Nat) (v1 : Int32) (v2 : Int32) (v3 : Int32) (v4 : Int32) (v5 : Int32) : Option (Unit × ai_H) :=
  (pI n h v0 11 13).bind fun x1 =>
  if x1 ≤ v5 then (
    r58 h v0 v1 v2 v3)
  else (
    (fX11_isOpen n h v0 v5 v1).bind fun q2 =>
    if q2.1 = 0 then (
      fX11_settle_267 n r58 r141 q2.2 v0 v1 v2 v3 v4 v5)
    else (
      (dI v4 (512 : Int32)).bind fun x3 =>
      (fX11_isAtEnd n q2.2 v0 v5 x3).bind fun q4 =>
      if ¬ q4.1 = 0 then (
        (pR n q4.2 v0 11 77).bind fun x5 =>
        (gX 1 n q4.2 x5 v4).bind fun x6 =>
        (pR n q4.2 v0 11 30).bind fun x7 =>
        (gX 1 n q4.2 x7 v5).bind fun x8 =>
        (fX11_takesMore n q4.2 v0 x6 x8 v3).bind fun q9 =>
        (dI v4 (512 : Int32)).bind fun x10 =>
        (fX11_otherEnd n q9.2 v0 v5 x10).bind fun q11 =>
        (rI v4 (512 : Int32)).bind fun x12 =>
        if q9.1 < 0 then (
          fX11_settle_267 n r58 r141 q11.2 v0 v1 v2 v3 v4 v5)
        else (
          (pR n q11.2 v0 11 77).bind fun x13 =>
          (gX 1 n q11.2 x13 (((512 : Int32) * q11.1) + (x12 ||| (v2 &&& ((1 : Int32) <<< (v5 &&& 31)))))).bind fun x14 =>
          if x14 < 0 then (
            fX11_settle_258 n r58 r141 q11.2 v0 v1 v2 v3 v4 v5 q9.1 (((512 : Int32) * q11.1) + (x12 ||| (v2 &&& ((1 : Int32) <<< (v5 &&& 31))))))
          else (
            (pR n q11.2 v0 11 77).bind fun x15 =>
            (gX 1 n q11.2 x15 (((512 : Int32) * q11.1) + (x12 ||| (v2 &&& ((1 : Int32) <<< (v5 &&& 31)))))).bind fun x16 =>
            if x16 ≤ q9.1 then (
              fX11_settle_267 n r58 r141 q11.2 v0 v1 v2 v3 v4 v5)
            else (
              fX11_settle_258 n r58 r141 q11.2 v0 v1 v2 v3 v4 v5 q9.1 (((512 : Int32) * q11.1) + (x12 ||| (v2 &&& ((1 : Int32) <<< (v5 &&& 31)))))))))
      else (
        fX11_settle_267 n r58 r141 q4.2 v0 v1 v2 v3 v4 v5)))
theorem sX11_settle_141b {n : Nat} {r58 : ai_H → Nat → Int32 → Int32 → Int32 → Option (Unit × ai_H)} {r141 : ai_H → Nat → Int32 → Int32 → Int32 → Int32 → Int32 → Option (Unit × ai_H)} {q : Unit × ai_H} {h : ai_H} {v0 : Nat} {v1 : Int32} {v2 : Int32} {v3 : Int32} {v4 : Int32} {v5 : Int32} {lv : ai_L} (R58 : ∀ (h : ai_H) (v0 : Nat) (v1 : Int32) (v2 : Int32) (v3 : Int32) (lv : ai_L), ai_ld 0 lv = some (.ref v0) → ai_ld 1 lv = some (.int v1) → ai_ld 2 lv = some (.int v2) → ai_ld 3 lv = some (.int v3) → r58 h v0 v1 v2 v3 = some q → bi_go 1 tX11_settle n (fV n q) 58 lv [] h) (R141 : ∀ (h : ai_H) (v0 : Nat) (v1 : Int32) (v2 : Int32) (v3 : Int32) (v4 : Int32) (v5 : Int32) (lv : ai_L), ai_ld 0 lv = some (.ref v0) → ai_ld 1 lv = some (.int v1) → ai_ld 2 lv = some (.int v2) → ai_ld 3 lv = some (.int v3) → ai_ld 4 lv = some (.int v4) → ai_ld 5 lv = some (.int v5) → r141 h v0 v1 v2 v3 v4 v5 = some q → bi_go 1 tX11_settle n (fV n q) 141 lv [] h) (l0 : ai_ld 0 lv = some (.ref v0)) (l1 : ai_ld 1 lv = some (.int v1)) (l2 : ai_ld 2 lv = some (.int v2)) (l3 : ai_ld 3 lv = some (.int v3)) (l4 : ai_ld 4 lv = some (.int v4)) (l5 : ai_ld 5 lv = some (.int v5)) (hh : fX11_settle_141b n r58 r141 h v0 v1 v2 v3 v4 v5 = some q) : bi_go 1 tX11_settle n (fV n q) 141 lv [] h := by
  unfold fX11_settle_141b at hh
  refine go_il (pc := 141) rfl l5 ?_
  refine go_al (pc := 143) rfl l0 ?_
  obtain ⟨x1, ex1, hh⟩ := bi_bd hh
  refine go_gfI (pc := 144) rfl ex1 ?_
  refine bi_ite hh (fun hc hh => ?_) (fun hc hh => ?_)
  · refine go_cmpgeT (pc := 147) rfl hc ?_
    refine go_goto (pc := 273) rfl ?_
    exact R58 _ _ _ _ _ _ l0 l1 l2 l3 hh
  · refine go_cmpgeF (pc := 147) rfl hc ?_
    refine go_al (pc := 150) rfl l0 ?_
    refine go_il (pc := 151) rfl l5 ?_
    refine go_il (pc := 153) rfl l1 ?_
    obtain ⟨q2, eq2, hh⟩ := bi_bd hh
    refine go_ivI (pc := 154) rfl rfl (gX11_isOpen eq2) (Nat.le_of_ble_eq_true rfl) (bi_up (sX11_isOpen eq2) (Nat.le_of_ble_eq_true rfl)) ?_
    refine bi_ite hh (fun hc hh => ?_) (fun hc hh => ?_)
    · refine go_ifeqT (pc := 157) rfl hc ?_
      exact sX11_settle_267 R58 R141 l0 l1 l2 l3 l4 l5 hh
    · refine go_ifeqF (pc := 157) rfl hc ?_
      refine go_al (pc := 160) rfl l0 ?_
      refine go_il (pc := 161) rfl l5 ?_
      refine go_il (pc := 163) rfl l4 ?_
      refine go_pi (pc := 165) rfl ?_
      obtain ⟨x3, ex3, hh⟩ := bi_bd hh
      refine go_idiv (pc := 168) rfl ex3 ?_
      obtain ⟨q4, eq4, hh⟩ := bi_bd hh
      refine go_ivI (pc := 169) rfl rfl (gX11_isAtEnd eq4) (Nat.le_of_ble_eq_true rfl) (bi_up (sX11_isAtEnd eq4) (Nat.le_of_ble_eq_true rfl)) ?_
      refine bi_ite hh (fun hc hh => ?_) (fun hc hh => ?_)
      · refine go_ifneT (pc := 172) rfl hc ?_
        refine go_al (pc := 178) rfl l0 ?_
        refine go_al (pc := 179) rfl l0 ?_
        obtain ⟨x5, ex5, hh⟩ := bi_bd hh
        refine go_gfR (pc := 180) rfl ex5 ?_
        refine go_il (pc := 183) rfl l4 ?_
        obtain ⟨x6, ex6, hh⟩ := bi_bd hh
        refine go_iald (pc := 185) rfl ex6 ?_
        refine go_al (pc := 186) rfl l0 ?_
        obtain ⟨x7, ex7, hh⟩ := bi_bd hh
        refine go_gfR (pc := 187) rfl ex7 ?_
        refine go_il (pc := 190) rfl l5 ?_
        obtain ⟨x8, ex8, hh⟩ := bi_bd hh
        refine go_iald (pc := 192) rfl ex8 ?_
        refine go_il (pc := 193) rfl l3 ?_
        obtain ⟨q9, eq9, hh⟩ := bi_bd hh
        refine go_ivI (pc := 194) rfl rfl (gX11_takesMore eq9) (Nat.le_of_ble_eq_true rfl) (bi_up (sX11_takesMore eq9) (Nat.le_of_ble_eq_true rfl)) ?_
        refine go_is (pc := 197) rfl ?_
        refine go_pi (pc := 199) rfl ?_
        refine go_al (pc := 202) rfl (bi_k1 l0 rfl rfl) ?_
        refine go_il (pc := 203) rfl (bi_k1 l5 rfl rfl) ?_
        refine go_il (pc := 205) rfl (bi_k1 l4 rfl rfl) ?_
        refine go_pi (pc := 207) rfl ?_
        obtain ⟨x10, ex10, hh⟩ := bi_bd hh
        refine go_idiv (pc := 210) rfl ex10 ?_
        obtain ⟨q11, eq11, hh⟩ := bi_bd hh
        refine go_ivI (pc := 211) rfl rfl (gX11_otherEnd eq11) (Nat.le_of_ble_eq_true rfl) (bi_up (sX11_otherEnd eq11) (Nat.le_of_ble_eq_true rfl)) ?_
        refine go_imul (pc := 214) rfl ?_
        refine go_il (pc := 215) rfl (bi_k1 l4 rfl rfl) ?_
        refine go_pi (pc := 217) rfl ?_
        obtain ⟨x12, ex12, hh⟩ := bi_bd hh
        refine go_irem (pc := 220) rfl ex12 ?_
        refine go_il (pc := 221) rfl (bi_k1 l2 rfl rfl) ?_
        refine go_pi (pc := 222) rfl ?_
        refine go_il (pc := 223) rfl (bi_k1 l5 rfl rfl) ?_
        refine go_ishl (pc := 225) rfl ?_
        refine go_iand (pc := 226) rfl ?_
        refine go_ior (pc := 227) rfl ?_
        refine go_iadd (pc := 228) rfl ?_
        refine go_is (pc := 229) rfl ?_
        refine go_il (pc := 231) rfl (bi_k1 bi_e1 rfl rfl) ?_
        refine bi_ite hh (fun hc hh => ?_) (fun hc hh => ?_)
        · refine go_ifltT (pc := 233) rfl hc ?_
          exact sX11_settle_267 R58 R141 (bi_k1 (bi_k1 l0 rfl rfl) rfl rfl) (bi_k1 (bi_k1 l1 rfl rfl) rfl rfl) (bi_k1 (bi_k1 l2 rfl rfl) rfl rfl) (bi_k1 (bi_k1 l3 rfl rfl) rfl rfl) (bi_k1 (bi_k1 l4 rfl rfl) rfl rfl) (bi_k1 (bi_k1 l5 rfl rfl) rfl rfl) hh
        · refine go_ifltF (pc := 233) rfl hc ?_
          refine go_al (pc := 236) rfl (bi_k1 (bi_k1 l0 rfl rfl) rfl rfl) ?_
          obtain ⟨x13, ex13, hh⟩ := bi_bd hh
          refine go_gfR (pc := 237) rfl ex13 ?_
          refine go_il (pc := 240) rfl bi_e1 ?_
          obtain ⟨x14, ex14, hh⟩ := bi_bd hh
          refine go_iald (pc := 242) rfl ex14 ?_
          refine bi_ite hh (fun hc hh => ?_) (fun hc hh => ?_)
          · refine go_ifltT (pc := 243) rfl hc ?_
            exact sX11_settle_258 R58 R141 (bi_k1 (bi_k1 l0 rfl rfl) rfl rfl) (bi_k1 (bi_k1 l1 rfl rfl) rfl rfl) (bi_k1 (bi_k1 l2 rfl rfl) rfl rfl) (bi_k1 (bi_k1 l3 rfl rfl) rfl rfl) (bi_k1 (bi_k1 l4 rfl rfl) rfl rfl) (bi_k1 (bi_k1 l5 rfl rfl) rfl rfl) (bi_k1 bi_e1 rfl rfl) bi_e1 hh
          · refine go_ifltF (pc := 243) rfl hc ?_
            refine go_il (pc := 246) rfl (bi_k1 bi_e1 rfl rfl) ?_
            refine go_al (pc := 248) rfl (bi_k1 (bi_k1 l0 rfl rfl) rfl rfl) ?_
            obtain ⟨x15, ex15, hh⟩ := bi_bd hh
            refine go_gfR (pc := 249) rfl ex15 ?_
            refine go_il (pc := 252) rfl bi_e1 ?_
            obtain ⟨x16, ex16, hh⟩ := bi_bd hh
            refine go_iald (pc := 254) rfl ex16 ?_
            refine bi_ite hh (fun hc hh => ?_) (fun hc hh => ?_)
            · refine go_cmpgeT (pc := 255) rfl hc ?_
              exact sX11_settle_267 R58 R141 (bi_k1 (bi_k1 l0 rfl rfl) rfl rfl) (bi_k1 (bi_k1 l1 rfl rfl) rfl rfl) (bi_k1 (bi_k1 l2 rfl rfl) rfl rfl) (bi_k1 (bi_k1 l3 rfl rfl) rfl rfl) (bi_k1 (bi_k1 l4 rfl rfl) rfl rfl) (bi_k1 (bi_k1 l5 rfl rfl) rfl rfl) hh
            · refine go_cmpgeF (pc := 255) rfl hc ?_
              exact sX11_settle_258 R58 R141 (bi_k1 (bi_k1 l0 rfl rfl) rfl rfl) (bi_k1 (bi_k1 l1 rfl rfl) rfl rfl) (bi_k1 (bi_k1 l2 rfl rfl) rfl rfl) (bi_k1 (bi_k1 l3 rfl rfl) rfl rfl) (bi_k1 (bi_k1 l4 rfl rfl) rfl rfl) (bi_k1 (bi_k1 l5 rfl rfl) rfl rfl) (bi_k1 bi_e1 rfl rfl) bi_e1 hh
      · refine go_ifneF (pc := 172) rfl hc ?_
        refine go_goto (pc := 175) rfl ?_
        exact sX11_settle_267 R58 R141 l0 l1 l2 l3 l4 l5 hh
def fX11_settle_141 (n : Nat) (r58 : ai_H → Nat → Int32 → Int32 → Int32 → Option (Unit × ai_H)) : Nat → ai_H → Nat → Int32 → Int32 → Int32 → Int32 → Int32 → Option (Unit × ai_H)
  | 0 => fun _ _ _ _ _ _ _ => none
  | k + 1 => fun h v0 v1 v2 v3 v4 v5 => fX11_settle_141b n r58 (fX11_settle_141 n r58 k) h v0 v1 v2 v3 v4 v5
theorem sX11_settle_141 {n : Nat} {r58 : ai_H → Nat → Int32 → Int32 → Int32 → Option (Unit × ai_H)} {q : Unit × ai_H} (R58 : ∀ (h : ai_H) (v0 : Nat) (v1 : Int32) (v2 : Int32) (v3 : Int32) (lv : ai_L), ai_ld 0 lv = some (.ref v0) → ai_ld 1 lv = some (.int v1) → ai_ld 2 lv = some (.int v2) → ai_ld 3 lv = some (.int v3) → r58 h v0 v1 v2 v3 = some q → bi_go 1 tX11_settle n (fV n q) 58 lv [] h) : ∀ (k : Nat) (h : ai_H) (v0 : Nat) (v1 : Int32) (v2 : Int32) (v3 : Int32) (v4 : Int32) (v5 : Int32) (lv : ai_L), ai_ld 0 lv = some (.ref v0) → ai_ld 1 lv = some (.int v1) → ai_ld 2 lv = some (.int v2) → ai_ld 3 lv = some (.int v3) → ai_ld 4 lv = some (.int v4) → ai_ld 5 lv = some (.int v5) → fX11_settle_141 n r58 k h v0 v1 v2 v3 v4 v5 = some q → bi_go 1 tX11_settle n (fV n q) 141 lv [] h
  | 0 => fun _ _ _ _ _ _ _ _ _ _ _ _ _ _ hh => by cases hh
  | k + 1 => fun h v0 v1 v2 v3 v4 v5 lv l0 l1 l2 l3 l4 l5 hh => sX11_settle_141b R58 (sX11_settle_141 R58 k) l0 l1 l2 l3 l4 l5 hh
def fX11_settle_64b (n : Nat) (r58 : ai_H → Nat → Int32 → Int32 → Int32 → Option (Unit × ai_H)) (r64 : ai_H → Nat → Int32 → Int32 → Int32 → Int32 → Int32 → Option (Unit × ai_H)) (h : ai_H) (v0 : Nat) (v1 : Int32) (v2 : Int32) (v3 : Int32) (v4 : Int32) (v5 : Int32) : Option (Unit × ai_H) :=
  if (3584 : Int32) ≤ v5 then (
    if 0 ≤ v4 then (
      (pR n h v0 11 78).bind fun x1 =>
      (wB n h x1 v4 (1 : Int32)).bind fun h2 =>
      fX11_settle_141 n r58 bi_K h2 v0 v1 v2 v3 v4 (0 : Int32))
    else (
      some ((), h)))
  else (
    (pR n h v0 11 77).bind fun x3 =>
    (gX 1 n h x3 v5).bind fun x4 =>
    if x4 < 0 then (
      fX11_settle_118 n r58 r64 h v0 v1 v2 v3 v4 v5)
    else (
      (pR n h v0 11 78).bind fun x5 =>
      (gB n h x5 v5).bind fun x6 =>
      if ¬ x6 = 0 then (
        fX11_settle_118 n r58 r64 h v0 v1 v2 v3 v4 v5)
      else (
        if v4 < 0 then (
          fX11_settle_114 n r58 r64 h v0 v1 v2 v3 v5)
        else (
          (pR n h v0 11 77).bind fun x7 =>
          (gX 1 n h x7 v5).bind fun x8 =>
          (pR n h v0 11 77).bind fun x9 =>
          (gX 1 n h x9 v4).bind fun x10 =>
          if x10 ≤ x8 then (
            fX11_settle_118 n r58 r64 h v0 v1 v2 v3 v4 v5)
          else (
            fX11_settle_114 n r58 r64 h v0 v1 v2 v3 v5)))))
theorem sX11_settle_64b {n : Nat} {r58 : ai_H → Nat → Int32 → Int32 → Int32 → Option (Unit × ai_H)} {r64 : ai_H → Nat → Int32 → Int32 → Int32 → Int32 → Int32 → Option (Unit × ai_H)} {q : Unit × ai_H} {h : ai_H} {v0 : Nat} {v1 : Int32} {v2 : Int32} {v3 : Int32} {v4 : Int32} {v5 : Int32} {lv : ai_L} (R58 : ∀ (h : ai_H) (v0 : Nat) (v1 : Int32) (v2 : Int32) (v3 : Int32) (lv : ai_L), ai_ld 0 lv = some (.ref v0) → ai_ld 1 lv = some (.int v1) → ai_ld 2 lv = some (.int v2) → ai_ld 3 lv = some (.int v3) → r58 h v0 v1 v2 v3 = some q → bi_go 1 tX11_settle n (fV n q) 58 lv [] h) (R64 : ∀ (h : ai_H) (v0 : Nat) (v1 : Int32) (v2 : Int32) (v3 : Int32) (v4 : Int32) (v5 : Int32) (lv : ai_L), ai_ld 0 lv = some (.ref v0) → ai_ld 1 lv = some (.int v1) → ai_ld 2 lv = some (.int v2) → ai_ld 3 lv = some (.int v3) → ai_ld 4 lv = some (.int v4) → ai_ld 5 lv = some (.int v5) → r64 h v0 v1 v2 v3 v4 v5 = some q → bi_go 1 tX11_settle n (fV n q) 64 lv [] h) (l0 : ai_ld 0 lv = some (.ref v0)) (l1 : ai_ld 1 lv = some (.int v1)) (l2 : ai_ld 2 lv = some (.int v2)) (l3 : ai_ld 3 lv = some (.int v3)) (l4 : ai_ld 4 lv = some (.int v4)) (l5 : ai_ld 5 lv = some (.int v5)) (hh : fX11_settle_64b n r58 r64 h v0 v1 v2 v3 v4 v5 = some q) : bi_go 1 tX11_settle n (fV n q) 64 lv [] h := by
  unfold fX11_settle_64b at hh
  refine go_il (pc := 64) rfl l5 ?_
  refine go_pi (pc := 66) rfl ?_
  refine bi_ite hh (fun hc hh => ?_) (fun hc hh => ?_)
  · refine go_cmpgeT (pc := 69) rfl hc ?_
    refine go_il (pc := 124) rfl l4 ?_
    refine bi_ite hh (fun hc hh => ?_) (fun hc hh => ?_)
    · refine go_ifgeT (pc := 126) rfl hc ?_
      refine go_al (pc := 130) rfl l0 ?_
      obtain ⟨x1, ex1, hh⟩ := bi_bd hh
      refine go_gfR (pc := 131) rfl ex1 ?_
      refine go_il (pc := 134) rfl l4 ?_
      refine go_pi (pc := 136) rfl ?_
      obtain ⟨h2, eh2, hh⟩ := bi_bd hh
      refine go_bast (pc := 137) rfl eh2 ?_
      refine go_pi (pc := 138) rfl ?_
      refine go_is (pc := 139) rfl ?_
      exact sX11_settle_141 R58 _ _ _ _ _ _ _ _ _ (bi_k1 l0 rfl rfl) (bi_k1 l1 rfl rfl) (bi_k1 l2 rfl rfl) (bi_k1 l3 rfl rfl) (bi_k1 l4 rfl rfl) bi_e1 hh
    · refine go_ifgeF (pc := 126) rfl hc ?_
      exact go_rv (pc := 129) rfl hh
  · refine go_cmpgeF (pc := 69) rfl hc ?_
    refine go_al (pc := 72) rfl l0 ?_
    obtain ⟨x3, ex3, hh⟩ := bi_bd hh
    refine go_gfR (pc := 73) rfl ex3 ?_
    refine go_il (pc := 76) rfl l5 ?_
    obtain ⟨x4, ex4, hh⟩ := bi_bd hh
    refine go_iald (pc := 78) rfl ex4 ?_
    refine bi_ite hh (fun hc hh => ?_) (fun hc hh => ?_)
    · refine go_ifltT (pc := 79) rfl hc ?_
      exact sX11_settle_118 R58 R64 l0 l1 l2 l3 l4 l5 hh
    · refine go_ifltF (pc := 79) rfl hc ?_
      refine go_al (pc := 82) rfl l0 ?_
      obtain ⟨x5, ex5, hh⟩ := bi_bd hh
      refine go_gfR (pc := 83) rfl ex5 ?_
      refine go_il (pc := 86) rfl l5 ?_
      obtain ⟨x6, ex6, hh⟩ := bi_bd hh
      refine go_bald (pc := 88) rfl ex6 ?_
      refine bi_ite hh (fun hc hh => ?_) (fun hc hh => ?_)
      · refine go_ifneT (pc := 89) rfl hc ?_
        exact sX11_settle_118 R58 R64 l0 l1 l2 l3 l4 l5 hh
      · refine go_ifneF (pc := 89) rfl hc ?_
        refine go_il (pc := 92) rfl l4 ?_
        refine bi_ite hh (fun hc hh => ?_) (fun hc hh => ?_)
        · refine go_ifltT (pc := 94) rfl hc ?_
          exact sX11_settle_114 R58 R64 l0 l1 l2 l3 l5 hh
        · refine go_ifltF (pc := 94) rfl hc ?_
          refine go_al (pc := 97) rfl l0 ?_
          obtain ⟨x7, ex7, hh⟩ := bi_bd hh
          refine go_gfR (pc := 98) rfl ex7 ?_
          refine go_il (pc := 101) rfl l5 ?_
          obtain ⟨x8, ex8, hh⟩ := bi_bd hh
          refine go_iald (pc := 103) rfl ex8 ?_
          refine go_al (pc := 104) rfl l0 ?_
          obtain ⟨x9, ex9, hh⟩ := bi_bd hh
          refine go_gfR (pc := 105) rfl ex9 ?_
          refine go_il (pc := 108) rfl l4 ?_
          obtain ⟨x10, ex10, hh⟩ := bi_bd hh
          refine go_iald (pc := 110) rfl ex10 ?_
          refine bi_ite hh (fun hc hh => ?_) (fun hc hh => ?_)
          · refine go_cmpgeT (pc := 111) rfl hc ?_
            exact sX11_settle_118 R58 R64 l0 l1 l2 l3 l4 l5 hh
          · refine go_cmpgeF (pc := 111) rfl hc ?_
            exact sX11_settle_114 R58 R64 l0 l1 l2 l3 l5 hh
def fX11_settle_64 (n : Nat) (r58 : ai_H → Nat → Int32 → Int32 → Int32 → Option (Unit × ai_H)) : Nat → ai_H → Nat → Int32 → Int32 → Int32 → Int32 → Int32 → Option (Unit × ai_H)
  | 0 => fun _ _ _ _ _ _ _ => none
  | k + 1 => fun h v0 v1 v2 v3 v4 v5 => fX11_settle_64b n r58 (fX11_settle_64 n r58 k) h v0 v1 v2 v3 v4 v5
theorem sX11_settle_64 {n : Nat} {r58 : ai_H → Nat → Int32 → Int32 → Int32 → Option (Unit × ai_H)} {q : Unit × ai_H} (R58 : ∀ (h : ai_H) (v0 : Nat) (v1 : Int32) (v2 : Int32) (v3 : Int32) (lv : ai_L), ai_ld 0 lv = some (.ref v0) → ai_ld 1 lv = some (.int v1) → ai_ld 2 lv = some (.int v2) → ai_ld 3 lv = some (.int v3) → r58 h v0 v1 v2 v3 = some q → bi_go 1 tX11_settle n (fV n q) 58 lv [] h) : ∀ (k : Nat) (h : ai_H) (v0 : Nat) (v1 : Int32) (v2 : Int32) (v3 : Int32) (v4 : Int32) (v5 : Int32) (lv : ai_L), ai_ld 0 lv = some (.ref v0) → ai_ld 1 lv = some (.int v1) → ai_ld 2 lv = some (.int v2) → ai_ld 3 lv = some (.int v3) → ai_ld 4 lv = some (.int v4) → ai_ld 5 lv = some (.int v5) → fX11_settle_64 n r58 k h v0 v1 v2 v3 v4 v5 = some q → bi_go 1 tX11_settle n (fV n q) 64 lv [] h
  | 0 => fun _ _ _ _ _ _ _ _ _ _ _ _ _ _ hh => by cases hh
  | k + 1 => fun h v0 v1 v2 v3 v4 v5 lv l0 l1 l2 l3 l4 l5 hh => sX11_settle_64b R58 (sX11_settle_64 R58 k) l0 l1 l2 l3 l4 l5 hh
def fX11_settle_58b (n : Nat) (r58 : ai_H → Nat → Int32 → Int32 → Int32 → Option (Unit × ai_H)) (h : ai_H) (v0 : Nat) (v1 : Int32) (v2 : Int32) (v3 : Int32) : Option (Unit × ai_H) :=
  fX11_settle_64 n r58 bi_K h v0 v1 v2 v3 (-1 : Int32) (0 : Int32)
theorem sX11_settle_58b {n : Nat} {r58 : ai_H → Nat → Int32 → Int32 → Int32 → Option (Unit × ai_H)} {q : Unit × ai_H} {h : ai_H} {v0 : Nat} {v1 : Int32} {v2 : Int32} {v3 : Int32} {lv : ai_L} (R58 : ∀ (h : ai_H) (v0 : Nat) (v1 : Int32) (v2 : Int32) (v3 : Int32) (lv : ai_L), ai_ld 0 lv = some (.ref v0) → ai_ld 1 lv = some (.int v1) → ai_ld 2 lv = some (.int v2) → ai_ld 3 lv = some (.int v3) → r58 h v0 v1 v2 v3 = some q → bi_go 1 tX11_settle n (fV n q) 58 lv [] h) (l0 : ai_ld 0 lv = some (.ref v0)) (l1 : ai_ld 1 lv = some (.int v1)) (l2 : ai_ld 2 lv = some (.int v2)) (l3 : ai_ld 3 lv = some (.int v3)) (hh : fX11_settle_58b n r58 h v0 v1 v2 v3 = some q) : bi_go 1 tX11_settle n (fV n q) 58 lv [] h := by
  unfold fX11_settle_58b at hh
  refine go_pi (pc := 58) rfl ?_
  refine go_is (pc := 59) rfl ?_
  refine go_pi (pc := 61) rfl ?_
  refine go_is (pc := 62) rfl ?_
  exact sX11_settle_64 R58 _ _ _ _ _ _ _ _ _ (bi_k1 (bi_k1 l0 rfl rfl) rfl rfl) (bi_k1 (bi_k1 l1 rfl rfl) rfl rfl) (bi_k1 (bi_k1 l2 rfl rfl) rfl rfl) (bi_k1 (bi_k1 l3 rfl rfl) rfl rfl) (bi_k1 bi_e1 rfl rfl) bi_e1 hh
def fX11_settle_58 (n : Nat) : Nat → ai_H → Nat → Int32 → Int32 → Int32 → Option (Unit × ai_H)
  | 0 => fun _ _ _ _ _ => none
  | k + 1 => fun h v0 v1 v2 v3 => fX11_settle_58b n (fX11_settle_58 n k) h v0 v1 v2 v3
theorem sX11_settle_58 {n : Nat} {q : Unit × ai_H} : ∀ (k : Nat) (h : ai_H) (v0 : Nat) (v1 : Int32) (v2 : Int32) (v3 : Int32) (lv : ai_L), ai_ld 0 lv = some (.ref v0) → ai_ld 1 lv = some (.int v1) → ai_ld 2 lv = some (.int v2) → ai_ld 3 lv = some (.int v3) → fX11_settle_58 n k h v0 v1 v2 v3 = some q → bi_go 1 tX11_settle n (fV n q) 58 lv [] h
  | 0 => fun _ _ _ _ _ _ _ _ _ _ hh => by cases hh
  | k + 1 => fun h v0 v1 v2 v3 lv l0 l1 l2 l3 hh => sX11_settle_58b  (sX11_settle_58  k) l0 l1 l2 l3 hh
def fX11_settle_57 (n : Nat) (h : ai_H) (v0 : Nat) (v1 : Int32) (v2 : Int32) (v3 : Int32) (s0 : Int32) (s1 : Int32) (s2 : Nat) : Option (Unit × ai_H) :=
  (wX 1 (fun x => x) n h s2 s1 s0).bind fun h1 =>
  fX11_settle_58 n bi_K h1 v0 v1 v2 v3
theorem sX11_settle_57 {n : Nat} {q : Unit × ai_H} {h : ai_H} {v0 : Nat} {v1 : Int32} {v2 : Int32} {v3 : Int32} {s0 : Int32} {s1 : Int32} {s2 : Nat} {lv : ai_L} (l0 : ai_ld 0 lv = some (.ref v0)) (l1 : ai_ld 1 lv = some (.int v1)) (l2 : ai_ld 2 lv = some (.int v2)) (l3 : ai_ld 3 lv = some (.int v3)) (hh : fX11_settle_57 n h v0 v1 v2 v3 s0 s1 s2 = some q) : bi_go 1 tX11_settle n (fV n q) 57 lv [.int s0, .int s1, .ref s2] h := by
  unfold fX11_settle_57 at hh
  obtain ⟨h1, eh1, hh⟩ := bi_bd hh
  refine go_iast (pc := 57) rfl eh1 ?_
  exact sX11_settle_58  _ _ _ _ _ _ _ l0 l1 l2 l3 hh
def fX11_settle_3b (n : Nat) (r3 : ai_H → Nat → Int32 → Int32 → Int32 → Int32 → Option (Unit × ai_H)) (h : ai_H) (v0 : Nat) (v1 : Int32) (v2 : Int32) (v3 : Int32) (v4 : Int32) : Option (Unit × ai_H) :=
  if (3584 : Int32) ≤ v4 then (
    (pR n h v0 11 77).bind fun x1 =>
    (pR n h v0 11 60).bind fun x2 =>
    (gX 1 n h x2 v1).bind fun x3 =>
    if ¬ v3 = 0 then (
      fX11_settle_57 n h v0 v1 v2 v3 (100 : Int32) ((512 : Int32) * x3) x1)
    else (
      fX11_settle_57 n h v0 v1 v2 v3 (0 : Int32) ((512 : Int32) * x3) x1))
  else (
    (pR n h v0 11 77).bind fun x4 =>
    (wX 1 (fun x => x) n h x4 v4 (-1 : Int32)).bind fun h5 =>
    (pR n h5 v0 11 78).bind fun x6 =>
    (wB n h5 x6 v4 (0 : Int32)).bind fun h7 =>
    r3 h7 v0 v1 v2 v3 (v4 + 1))
theorem sX11_settle_3b {n : Nat} {r3 : ai_H → Nat → Int32 → Int32 → Int32 → Int32 → Option (Unit × ai_H)} {q : Unit × ai_H} {h : ai_H} {v0 : Nat} {v1 : Int32} {v2 : Int32} {v3 : Int32} {v4 : Int32} {lv : ai_L} (R3 : ∀ (h : ai_H) (v0 : Nat) (v1 : Int32) (v2 : Int32) (v3 : Int32) (v4 : Int32) (lv : ai_L), ai_ld 0 lv = some (.ref v0) → ai_ld 1 lv = some (.int v1) → ai_ld 2 lv = some (.int v2) → ai_ld 3 lv = some (.int v3) → ai_ld 4 lv = some (.int v4) → r3 h v0 v1 v2 v3 v4 = some q → bi_go 1 tX11_settle n (fV n q) 3 lv [] h) (l0 : ai_ld 0 lv = some (.ref v0)) (l1 : ai_ld 1 lv = some (.int v1)) (l2 : ai_ld 2 lv = some (.int v2)) (l3 : ai_ld 3 lv = some (.int v3)) (l4 : ai_ld 4 lv = some (.int v4)) (hh : fX11_settle_3b n r3 h v0 v1 v2 v3 v4 = some q) : bi_go 1 tX11_settle n (fV n q) 3 lv [] h := by
  unfold fX11_settle_3b at hh
  refine go_il (pc := 3) rfl l4 ?_
  refine go_pi (pc := 5) rfl ?_
  refine bi_ite hh (fun hc hh => ?_) (fun hc hh => ?_)
  · refine go_cmpgeT (pc := 8) rfl hc ?_
    refine go_al (pc := 33) rfl l0 ?_
    obtain ⟨x1, ex1, hh⟩ := bi_bd hh
    refine go_gfR (pc := 34) rfl ex1 ?_
    refine go_pi (pc := 37) rfl ?_
    refine go_al (pc := 40) rfl l0 ?_
    obtain ⟨x2, ex2, hh⟩ := bi_bd hh
    refine go_gfR (pc := 41) rfl ex2 ?_
    refine go_il (pc := 44) rfl l1 ?_
    obtain ⟨x3, ex3, hh⟩ := bi_bd hh
    refine go_iald (pc := 45) rfl ex3 ?_
    refine go_imul (pc := 46) rfl ?_
    refine go_il (pc := 47) rfl l3 ?_
    refine bi_ite hh (fun hc hh => ?_) (fun hc hh => ?_)
    · refine go_ifneT (pc := 48) rfl hc ?_
      refine go_pi (pc := 55) rfl ?_
      exact sX11_settle_57  l0 l1 l2 l3 hh
    · refine go_ifneF (pc := 48) rfl hc ?_
      refine go_pi (pc := 51) rfl ?_
      refine go_goto (pc := 52) rfl ?_
      exact sX11_settle_57  l0 l1 l2 l3 hh
  · refine go_cmpgeF (pc := 8) rfl hc ?_
    refine go_al (pc := 11) rfl l0 ?_
    obtain ⟨x4, ex4, hh⟩ := bi_bd hh
    refine go_gfR (pc := 12) rfl ex4 ?_
    refine go_il (pc := 15) rfl l4 ?_
    refine go_pi (pc := 17) rfl ?_
    obtain ⟨h5, eh5, hh⟩ := bi_bd hh
    refine go_iast (pc := 18) rfl eh5 ?_
    refine go_al (pc := 19) rfl l0 ?_
    obtain ⟨x6, ex6, hh⟩ := bi_bd hh
    refine go_gfR (pc := 20) rfl ex6 ?_
    refine go_il (pc := 23) rfl l4 ?_
    refine go_pi (pc := 25) rfl ?_
    obtain ⟨h7, eh7, hh⟩ := bi_bd hh
    refine go_bast (pc := 26) rfl eh7 ?_
    refine go_inc (pc := 27) rfl l4 ?_
    refine go_goto (pc := 30) rfl ?_
    exact R3 _ _ _ _ _ _ _ (bi_k1 l0 rfl rfl) (bi_k1 l1 rfl rfl) (bi_k1 l2 rfl rfl) (bi_k1 l3 rfl rfl) bi_e1 hh
def fX11_settle_3 (n : Nat) : Nat → ai_H → Nat → Int32 → Int32 → Int32 → Int32 → Option (Unit × ai_H)
  | 0 => fun _ _ _ _ _ _ => none
  | k + 1 => fun h v0 v1 v2 v3 v4 => fX11_settle_3b n (fX11_settle_3 n k) h v0 v1 v2 v3 v4
theorem sX11_settle_3 {n : Nat} {q : Unit × ai_H} : ∀ (k : Nat) (h : ai_H) (v0 : Nat) (v1 : Int32) (v2 : Int32) (v3 : Int32) (v4 : Int32) (lv : ai_L), ai_ld 0 lv = some (.ref v0) → ai_ld 1 lv = some (.int v1) → ai_ld 2 lv = some (.int v2) → ai_ld 3 lv = some (.int v3) → ai_ld 4 lv = some (.int v4) → fX11_settle_3 n k h v0 v1 v2 v3 v4 = some q → bi_go 1 tX11_settle n (fV n q) 3 lv [] h
  | 0 => fun _ _ _ _ _ _ _ _ _ _ _ _ hh => by cases hh
  | k + 1 => fun h v0 v1 v2 v3 v4 lv l0 l1 l2 l3 l4 hh => sX11_settle_3b  (sX11_settle_3  k) l0 l1 l2 l3 l4 hh
def fX11_settle (n : Nat) (h : ai_H) (a0 : Nat) (a1 : Int32) (a2 : Int32) (a3 : Int32) : Option (Unit × ai_H) :=
  (kO n h a0 11).bind fun _ =>
  fX11_settle_3 n bi_K h a0 a1 a2 a3 (0 : Int32)
theorem gX11_settle {n : Nat} {h : ai_H} {a0 : Nat} {a1 : Int32} {a2 : Int32} {a3 : Int32} {q : Unit × ai_H} (hh : fX11_settle n h a0 a1 a2 a3 = some q) : kO n h a0 11 = some () := by
  obtain ⟨_, e, -⟩ := bi_bd hh
  exact e
theorem sX11_settle {n : Nat} {h : ai_H} {a0 : Nat} {a1 : Int32} {a2 : Int32} {a3 : Int32} {q : Unit × ai_H} (hh : fX11_settle n h a0 a1 a2 a3 = some q) : bi_sp 2 220 [.ref a0, .int a1, .int a2, .int a3] h n (fV n q) := by
  refine bi_en (D := 1) (T := tX11_settle) (funext fun pc => rfl) rfl (Nat.le_of_ble_eq_true rfl) ?_
  unfold fX11_settle at hh
  obtain ⟨_, eO, hh⟩ := bi_bd hh
  refine go_pi (pc := 0) rfl ?_
  refine go_is (pc := 1) rfl ?_
  exact sX11_settle_3  _ _ _ _ _ _ _ _ (bi_k1 (rfl : ai_ld 0 (lv_args 0 [.ref a0, .int a1, .int a2, .int a3]) = some (.ref a0)) rfl rfl) (bi_k1 (rfl : ai_ld 1 (lv_args 0 [.ref a0, .int a1, .int a2, .int a3]) = some (.int a1)) rfl rfl) (bi_k1 (rfl : ai_ld 2 (lv_args 0 [.ref a0, .int a1, .int a2, .int a3]) = some (.int a2)) rfl rfl) (bi_k1 (rfl : ai_ld 3 (lv_args 0 [.ref a0, .int a1, .int a2, .int a3]) = some (.int a3)) rfl rfl) bi_e1 hh
def fX11_reach_55 (n : Nat) (r26 : ai_H → Nat → Int32 → Int32 → Option (Int32 × ai_H)) (h : ai_H) (v0 : Nat) (v3 : Int32) (s0 : Int32) (s1 : Int32) : Option (Int32 × ai_H) :=
  r26 h v0 (s1 ||| s0) (v3 + 1)
theorem sX11_reach_55 {n : Nat} {r26 : ai_H → Nat → Int32 → Int32 → Option (Int32 × ai_H)} {q : Int32 × ai_H} {h : ai_H} {v0 : Nat} {v3 : Int32} {s0 : Int32} {s1 : Int32} {lv : ai_L} (R26 : ∀ (h : ai_H) (v0 : Nat) (v2 : Int32) (v3 : Int32) (lv : ai_L), ai_ld 0 lv = some (.ref v0) → ai_ld 2 lv = some (.int v2) → ai_ld 3 lv = some (.int v3) → r26 h v0 v2 v3 = some q → bi_go 2 tX11_reach n (fI n q) 26 lv [] h) (l0 : ai_ld 0 lv = some (.ref v0)) (l3 : ai_ld 3 lv = some (.int v3)) (hh : fX11_reach_55 n r26 h v0 v3 s0 s1 = some q) : bi_go 2 tX11_reach n (fI n q) 55 lv [.int s0, .int s1] h := by
  unfold fX11_reach_55 at hh
  refine go_ior (pc := 55) rfl ?_
  refine go_is (pc := 56) rfl ?_
  refine go_inc (pc := 57) rfl (bi_k1 l3 rfl rfl) ?_
  refine go_goto (pc := 60) rfl ?_
  exact R26 _ _ _ _ _ (bi_k1 (bi_k1 l0 rfl rfl) rfl rfl) (bi_k1 bi_e1 rfl rfl) bi_e1 hh
def fX11_reach_26b (n : Nat) (r26 : ai_H → Nat → Int32 → Int32 → Option (Int32 × ai_H)) (h : ai_H) (v0 : Nat) (v2 : Int32) (v3 : Int32) : Option (Int32 × ai_H) :=
  (pI n h v0 11 12).bind fun x1 =>
  if x1 ≤ v3 then (
    some (v2, h))
  else (
    (pR n h v0 11 77).bind fun x2 =>
    (gX 1 n h x2 ((512 : Int32) * v3)).bind fun x3 =>
    if x3 < 0 then (
      fX11_reach_55 n r26 h v0 v3 (0 : Int32) v2)
    else (
      fX11_reach_55 n r26 h v0 v3 ((1 : Int32) <<< (v3 &&& 31)) v2))
theorem sX11_reach_26b {n : Nat} {r26 : ai_H → Nat → Int32 → Int32 → Option (Int32 × ai_H)} {q : Int32 × ai_H} {h : ai_H} {v0 : Nat} {v2 : Int32} {v3 : Int32} {lv : ai_L} (R26 : ∀ (h : ai_H) (v0 : Nat) (v2 : Int32) (v3 : Int32) (lv : ai_L), ai_ld 0 lv = some (.ref v0) → ai_ld 2 lv = some (.int v2) → ai_ld 3 lv = some (.int v3) → r26 h v0 v2 v3 = some q → bi_go 2 tX11_reach n (fI n q) 26 lv [] h) (l0 : ai_ld 0 lv = some (.ref v0)) (l2 : ai_ld 2 lv = some (.int v2)) (l3 : ai_ld 3 lv = some (.int v3)) (hh : fX11_reach_26b n r26 h v0 v2 v3 = some q) : bi_go 2 tX11_reach n (fI n q) 26 lv [] h := by
  unfold fX11_reach_26b at hh
  refine go_il (pc := 26) rfl l3 ?_
  refine go_al (pc := 27) rfl l0 ?_
  obtain ⟨x1, ex1, hh⟩ := bi_bd hh
  refine go_gfI (pc := 28) rfl ex1 ?_
  refine bi_ite hh (fun hc hh => ?_) (fun hc hh => ?_)
  · refine go_cmpgeT (pc := 31) rfl hc ?_
    refine go_il (pc := 63) rfl l2 ?_
    exact go_ri (pc := 64) rfl hh
  · refine go_cmpgeF (pc := 31) rfl hc ?_
    refine go_il (pc := 34) rfl l2 ?_
    refine go_al (pc := 35) rfl l0 ?_
    obtain ⟨x2, ex2, hh⟩ := bi_bd hh
    refine go_gfR (pc := 36) rfl ex2 ?_
    refine go_pi (pc := 39) rfl ?_
    refine go_il (pc := 42) rfl l3 ?_
    refine go_imul (pc := 43) rfl ?_
    obtain ⟨x3, ex3, hh⟩ := bi_bd hh
    refine go_iald (pc := 44) rfl ex3 ?_
    refine bi_ite hh (fun hc hh => ?_) (fun hc hh => ?_)
    · refine go_ifltT (pc := 45) rfl hc ?_
      refine go_pi (pc := 54) rfl ?_
      exact sX11_reach_55 R26 l0 l3 hh
    · refine go_ifltF (pc := 45) rfl hc ?_
      refine go_pi (pc := 48) rfl ?_
      refine go_il (pc := 49) rfl l3 ?_
      refine go_ishl (pc := 50) rfl ?_
      refine go_goto (pc := 51) rfl ?_
      exact sX11_reach_55 R26 l0 l3 hh
def fX11_reach_26 (n : Nat) : Nat → ai_H → Nat → Int32 → Int32 → Option (Int32 × ai_H)
  | 0 => fun _ _ _ _ => none
  | k + 1 => fun h v0 v2 v3 => fX11_reach_26b n (fX11_reach_26 n k) h v0 v2 v3
theorem sX11_reach_26 {n : Nat} {q : Int32 × ai_H} : ∀ (k : Nat) (h : ai_H) (v0 : Nat) (v2 : Int32) (v3 : Int32) (lv : ai_L), ai_ld 0 lv = some (.ref v0) → ai_ld 2 lv = some (.int v2) → ai_ld 3 lv = some (.int v3) → fX11_reach_26 n k h v0 v2 v3 = some q → bi_go 2 tX11_reach n (fI n q) 26 lv [] h
  | 0 => fun _ _ _ _ _ _ _ _ hh => by cases hh
  | k + 1 => fun h v0 v2 v3 lv l0 l2 l3 hh => sX11_reach_26b  (sX11_reach_26  k) l0 l2 l3 hh
def fX11_reach (n : Nat) (h : ai_H) (a0 : Nat) (a1 : Int32) : Option (Int32 × ai_H) :=
  (kO n h a0 11).bind fun _ =>
  (sF n h a0 11 2 (.int) (.int (0 : Int32))).bind fun h1 =>
  (fX11_isWalker n h1 a0 a1).bind fun q2 =>
  if ¬ q2.1 = 0 then (
    (fX11_settle n q2.2 a0 a1 (0 : Int32) (0 : Int32)).bind fun q3 =>
    fX11_reach_26 n bi_K q3.2 a0 (0 : Int32) (0 : Int32))
  else (
    some ((-1 : Int32), q2.2))
theorem gX11_reach {n : Nat} {h : ai_H} {a0 : Nat} {a1 : Int32} {q : Int32 × ai_H} (hh : fX11_reach n h a0 a1 = some q) : kO n h a0 11 = some () := by
  obtain ⟨_, e, -⟩ := bi_bd hh
  exact e
theorem sX11_reach {n : Nat} {h : ai_H} {a0 : Nat} {a1 : Int32} {q : Int32 × ai_H} (hh : fX11_reach n h a0 a1 = some q) : bi_sp 3 221 [.ref a0, .int a1] h n (fI n q) := by
  refine bi_en (D := 2) (T := tX11_reach) (funext fun pc => rfl) rfl (Nat.le_of_ble_eq_true rfl) ?_
  unfold fX11_reach at hh
  obtain ⟨_, eO, hh⟩ := bi_bd hh
  refine go_al (pc := 0) rfl (rfl : ai_ld 0 (lv_args 0 [.ref a0, .int a1]) = some (.ref a0)) ?_
  refine go_pi (pc := 1) rfl ?_
  obtain ⟨h1, eh1, hh⟩ := bi_bd hh
  refine go_pf (pc := 2) rfl eh1 ?_
  refine go_al (pc := 5) rfl (rfl : ai_ld 0 (lv_args 0 [.ref a0, .int a1]) = some (.ref a0)) ?_
  refine go_il (pc := 6) rfl (rfl : ai_ld 1 (lv_args 0 [.ref a0, .int a1]) = some (.int a1)) ?_
  obtain ⟨q2, eq2, hh⟩ := bi_bd hh
  refine go_ivI (pc := 7) rfl rfl (gX11_isWalker eq2) (Nat.le_of_ble_eq_true rfl) (bi_up (sX11_isWalker eq2) (Nat.le_of_ble_eq_true rfl)) ?_
  refine bi_ite hh (fun hc hh => ?_) (fun hc hh => ?_)
  · refine go_ifneT (pc := 10) rfl hc ?_
    refine go_al (pc := 15) rfl (rfl : ai_ld 0 (lv_args 0 [.ref a0, .int a1]) = some (.ref a0)) ?_
    refine go_il (pc := 16) rfl (rfl : ai_ld 1 (lv_args 0 [.ref a0, .int a1]) = some (.int a1)) ?_
    refine go_pi (pc := 17) rfl ?_
    refine go_pi (pc := 18) rfl ?_
    obtain ⟨q3, eq3, hh⟩ := bi_bd hh
    refine go_ivV (pc := 19) rfl rfl (gX11_settle eq3) (Nat.le_of_ble_eq_true rfl) (bi_up (sX11_settle eq3) (Nat.le_of_ble_eq_true rfl)) ?_
    refine go_pi (pc := 22) rfl ?_
    refine go_is (pc := 23) rfl ?_
    refine go_pi (pc := 24) rfl ?_
    refine go_is (pc := 25) rfl ?_
    exact sX11_reach_26  _ _ _ _ _ _ (bi_k1 (bi_k1 (rfl : ai_ld 0 (lv_args 0 [.ref a0, .int a1]) = some (.ref a0)) rfl rfl) rfl rfl) (bi_k1 bi_e1 rfl rfl) bi_e1 hh
  · refine go_ifneF (pc := 10) rfl hc ?_
    refine go_pi (pc := 13) rfl ?_
    exact go_ri (pc := 14) rfl hh
def fX11_way (n : Nat) (h : ai_H) (a0 : Nat) (a1 : Int32) (a2 : Int32) : Option (Int32 × ai_H) :=
  (kO n h a0 11).bind fun _ =>
  (sF n h a0 11 2 (.int) (.int (0 : Int32))).bind fun h1 =>
  (fX11_isWalker n h1 a0 a1).bind fun q2 =>
  if q2.1 = 0 then (
    some ((-1 : Int32), q2.2))
  else (
    (fX11_isPlace n q2.2 a0 a2).bind fun q3 =>
    if ¬ q3.1 = 0 then (
      (fX11_settle n q3.2 a0 a1 (0 : Int32) (0 : Int32)).bind fun q4 =>
      (pR n q4.2 a0 11 77).bind fun x5 =>
      (gX 1 n q4.2 x5 ((512 : Int32) * a2)).bind fun x6 =>
      if 0 ≤ x6 then (
        (pR n q4.2 a0 11 77).bind fun x7 =>
        (gX 1 n q4.2 x7 ((512 : Int32) * a2)).bind fun x8 =>
        some (x8, q4.2))
      else (
        some ((-2 : Int32), q4.2)))
    else (
      some ((-1 : Int32), q3.2)))
theorem gX11_way {n : Nat} {h : ai_H} {a0 : Nat} {a1 : Int32} {a2 : Int32} {q : Int32 × ai_H} (hh : fX11_way n h a0 a1 a2 = some q) : kO n h a0 11 = some () := by
  obtain ⟨_, e, -⟩ := bi_bd hh
  exact e
theorem sX11_way {n : Nat} {h : ai_H} {a0 : Nat} {a1 : Int32} {a2 : Int32} {q : Int32 × ai_H} (hh : fX11_way n h a0 a1 a2 = some q) : bi_sp 3 222 [.ref a0, .int a1, .int a2] h n (fI n q) := by
  refine bi_en (D := 2) (T := tX11_way) (funext fun pc => rfl) rfl (Nat.le_of_ble_eq_true rfl) ?_
  unfold fX11_way at hh
  obtain ⟨_, eO, hh⟩ := bi_bd hh
  refine go_al (pc := 0) rfl (rfl : ai_ld 0 (lv_args 0 [.ref a0, .int a1, .int a2]) = some (.ref a0)) ?_
  refine go_pi (pc := 1) rfl ?_
  obtain ⟨h1, eh1, hh⟩ := bi_bd hh
  refine go_pf (pc := 2) rfl eh1 ?_
  refine go_al (pc := 5) rfl (rfl : ai_ld 0 (lv_args 0 [.ref a0, .int a1, .int a2]) = some (.ref a0)) ?_
  refine go_il (pc := 6) rfl (rfl : ai_ld 1 (lv_args 0 [.ref a0, .int a1, .int a2]) = some (.int a1)) ?_
  obtain ⟨q2, eq2, hh⟩ := bi_bd hh
  refine go_ivI (pc := 7) rfl rfl (gX11_isWalker eq2) (Nat.le_of_ble_eq_true rfl) (bi_up (sX11_isWalker eq2) (Nat.le_of_ble_eq_true rfl)) ?_
  refine bi_ite hh (fun hc hh => ?_) (fun hc hh => ?_)
  · refine go_ifeqT (pc := 10) rfl hc ?_
    refine go_pi (pc := 21) rfl ?_
    exact go_ri (pc := 22) rfl hh
  · refine go_ifeqF (pc := 10) rfl hc ?_
    refine go_al (pc := 13) rfl (rfl : ai_ld 0 (lv_args 0 [.ref a0, .int a1, .int a2]) = some (.ref a0)) ?_
    refine go_il (pc := 14) rfl (rfl : ai_ld 2 (lv_args 0 [.ref a0, .int a1, .int a2]) = some (.int a2)) ?_
    obtain ⟨q3, eq3, hh⟩ := bi_bd hh
    refine go_ivI (pc := 15) rfl rfl (gX11_isPlace eq3) (Nat.le_of_ble_eq_true rfl) (bi_up (sX11_isPlace eq3) (Nat.le_of_ble_eq_true rfl)) ?_
    refine bi_ite hh (fun hc hh => ?_) (fun hc hh => ?_)
    · refine go_ifneT (pc := 18) rfl hc ?_
      refine go_al (pc := 23) rfl (rfl : ai_ld 0 (lv_args 0 [.ref a0, .int a1, .int a2]) = some (.ref a0)) ?_
      refine go_il (pc := 24) rfl (rfl : ai_ld 1 (lv_args 0 [.ref a0, .int a1, .int a2]) = some (.int a1)) ?_
      refine go_pi (pc := 25) rfl ?_
      refine go_pi (pc := 26) rfl ?_
      obtain ⟨q4, eq4, hh⟩ := bi_bd hh
      refine go_ivV (pc := 27) rfl rfl (gX11_settle eq4) (Nat.le_of_ble_eq_true rfl) (bi_up (sX11_settle eq4) (Nat.le_of_ble_eq_true rfl)) ?_
      refine go_al (pc := 30) rfl (rfl : ai_ld 0 (lv_args 0 [.ref a0, .int a1, .int a2]) = some (.ref a0)) ?_
      obtain ⟨x5, ex5, hh⟩ := bi_bd hh
      refine go_gfR (pc := 31) rfl ex5 ?_
      refine go_pi (pc := 34) rfl ?_
      refine go_il (pc := 37) rfl (rfl : ai_ld 2 (lv_args 0 [.ref a0, .int a1, .int a2]) = some (.int a2)) ?_
      refine go_imul (pc := 38) rfl ?_
      obtain ⟨x6, ex6, hh⟩ := bi_bd hh
      refine go_iald (pc := 39) rfl ex6 ?_
      refine bi_ite hh (fun hc hh => ?_) (fun hc hh => ?_)
      · refine go_ifgeT (pc := 40) rfl hc ?_
        refine go_al (pc := 48) rfl (rfl : ai_ld 0 (lv_args 0 [.ref a0, .int a1, .int a2]) = some (.ref a0)) ?_
        obtain ⟨x7, ex7, hh⟩ := bi_bd hh
        refine go_gfR (pc := 49) rfl ex7 ?_
        refine go_pi (pc := 52) rfl ?_
        refine go_il (pc := 55) rfl (rfl : ai_ld 2 (lv_args 0 [.ref a0, .int a1, .int a2]) = some (.int a2)) ?_
        refine go_imul (pc := 56) rfl ?_
        obtain ⟨x8, ex8, hh⟩ := bi_bd hh
        refine go_iald (pc := 57) rfl ex8 ?_
        exact go_ri (pc := 58) rfl hh
      · refine go_ifgeF (pc := 40) rfl hc ?_
        refine go_pi (pc := 43) rfl ?_
        refine go_goto (pc := 45) rfl ?_
        exact go_ri (pc := 58) rfl hh
    · refine go_ifneF (pc := 18) rfl hc ?_
      refine go_pi (pc := 21) rfl ?_
      exact go_ri (pc := 22) rfl hh
def fX11_round_115 (n : Nat) (r70 : ai_H → Nat → Int32 → Int32 → Int32 → Int32 → Option (Int32 × ai_H)) (h : ai_H) (v0 : Nat) (v2 : Int32) (v3 : Int32) (v4 : Int32) (v5 : Int32) : Option (Int32 × ai_H) :=
  r70 h v0 v2 v3 v4 (v5 + 1)
theorem sX11_round_115 {n : Nat} {r70 : ai_H → Nat → Int32 → Int32 → Int32 → Int32 → Option (Int32 × ai_H)} {q : Int32 × ai_H} {h : ai_H} {v0 : Nat} {v2 : Int32} {v3 : Int32} {v4 : Int32} {v5 : Int32} {lv : ai_L} (R70 : ∀ (h : ai_H) (v0 : Nat) (v2 : Int32) (v3 : Int32) (v4 : Int32) (v5 : Int32) (lv : ai_L), ai_ld 0 lv = some (.ref v0) → ai_ld 2 lv = some (.int v2) → ai_ld 3 lv = some (.int v3) → ai_ld 4 lv = some (.int v4) → ai_ld 5 lv = some (.int v5) → r70 h v0 v2 v3 v4 v5 = some q → bi_go 2 tX11_round n (fI n q) 70 lv [] h) (l0 : ai_ld 0 lv = some (.ref v0)) (l2 : ai_ld 2 lv = some (.int v2)) (l3 : ai_ld 3 lv = some (.int v3)) (l4 : ai_ld 4 lv = some (.int v4)) (l5 : ai_ld 5 lv = some (.int v5)) (hh : fX11_round_115 n r70 h v0 v2 v3 v4 v5 = some q) : bi_go 2 tX11_round n (fI n q) 115 lv [] h := by
  unfold fX11_round_115 at hh
  refine go_inc (pc := 115) rfl l5 ?_
  refine go_goto (pc := 118) rfl ?_
  exact R70 _ _ _ _ _ _ _ (bi_k1 l0 rfl rfl) (bi_k1 l2 rfl rfl) (bi_k1 l3 rfl rfl) (bi_k1 l4 rfl rfl) bi_e1 hh
def fX11_round_111 (n : Nat) (r70 : ai_H → Nat → Int32 → Int32 → Int32 → Int32 → Option (Int32 × ai_H)) (h : ai_H) (v0 : Nat) (v2 : Int32) (v3 : Int32) (v5 : Int32) (v6 : Int32) : Option (Int32 × ai_H) :=
  fX11_round_115 n r70 h v0 v2 v3 v6 v5
theorem sX11_round_111 {n : Nat} {r70 : ai_H → Nat → Int32 → Int32 → Int32 → Int32 → Option (Int32 × ai_H)} {q : Int32 × ai_H} {h : ai_H} {v0 : Nat} {v2 : Int32} {v3 : Int32} {v5 : Int32} {v6 : Int32} {lv : ai_L} (R70 : ∀ (h : ai_H) (v0 : Nat) (v2 : Int32) (v3 : Int32) (v4 : Int32) (v5 : Int32) (lv : ai_L), ai_ld 0 lv = some (.ref v0) → ai_ld 2 lv = some (.int v2) → ai_ld 3 lv = some (.int v3) → ai_ld 4 lv = some (.int v4) → ai_ld 5 lv = some (.int v5) → r70 h v0 v2 v3 v4 v5 = some q → bi_go 2 tX11_round n (fI n q) 70 lv [] h) (l0 : ai_ld 0 lv = some (.ref v0)) (l2 : ai_ld 2 lv = some (.int v2)) (l3 : ai_ld 3 lv = some (.int v3)) (l5 : ai_ld 5 lv = some (.int v5)) (l6 : ai_ld 6 lv = some (.int v6)) (hh : fX11_round_111 n r70 h v0 v2 v3 v5 v6 = some q) : bi_go 2 tX11_round n (fI n q) 111 lv [] h := by
  unfold fX11_round_111 at hh
  refine go_il (pc := 111) rfl l6 ?_
  refine go_is (pc := 113) rfl ?_
  exact sX11_round_115 R70 (bi_k1 l0 rfl rfl) (bi_k1 l2 rfl rfl) (bi_k1 l3 rfl rfl) bi_e1 (bi_k1 l5 rfl rfl) hh
def fX11_round_70b (n : Nat) (r70 : ai_H → Nat → Int32 → Int32 → Int32 → Int32 → Option (Int32 × ai_H)) (h : ai_H) (v0 : Nat) (v2 : Int32) (v3 : Int32) (v4 : Int32) (v5 : Int32) : Option (Int32 × ai_H) :=
  (pI n h v0 11 12).bind fun x1 =>
  if x1 ≤ v5 then (
    if 0 ≤ v4 then (
      if ¬ v3 = 0 then (
        (dI v4 (100 : Int32)).bind fun x2 =>
        some (x2, h))
      else (
        some (v4, h)))
    else (
      some ((-2 : Int32), h)))
  else (
    (pR n h v0 11 77).bind fun x3 =>
    (gX 1 n h x3 (((512 : Int32) * v5) + v2)).bind fun x4 =>
    if x4 < 0 then (
      fX11_round_115 n r70 h v0 v2 v3 v4 v5)
    else (
      if v4 < 0 then (
        fX11_round_111 n r70 h v0 v2 v3 v5 x4)
      else (
        if v4 ≤ x4 then (
          fX11_round_115 n r70 h v0 v2 v3 v4 v5)
        else (
          fX11_round_111 n r70 h v0 v2 v3 v5 x4))))
theorem sX11_round_70b {n : Nat} {r70 : ai_H → Nat → Int32 → Int32 → Int32 → Int32 → Option (Int32 × ai_H)} {q : Int32 × ai_H} {h : ai_H} {v0 : Nat} {v2 : Int32} {v3 : Int32} {v4 : Int32} {v5 : Int32} {lv : ai_L} (R70 : ∀ (h : ai_H) (v0 : Nat) (v2 : Int32) (v3 : Int32) (v4 : Int32) (v5 : Int32) (lv : ai_L), ai_ld 0 lv = some (.ref v0) → ai_ld 2 lv = some (.int v2) → ai_ld 3 lv = some (.int v3) → ai_ld 4 lv = some (.int v4) → ai_ld 5 lv = some (.int v5) → r70 h v0 v2 v3 v4 v5 = some q → bi_go 2 tX11_round n (fI n q) 70 lv [] h) (l0 : ai_ld 0 lv = some (.ref v0)) (l2 : ai_ld 2 lv = some (.int v2)) (l3 : ai_ld 3 lv = some (.int v3)) (l4 : ai_ld 4 lv = some (.int v4)) (l5 : ai_ld 5 lv = some (.int v5)) (hh : fX11_round_70b n r70 h v0 v2 v3 v4 v5 = some q) : bi_go 2 tX11_round n (fI n q) 70 lv [] h := by
  unfold fX11_round_70b at hh
  refine go_il (pc := 70) rfl l5 ?_
  refine go_al (pc := 72) rfl l0 ?_
  obtain ⟨x1, ex1, hh⟩ := bi_bd hh
  refine go_gfI (pc := 73) rfl ex1 ?_
  refine bi_ite hh (fun hc hh => ?_) (fun hc hh => ?_)
  · refine go_cmpgeT (pc := 76) rfl hc ?_
    refine go_il (pc := 121) rfl l4 ?_
    refine bi_ite hh (fun hc hh => ?_) (fun hc hh => ?_)
    · refine go_ifgeT (pc := 123) rfl hc ?_
      refine go_il (pc := 131) rfl l3 ?_
      refine bi_ite hh (fun hc hh => ?_) (fun hc hh => ?_)
      · refine go_ifneT (pc := 132) rfl hc ?_
        refine go_il (pc := 140) rfl l4 ?_
        refine go_pi (pc := 142) rfl ?_
        obtain ⟨x2, ex2, hh⟩ := bi_bd hh
        refine go_idiv (pc := 144) rfl ex2 ?_
        exact go_ri (pc := 145) rfl hh
      · refine go_ifneF (pc := 132) rfl hc ?_
        refine go_il (pc := 135) rfl l4 ?_
        refine go_goto (pc := 137) rfl ?_
        exact go_ri (pc := 145) rfl hh
    · refine go_ifgeF (pc := 123) rfl hc ?_
      refine go_pi (pc := 126) rfl ?_
      refine go_goto (pc := 128) rfl ?_
      exact go_ri (pc := 145) rfl hh
  · refine go_cmpgeF (pc := 76) rfl hc ?_
    refine go_al (pc := 79) rfl l0 ?_
    obtain ⟨x3, ex3, hh⟩ := bi_bd hh
    refine go_gfR (pc := 80) rfl ex3 ?_
    refine go_pi (pc := 83) rfl ?_
    refine go_il (pc := 86) rfl l5 ?_
    refine go_imul (pc := 88) rfl ?_
    refine go_il (pc := 89) rfl l2 ?_
    refine go_iadd (pc := 90) rfl ?_
    obtain ⟨x4, ex4, hh⟩ := bi_bd hh
    refine go_iald (pc := 91) rfl ex4 ?_
    refine go_is (pc := 92) rfl ?_
    refine go_il (pc := 94) rfl bi_e1 ?_
    refine bi_ite hh (fun hc hh => ?_) (fun hc hh => ?_)
    · refine go_ifltT (pc := 96) rfl hc ?_
      exact sX11_round_115 R70 (bi_k1 l0 rfl rfl) (bi_k1 l2 rfl rfl) (bi_k1 l3 rfl rfl) (bi_k1 l4 rfl rfl) (bi_k1 l5 rfl rfl) hh
    · refine go_ifltF (pc := 96) rfl hc ?_
      refine go_il (pc := 99) rfl (bi_k1 l4 rfl rfl) ?_
      refine bi_ite hh (fun hc hh => ?_) (fun hc hh => ?_)
      · refine go_ifltT (pc := 101) rfl hc ?_
        exact sX11_round_111 R70 (bi_k1 l0 rfl rfl) (bi_k1 l2 rfl rfl) (bi_k1 l3 rfl rfl) (bi_k1 l5 rfl rfl) bi_e1 hh
      · refine go_ifltF (pc := 101) rfl hc ?_
        refine go_il (pc := 104) rfl bi_e1 ?_
        refine go_il (pc := 106) rfl (bi_k1 l4 rfl rfl) ?_
        refine bi_ite hh (fun hc hh => ?_) (fun hc hh => ?_)
        · refine go_cmpgeT (pc := 108) rfl hc ?_
          exact sX11_round_115 R70 (bi_k1 l0 rfl rfl) (bi_k1 l2 rfl rfl) (bi_k1 l3 rfl rfl) (bi_k1 l4 rfl rfl) (bi_k1 l5 rfl rfl) hh
        · refine go_cmpgeF (pc := 108) rfl hc ?_
          exact sX11_round_111 R70 (bi_k1 l0 rfl rfl) (bi_k1 l2 rfl rfl) (bi_k1 l3 rfl rfl) (bi_k1 l5 rfl rfl) bi_e1 hh
def fX11_round_70 (n : Nat) : Nat → ai_H → Nat → Int32 → Int32 → Int32 → Int32 → Option (Int32 × ai_H)
  | 0 => fun _ _ _ _ _ _ => none
  | k + 1 => fun h v0 v2 v3 v4 v5 => fX11_round_70b n (fX11_round_70 n k) h v0 v2 v3 v4 v5
theorem sX11_round_70 {n : Nat} {q : Int32 × ai_H} : ∀ (k : Nat) (h : ai_H) (v0 : Nat) (v2 : Int32) (v3 : Int32) (v4 : Int32) (v5 : Int32) (lv : ai_L), ai_ld 0 lv = some (.ref v0) → ai_ld 2 lv = some (.int v2) → ai_ld 3 lv = some (.int v3) → ai_ld 4 lv = some (.int v4) → ai_ld 5 lv = some (.int v5) → fX11_round_70 n k h v0 v2 v3 v4 v5 = some q → bi_go 2 tX11_round n (fI n q) 70 lv [] h
  | 0 => fun _ _ _ _ _ _ _ _ _ _ _ _ hh => by cases hh
  | k + 1 => fun h v0 v2 v3 v4 v5 lv l0 l2 l3 l4 l5 hh => sX11_round_70b  (sX11_round_70  k) l0 l2 l3 l4 l5 hh
def fX11_round_60 (n : Nat) (h : ai_H) (v0 : Nat) (v2 : Int32) (v3 : Int32) (s0 : Int32) (s1 : Int32) (s2 : Int32) (s3 : Nat) : Option (Int32 × ai_H) :=
  (fX11_settle n h s3 s2 s1 s0).bind fun q1 =>
  fX11_round_70 n bi_K q1.2 v0 v2 v3 (-2 : Int32) (0 : Int32)
theorem sX11_round_60 {n : Nat} {q : Int32 × ai_H} {h : ai_H} {v0 : Nat} {v2 : Int32} {v3 : Int32} {s0 : Int32} {s1 : Int32} {s2 : Int32} {s3 : Nat} {lv : ai_L} (l0 : ai_ld 0 lv = some (.ref v0)) (l2 : ai_ld 2 lv = some (.int v2)) (l3 : ai_ld 3 lv = some (.int v3)) (hh : fX11_round_60 n h v0 v2 v3 s0 s1 s2 s3 = some q) : bi_go 2 tX11_round n (fI n q) 60 lv [.int s0, .int s1, .int s2, .ref s3] h := by
  unfold fX11_round_60 at hh
  obtain ⟨q1, eq1, hh⟩ := bi_bd hh
  refine go_ivV (pc := 60) rfl rfl (gX11_settle eq1) (Nat.le_of_ble_eq_true rfl) (bi_up (sX11_settle eq1) (Nat.le_of_ble_eq_true rfl)) ?_
  refine go_pi (pc := 63) rfl ?_
  refine go_is (pc := 65) rfl ?_
  refine go_pi (pc := 67) rfl ?_
  refine go_is (pc := 68) rfl ?_
  exact sX11_round_70  _ _ _ _ _ _ _ _ (bi_k1 (bi_k1 l0 rfl rfl) rfl rfl) (bi_k1 (bi_k1 l2 rfl rfl) rfl rfl) (bi_k1 (bi_k1 l3 rfl rfl) rfl rfl) (bi_k1 bi_e1 rfl rfl) bi_e1 hh
def fX11_round (n : Nat) (h : ai_H) (a0 : Nat) (a1 : Int32) (a2 : Int32) (a3 : Int32) : Option (Int32 × ai_H) :=
  (kO n h a0 11).bind fun _ =>
  (sF n h a0 11 2 (.int) (.int (0 : Int32))).bind fun h1 =>
  (fX11_isWalker n h1 a0 a1).bind fun q2 =>
  if q2.1 = 0 then (
    some ((-1 : Int32), q2.2))
  else (
    if a2 < 0 then (
      some ((-1 : Int32), q2.2))
    else (
      (pI n q2.2 a0 11 13).bind fun x3 =>
      if ¬ (a2 >>> (x3 &&& 31)) = 0 then (
        some ((-1 : Int32), q2.2))
      else (
        (fX11_isIn n q2.2 a3 (0 : Int32) (1 : Int32)).bind fun q4 =>
        if ¬ q4.1 = 0 then (
          if ¬ a2 = 0 then (
            if ¬ a3 = 0 then (
              (pR n q4.2 a0 11 36).bind fun x5 =>
              (gX 1 n q4.2 x5 a1).bind fun x6 =>
              fX11_round_60 n q4.2 a0 a2 a3 x6 a2 a1 a0)
            else (
              fX11_round_60 n q4.2 a0 a2 a3 (0 : Int32) a2 a1 a0))
          else (
            some ((0 : Int32), q4.2)))
        else (
          some ((-1 : Int32), q4.2)))))
theorem gX11_round {n : Nat} {h : ai_H} {a0 : Nat} {a1 : Int32} {a2 : Int32} {a3 : Int32} {q : Int32 × ai_H} (hh : fX11_round n h a0 a1 a2 a3 = some q) : kO n h a0 11 = some () := by
  obtain ⟨_, e, -⟩ := bi_bd hh
  exact e
theorem sX11_round {n : Nat} {h : ai_H} {a0 : Nat} {a1 : Int32} {a2 : Int32} {a3 : Int32} {q : Int32 × ai_H} (hh : fX11_round n h a0 a1 a2 a3 = some q) : bi_sp 3 223 [.ref a0, .int a1, .int a2, .int a3] h n (fI n q) := by
  refine bi_en (D := 2) (T := tX11_round) (funext fun pc => rfl) rfl (Nat.le_of_ble_eq_true rfl) ?_
  unfold fX11_round at hh
  obtain ⟨_, eO, hh⟩ := bi_bd hh
  refine go_al (pc := 0) rfl (rfl : ai_ld 0 (lv_args 0 [.ref a0, .int a1, .int a2, .int a3]) = some (.ref a0)) ?_
  refine go_pi (pc := 1) rfl ?_
  obtain ⟨h1, eh1, hh⟩ := bi_bd hh
  refine go_pf (pc := 2) rfl eh1 ?_
  refine go_al (pc := 5) rfl (rfl : ai_ld 0 (lv_args 0 [.ref a0, .int a1, .int a2, .int a3]) = some (.ref a0)) ?_
  refine go_il (pc := 6) rfl (rfl : ai_ld 1 (lv_args 0 [.ref a0, .int a1, .int a2, .int a3]) = some (.int a1)) ?_
  obtain ⟨q2, eq2, hh⟩ := bi_bd hh
  refine go_ivI (pc := 7) rfl rfl (gX11_isWalker eq2) (Nat.le_of_ble_eq_true rfl) (bi_up (sX11_isWalker eq2) (Nat.le_of_ble_eq_true rfl)) ?_
  refine bi_ite hh (fun hc hh => ?_) (fun hc hh => ?_)
  · refine go_ifeqT (pc := 10) rfl hc ?_
    refine go_pi (pc := 35) rfl ?_
    exact go_ri (pc := 36) rfl hh
  · refine go_ifeqF (pc := 10) rfl hc ?_
    refine go_il (pc := 13) rfl (rfl : ai_ld 2 (lv_args 0 [.ref a0, .int a1, .int a2, .int a3]) = some (.int a2)) ?_
    refine bi_ite hh (fun hc hh => ?_) (fun hc hh => ?_)
    · refine go_ifltT (pc := 14) rfl hc ?_
      refine go_pi (pc := 35) rfl ?_
      exact go_ri (pc := 36) rfl hh
    · refine go_ifltF (pc := 14) rfl hc ?_
      refine go_il (pc := 17) rfl (rfl : ai_ld 2 (lv_args 0 [.ref a0, .int a1, .int a2, .int a3]) = some (.int a2)) ?_
      refine go_al (pc := 18) rfl (rfl : ai_ld 0 (lv_args 0 [.ref a0, .int a1, .int a2, .int a3]) = some (.ref a0)) ?_
      obtain ⟨x3, ex3, hh⟩ := bi_bd hh
      refine go_gfI (pc := 19) rfl ex3 ?_
      refine go_ishr (pc := 22) rfl ?_
      refine bi_ite hh (fun hc hh => ?_) (fun hc hh => ?_)
      · refine go_ifneT (pc := 23) rfl hc ?_
        refine go_pi (pc := 35) rfl ?_
        exact go_ri (pc := 36) rfl hh
      · refine go_ifneF (pc := 23) rfl hc ?_
        refine go_il (pc := 26) rfl (rfl : ai_ld 3 (lv_args 0 [.ref a0, .int a1, .int a2, .int a3]) = some (.int a3)) ?_
        refine go_pi (pc := 27) rfl ?_
        refine go_pi (pc := 28) rfl ?_
        obtain ⟨q4, eq4, hh⟩ := bi_bd hh
        refine go_iSI (pc := 29) rfl (Nat.le_of_ble_eq_true rfl) rfl (Nat.le_of_ble_eq_true rfl) (bi_up (sX11_isIn eq4) (Nat.le_of_ble_eq_true rfl)) ?_
        refine bi_ite hh (fun hc hh => ?_) (fun hc hh => ?_)
        · refine go_ifneT (pc := 32) rfl hc ?_
          refine go_il (pc := 37) rfl (rfl : ai_ld 2 (lv_args 0 [.ref a0, .int a1, .int a2, .int a3]) = some (.int a2)) ?_
          refine bi_ite hh (fun hc hh => ?_) (fun hc hh => ?_)
          · refine go_ifneT (pc := 38) rfl hc ?_
            refine go_al (pc := 43) rfl (rfl : ai_ld 0 (lv_args 0 [.ref a0, .int a1, .int a2, .int a3]) = some (.ref a0)) ?_
            refine go_il (pc := 44) rfl (rfl : ai_ld 1 (lv_args 0 [.ref a0, .int a1, .int a2, .int a3]) = some (.int a1)) ?_
            refine go_il (pc := 45) rfl (rfl : ai_ld 2 (lv_args 0 [.ref a0, .int a1, .int a2, .int a3]) = some (.int a2)) ?_
            refine go_il (pc := 46) rfl (rfl : ai_ld 3 (lv_args 0 [.ref a0, .int a1, .int a2, .int a3]) = some (.int a3)) ?_
            refine bi_ite hh (fun hc hh => ?_) (fun hc hh => ?_)
            · refine go_ifneT (pc := 47) rfl hc ?_
              refine go_al (pc := 54) rfl (rfl : ai_ld 0 (lv_args 0 [.ref a0, .int a1, .int a2, .int a3]) = some (.ref a0)) ?_
              obtain ⟨x5, ex5, hh⟩ := bi_bd hh
              refine go_gfR (pc := 55) rfl ex5 ?_
              refine go_il (pc := 58) rfl (rfl : ai_ld 1 (lv_args 0 [.ref a0, .int a1, .int a2, .int a3]) = some (.int a1)) ?_
              obtain ⟨x6, ex6, hh⟩ := bi_bd hh
              refine go_iald (pc := 59) rfl ex6 ?_
              exact sX11_round_60  (rfl : ai_ld 0 (lv_args 0 [.ref a0, .int a1, .int a2, .int a3]) = some (.ref a0)) (rfl : ai_ld 2 (lv_args 0 [.ref a0, .int a1, .int a2, .int a3]) = some (.int a2)) (rfl : ai_ld 3 (lv_args 0 [.ref a0, .int a1, .int a2, .int a3]) = some (.int a3)) hh
            · refine go_ifneF (pc := 47) rfl hc ?_
              refine go_pi (pc := 50) rfl ?_
              refine go_goto (pc := 51) rfl ?_
              exact sX11_round_60  (rfl : ai_ld 0 (lv_args 0 [.ref a0, .int a1, .int a2, .int a3]) = some (.ref a0)) (rfl : ai_ld 2 (lv_args 0 [.ref a0, .int a1, .int a2, .int a3]) = some (.int a2)) (rfl : ai_ld 3 (lv_args 0 [.ref a0, .int a1, .int a2, .int a3]) = some (.int a3)) hh
          · refine go_ifneF (pc := 38) rfl hc ?_
            refine go_pi (pc := 41) rfl ?_
            exact go_ri (pc := 42) rfl hh
        · refine go_ifneF (pc := 32) rfl hc ?_
          refine go_pi (pc := 35) rfl ?_
          exact go_ri (pc := 36) rfl hh
def fX11_layRoots_132 (n : Nat) (r23 : ai_H → Nat → Int32 → Int32 → Option (Unit × ai_H)) (r31 : ai_H → Nat → Int32 → Int32 → Int32 → Option (Unit × ai_H)) (h : ai_H) (v0 : Nat) (v1 : Int32) (v2 : Int32) (v3 : Int32) : Option (Unit × ai_H) :=
  r31 h v0 v1 v2 (v3 + 1)
theorem sX11_layRoots_132 {n : Nat} {r23 : ai_H → Nat → Int32 → Int32 → Option (Unit × ai_H)} {r31 : ai_H → Nat → Int32 → Int32 → Int32 → Option (Unit × ai_H)} {q : Unit × ai_H} {h : ai_H} {v0 : Nat} {v1 : Int32} {v2 : Int32} {v3 : Int32} {lv : ai_L} (R23 : ∀ (h : ai_H) (v0 : Nat) (v1 : Int32) (v2 : Int32) (lv : ai_L), ai_ld 0 lv = some (.ref v0) → ai_ld 1 lv = some (.int v1) → ai_ld 2 lv = some (.int v2) → r23 h v0 v1 v2 = some q → bi_go 0 tX11_layRoots n (fV n q) 23 lv [] h) (R31 : ∀ (h : ai_H) (v0 : Nat) (v1 : Int32) (v2 : Int32) (v3 : Int32) (lv : ai_L), ai_ld 0 lv = some (.ref v0) → ai_ld 1 lv = some (.int v1) → ai_ld 2 lv = some (.int v2) → ai_ld 3 lv = some (.int v3) → r31 h v0 v1 v2 v3 = some q → bi_go 0 tX11_layRoots n (fV n q) 31 lv [] h) (l0 : ai_ld 0 lv = some (.ref v0)) (l1 : ai_ld 1 lv = some (.int v1)) (l2 : ai_ld 2 lv = some (.int v2)) (l3 : ai_ld 3 lv = some (.int v3)) (hh : fX11_layRoots_132 n r23 r31 h v0 v1 v2 v3 = some q) : bi_go 0 tX11_layRoots n (fV n q) 132 lv [] h := by
  unfold fX11_layRoots_132 at hh
  refine go_inc (pc := 132) rfl l3 ?_
  refine go_goto (pc := 135) rfl ?_
  exact R31 _ _ _ _ _ _ (bi_k1 l0 rfl rfl) (bi_k1 l1 rfl rfl) (bi_k1 l2 rfl rfl) bi_e1 hh
def fX11_layRoots_131 (n : Nat) (r23 : ai_H → Nat → Int32 → Int32 → Option (Unit × ai_H)) (r31 : ai_H → Nat → Int32 → Int32 → Int32 → Option (Unit × ai_H)) (h : ai_H) (v0 : Nat) (v1 : Int32) (v2 : Int32) (v3 : Int32) (s0 : Int32) (s1 : Int32) (s2 : Nat) : Option (Unit × ai_H) :=
  (wX 1 (fun x => x) n h s2 s1 s0).bind fun h1 =>
  fX11_layRoots_132 n r23 r31 h1 v0 v1 v2 v3
theorem sX11_layRoots_131 {n : Nat} {r23 : ai_H → Nat → Int32 → Int32 → Option (Unit × ai_H)} {r31 : ai_H → Nat → Int32 → Int32 → Int32 → Option (Unit × ai_H)} {q : Unit × ai_H} {h : ai_H} {v0 : Nat} {v1 : Int32} {v2 : Int32} {v3 : Int32} {s0 : Int32} {s1 : Int32} {s2 : Nat} {lv : ai_L} (R23 : ∀ (h : ai_H) (v0 : Nat) (v1 : Int32) (v2 : Int32) (lv : ai_L), ai_ld 0 lv = some (.ref v0) → ai_ld 1 lv = some (.int v1) → ai_ld 2 lv = some (.int v2) → r23 h v0 v1 v2 = some q → bi_go 0 tX11_layRoots n (fV n q) 23 lv [] h) (R31 : ∀ (h : ai_H) (v0 : Nat) (v1 : Int32) (v2 : Int32) (v3 : Int32) (lv : ai_L), ai_ld 0 lv = some (.ref v0) → ai_ld 1 lv = some (.int v1) → ai_ld 2 lv = some (.int v2) → ai_ld 3 lv = some (.int v3) → r31 h v0 v1 v2 v3 = some q → bi_go 0 tX11_layRoots n (fV n q) 31 lv [] h) (l0 : ai_ld 0 lv = some (.ref v0)) (l1 : ai_ld 1 lv = some (.int v1)) (l2 : ai_ld 2 lv = some (.int v2)) (l3 : ai_ld 3 lv = some (.int v3)) (hh : fX11_layRoots_131 n r23 r31 h v0 v1 v2 v3 s0 s1 s2 = some q) : bi_go 0 tX11_layRoots n (fV n q) 131 lv [.int s0, .int s1, .ref s2] h := by
  unfold fX11_layRoots_131 at hh
  obtain ⟨h1, eh1, hh⟩ := bi_bd hh
  refine go_iast (pc := 131) rfl eh1 ?_
  exact sX11_layRoots_132 R23 R31 l0 l1 l2 l3 hh
def fX11_layRoots_106 (n : Nat) (r23 : ai_H → Nat → Int32 → Int32 → Option (Unit × ai_H)) (r31 : ai_H → Nat → Int32 → Int32 → Int32 → Option (Unit × ai_H)) (h : ai_H) (v0 : Nat) (v1 : Int32) (v2 : Int32) (v3 : Int32) (v4 : Int32) (v5 : Int32) (s0 : Int32) (s1 : Int32) (s2 : Nat) : Option (Unit × ai_H) :=
  (wX 1 (fun x => x) n h s2 s1 s0).bind fun h1 =>
  (pR n h1 v0 11 79).bind fun x2 =>
  (pR n h1 v0 11 29).bind fun x3 =>
  (gX 1 n h1 x3 v3).bind fun x4 =>
  if v5 ≤ v4 then (
    fX11_layRoots_131 n r23 r31 h1 v0 v1 v2 v3 v5 x4 x2)
  else (
    fX11_layRoots_131 n r23 r31 h1 v0 v1 v2 v3 v4 x4 x2)
theorem sX11_layRoots_106 {n : Nat} {r23 : ai_H → Nat → Int32 → Int32 → Option (Unit × ai_H)} {r31 : ai_H → Nat → Int32 → Int32 → Int32 → Option (Unit × ai_H)} {q : Unit × ai_H} {h : ai_H} {v0 : Nat} {v1 : Int32} {v2 : Int32} {v3 : Int32} {v4 : Int32} {v5 : Int32} {s0 : Int32} {s1 : Int32} {s2 : Nat} {lv : ai_L} (R23 : ∀ (h : ai_H) (v0 : Nat) (v1 : Int32) (v2 : Int32) (lv : ai_L), ai_ld 0 lv = some (.ref v0) → ai_ld 1 lv = some (.int v1) → ai_ld 2 lv = some (.int v2) → r23 h v0 v1 v2 = some q → bi_go 0 tX11_layRoots n (fV n q) 23 lv [] h) (R31 : ∀ (h : ai_H) (v0 : Nat) (v1 : Int32) (v2 : Int32) (v3 : Int32) (lv : ai_L), ai_ld 0 lv = some (.ref v0) → ai_ld 1 lv = some (.int v1) → ai_ld 2 lv = some (.int v2) → ai_ld 3 lv = some (.int v3) → r31 h v0 v1 v2 v3 = some q → bi_go 0 tX11_layRoots n (fV n q) 31 lv [] h) (l0 : ai_ld 0 lv = some (.ref v0)) (l1 : ai_ld 1 lv = some (.int v1)) (l2 : ai_ld 2 lv = some (.int v2)) (l3 : ai_ld 3 lv = some (.int v3)) (l4 : ai_ld 4 lv = some (.int v4)) (l5 : ai_ld 5 lv = some (.int v5)) (hh : fX11_layRoots_106 n r23 r31 h v0 v1 v2 v3 v4 v5 s0 s1 s2 = some q) : bi_go 0 tX11_layRoots n (fV n q) 106 lv [.int s0, .int s1, .ref s2] h := by
  unfold fX11_layRoots_106 at hh
  obtain ⟨h1, eh1, hh⟩ := bi_bd hh
  refine go_iast (pc := 106) rfl eh1 ?_
  refine go_al (pc := 107) rfl l0 ?_
  obtain ⟨x2, ex2, hh⟩ := bi_bd hh
  refine go_gfR (pc := 108) rfl ex2 ?_
  refine go_al (pc := 111) rfl l0 ?_
  obtain ⟨x3, ex3, hh⟩ := bi_bd hh
  refine go_gfR (pc := 112) rfl ex3 ?_
  refine go_il (pc := 115) rfl l3 ?_
  obtain ⟨x4, ex4, hh⟩ := bi_bd hh
  refine go_iald (pc := 116) rfl ex4 ?_
  refine go_il (pc := 117) rfl l4 ?_
  refine go_il (pc := 119) rfl l5 ?_
  refine bi_ite hh (fun hc hh => ?_) (fun hc hh => ?_)
  · refine go_cmpgeT (pc := 121) rfl hc ?_
    refine go_il (pc := 129) rfl l5 ?_
    exact sX11_layRoots_131 R23 R31 l0 l1 l2 l3 hh
  · refine go_cmpgeF (pc := 121) rfl hc ?_
    refine go_il (pc := 124) rfl l4 ?_
    refine go_goto (pc := 126) rfl ?_
    exact sX11_layRoots_131 R23 R31 l0 l1 l2 l3 hh
def fX11_layRoots_31b (n : Nat) (r23 : ai_H → Nat → Int32 → Int32 → Option (Unit × ai_H)) (r31 : ai_H → Nat → Int32 → Int32 → Int32 → Option (Unit × ai_H)) (h : ai_H) (v0 : Nat) (v1 : Int32) (v2 : Int32) (v3 : Int32) : Option (Unit × ai_H) :=
  (pI n h v0 11 13).bind fun x1 =>
  if x1 ≤ v3 then (
    r23 h v0 v1 (v2 + 1))
  else (
    (pR n h v0 11 63).bind fun x2 =>
    (gB n h x2 v3).bind fun x3 =>
    if x3 = 0 then (
      fX11_layRoots_132 n r23 r31 h v0 v1 v2 v3)
    else (
      if ¬ v3 = v1 then (
        (pR n h v0 11 79).bind fun x4 =>
        (pR n h v0 11 28).bind fun x5 =>
        (gX 1 n h x5 v3).bind fun x6 =>
        (gX 1 n h x4 x6).bind fun x7 =>
        (pR n h v0 11 79).bind fun x8 =>
        (pR n h v0 11 29).bind fun x9 =>
        (gX 1 n h x9 v3).bind fun x10 =>
        (gX 1 n h x8 x10).bind fun x11 =>
        (pR n h v0 11 79).bind fun x12 =>
        (pR n h v0 11 28).bind fun x13 =>
        (gX 1 n h x13 v3).bind fun x14 =>
        if x11 ≤ x7 then (
          fX11_layRoots_106 n r23 r31 h v0 v1 v2 v3 x7 x11 x11 x14 x12)
        else (
          fX11_layRoots_106 n r23 r31 h v0 v1 v2 v3 x7 x11 x7 x14 x12))
      else (
        fX11_layRoots_132 n r23 r31 h v0 v1 v2 v3)))
theorem sX11_layRoots_31b {n : Nat} {r23 : ai_H → Nat → Int32 → Int32 → Option (Unit × ai_H)} {r31 : ai_H → Nat → Int32 → Int32 → Int32 → Option (Unit × ai_H)} {q : Unit × ai_H} {h : ai_H} {v0 : Nat} {v1 : Int32} {v2 : Int32} {v3 : Int32} {lv : ai_L} (R23 : ∀ (h : ai_H) (v0 : Nat) (v1 : Int32) (v2 : Int32) (lv : ai_L), ai_ld 0 lv = some (.ref v0) → ai_ld 1 lv = some (.int v1) → ai_ld 2 lv = some (.int v2) → r23 h v0 v1 v2 = some q → bi_go 0 tX11_layRoots n (fV n q) 23 lv [] h) (R31 : ∀ (h : ai_H) (v0 : Nat) (v1 : Int32) (v2 : Int32) (v3 : Int32) (lv : ai_L), ai_ld 0 lv = some (.ref v0) → ai_ld 1 lv = some (.int v1) → ai_ld 2 lv = some (.int v2) → ai_ld 3 lv = some (.int v3) → r31 h v0 v1 v2 v3 = some q → bi_go 0 tX11_layRoots n (fV n q) 31 lv [] h) (l0 : ai_ld 0 lv = some (.ref v0)) (l1 : ai_ld 1 lv = some (.int v1)) (l2 : ai_ld 2 lv = some (.int v2)) (l3 : ai_ld 3 lv = some (.int v3)) (hh : fX11_layRoots_31b n r23 r31 h v0 v1 v2 v3 = some q) : bi_go 0 tX11_layRoots n (fV n q) 31 lv [] h := by
  unfold fX11_layRoots_31b at hh
  refine go_il (pc := 31) rfl l3 ?_
  refine go_al (pc := 32) rfl l0 ?_
  obtain ⟨x1, ex1, hh⟩ := bi_bd hh
  refine go_gfI (pc := 33) rfl ex1 ?_
  refine bi_ite hh (fun hc hh => ?_) (fun hc hh => ?_)
  · refine go_cmpgeT (pc := 36) rfl hc ?_
    refine go_inc (pc := 138) rfl l2 ?_
    refine go_goto (pc := 141) rfl ?_
    exact R23 _ _ _ _ _ (bi_k1 l0 rfl rfl) (bi_k1 l1 rfl rfl) bi_e1 hh
  · refine go_cmpgeF (pc := 36) rfl hc ?_
    refine go_al (pc := 39) rfl l0 ?_
    obtain ⟨x2, ex2, hh⟩ := bi_bd hh
    refine go_gfR (pc := 40) rfl ex2 ?_
    refine go_il (pc := 43) rfl l3 ?_
    obtain ⟨x3, ex3, hh⟩ := bi_bd hh
    refine go_bald (pc := 44) rfl ex3 ?_
    refine bi_ite hh (fun hc hh => ?_) (fun hc hh => ?_)
    · refine go_ifeqT (pc := 45) rfl hc ?_
      exact sX11_layRoots_132 R23 R31 l0 l1 l2 l3 hh
    · refine go_ifeqF (pc := 45) rfl hc ?_
      refine go_il (pc := 48) rfl l3 ?_
      refine go_il (pc := 49) rfl l1 ?_
      refine bi_ite hh (fun hc hh => ?_) (fun hc hh => ?_)
      · refine go_cmpneT (pc := 50) rfl hc ?_
        refine go_al (pc := 56) rfl l0 ?_
        obtain ⟨x4, ex4, hh⟩ := bi_bd hh
        refine go_gfR (pc := 57) rfl ex4 ?_
        refine go_al (pc := 60) rfl l0 ?_
        obtain ⟨x5, ex5, hh⟩ := bi_bd hh
        refine go_gfR (pc := 61) rfl ex5 ?_
        refine go_il (pc := 64) rfl l3 ?_
        obtain ⟨x6, ex6, hh⟩ := bi_bd hh
        refine go_iald (pc := 65) rfl ex6 ?_
        obtain ⟨x7, ex7, hh⟩ := bi_bd hh
        refine go_iald (pc := 66) rfl ex7 ?_
        refine go_is (pc := 67) rfl ?_
        refine go_al (pc := 69) rfl (bi_k1 l0 rfl rfl) ?_
        obtain ⟨x8, ex8, hh⟩ := bi_bd hh
        refine go_gfR (pc := 70) rfl ex8 ?_
        refine go_al (pc := 73) rfl (bi_k1 l0 rfl rfl) ?_
        obtain ⟨x9, ex9, hh⟩ := bi_bd hh
        refine go_gfR (pc := 74) rfl ex9 ?_
        refine go_il (pc := 77) rfl (bi_k1 l3 rfl rfl) ?_
        obtain ⟨x10, ex10, hh⟩ := bi_bd hh
        refine go_iald (pc := 78) rfl ex10 ?_
        obtain ⟨x11, ex11, hh⟩ := bi_bd hh
        refine go_iald (pc := 79) rfl ex11 ?_
        refine go_is (pc := 80) rfl ?_
        refine go_al (pc := 82) rfl (bi_k1 (bi_k1 l0 rfl rfl) rfl rfl) ?_
        obtain ⟨x12, ex12, hh⟩ := bi_bd hh
        refine go_gfR (pc := 83) rfl ex12 ?_
        refine go_al (pc := 86) rfl (bi_k1 (bi_k1 l0 rfl rfl) rfl rfl) ?_
        obtain ⟨x13, ex13, hh⟩ := bi_bd hh
        refine go_gfR (pc := 87) rfl ex13 ?_
        refine go_il (pc := 90) rfl (bi_k1 (bi_k1 l3 rfl rfl) rfl rfl) ?_
        obtain ⟨x14, ex14, hh⟩ := bi_bd hh
        refine go_iald (pc := 91) rfl ex14 ?_
        refine go_il (pc := 92) rfl (bi_k1 bi_e1 rfl rfl) ?_
        refine go_il (pc := 94) rfl bi_e1 ?_
        refine bi_ite hh (fun hc hh => ?_) (fun hc hh => ?_)
        · refine go_cmpgeT (pc := 96) rfl hc ?_
          refine go_il (pc := 104) rfl bi_e1 ?_
          exact sX11_layRoots_106 R23 R31 (bi_k1 (bi_k1 l0 rfl rfl) rfl rfl) (bi_k1 (bi_k1 l1 rfl rfl) rfl rfl) (bi_k1 (bi_k1 l2 rfl rfl) rfl rfl) (bi_k1 (bi_k1 l3 rfl rfl) rfl rfl) (bi_k1 bi_e1 rfl rfl) bi_e1 hh
        · refine go_cmpgeF (pc := 96) rfl hc ?_
          refine go_il (pc := 99) rfl (bi_k1 bi_e1 rfl rfl) ?_
          refine go_goto (pc := 101) rfl ?_
          exact sX11_layRoots_106 R23 R31 (bi_k1 (bi_k1 l0 rfl rfl) rfl rfl) (bi_k1 (bi_k1 l1 rfl rfl) rfl rfl) (bi_k1 (bi_k1 l2 rfl rfl) rfl rfl) (bi_k1 (bi_k1 l3 rfl rfl) rfl rfl) (bi_k1 bi_e1 rfl rfl) bi_e1 hh
      · refine go_cmpneF (pc := 50) rfl hc ?_
        refine go_goto (pc := 53) rfl ?_
        exact sX11_layRoots_132 R23 R31 l0 l1 l2 l3 hh
def fX11_layRoots_31 (n : Nat) (r23 : ai_H → Nat → Int32 → Int32 → Option (Unit × ai_H)) : Nat → ai_H → Nat → Int32 → Int32 → Int32 → Option (Unit × ai_H)
  | 0 => fun _ _ _ _ _ => none
  | k + 1 => fun h v0 v1 v2 v3 => fX11_layRoots_31b n r23 (fX11_layRoots_31 n r23 k) h v0 v1 v2 v3
theorem sX11_layRoots_31 {n : Nat} {r23 : ai_H → Nat → Int32 → Int32 → Option (Unit × ai_H)} {q : Unit × ai_H} (R23 : ∀ (h : ai_H) (v0 : Nat) (v1 : Int32) (v2 : Int32) (lv : ai_L), ai_ld 0 lv = some (.ref v0) → ai_ld 1 lv = some (.int v1) → ai_ld 2 lv = some (.int v2) → r23 h v0 v1 v2 = some q → bi_go 0 tX11_layRoots n (fV n q) 23 lv [] h) : ∀ (k : Nat) (h : ai_H) (v0 : Nat) (v1 : Int32) (v2 : Int32) (v3 : Int32) (lv : ai_L), ai_ld 0 lv = some (.ref v0) → ai_ld 1 lv = some (.int v1) → ai_ld 2 lv = some (.int v2) → ai_ld 3 lv = some (.int v3) → fX11_layRoots_31 n r23 k h v0 v1 v2 v3 = some q → bi_go 0 tX11_layRoots n (fV n q) 31 lv [] h
  | 0 => fun _ _ _ _ _ _ _ _ _ _ hh => by cases hh
  | k + 1 => fun h v0 v1 v2 v3 lv l0 l1 l2 l3 hh => sX11_layRoots_31b R23 (sX11_layRoots_31 R23 k) l0 l1 l2 l3 hh
def fX11_layRoots_23b (n : Nat) (r23 : ai_H → Nat → Int32 → Int32 → Option (Unit × ai_H)) (h : ai_H) (v0 : Nat) (v1 : Int32) (v2 : Int32) : Option (Unit × ai_H) :=
  if (7 : Int32) ≤ v2 then (
    some ((), h))
  else (
    fX11_layRoots_31 n r23 bi_K h v0 v1 v2 (0 : Int32))
theorem sX11_layRoots_23b {n : Nat} {r23 : ai_H → Nat → Int32 → Int32 → Option (Unit × ai_H)} {q : Unit × ai_H} {h : ai_H} {v0 : Nat} {v1 : Int32} {v2 : Int32} {lv : ai_L} (R23 : ∀ (h : ai_H) (v0 : Nat) (v1 : Int32) (v2 : Int32) (lv : ai_L), ai_ld 0 lv = some (.ref v0) → ai_ld 1 lv = some (.int v1) → ai_ld 2 lv = some (.int v2) → r23 h v0 v1 v2 = some q → bi_go 0 tX11_layRoots n (fV n q) 23 lv [] h) (l0 : ai_ld 0 lv = some (.ref v0)) (l1 : ai_ld 1 lv = some (.int v1)) (l2 : ai_ld 2 lv = some (.int v2)) (hh : fX11_layRoots_23b n r23 h v0 v1 v2 = some q) : bi_go 0 tX11_layRoots n (fV n q) 23 lv [] h := by
  unfold fX11_layRoots_23b at hh
  refine go_il (pc := 23) rfl l2 ?_
  refine go_pi (pc := 24) rfl ?_
  refine bi_ite hh (fun hc hh => ?_) (fun hc hh => ?_)
  · refine go_cmpgeT (pc := 26) rfl hc ?_
    exact go_rv (pc := 144) rfl hh
  · refine go_cmpgeF (pc := 26) rfl hc ?_
    refine go_pi (pc := 29) rfl ?_
    refine go_is (pc := 30) rfl ?_
    exact sX11_layRoots_31 R23 _ _ _ _ _ _ _ (bi_k1 l0 rfl rfl) (bi_k1 l1 rfl rfl) (bi_k1 l2 rfl rfl) bi_e1 hh
def fX11_layRoots_23 (n : Nat) : Nat → ai_H → Nat → Int32 → Int32 → Option (Unit × ai_H)
  | 0 => fun _ _ _ _ => none
  | k + 1 => fun h v0 v1 v2 => fX11_layRoots_23b n (fX11_layRoots_23 n k) h v0 v1 v2
theorem sX11_layRoots_23 {n : Nat} {q : Unit × ai_H} : ∀ (k : Nat) (h : ai_H) (v0 : Nat) (v1 : Int32) (v2 : Int32) (lv : ai_L), ai_ld 0 lv = some (.ref v0) → ai_ld 1 lv = some (.int v1) → ai_ld 2 lv = some (.int v2) → fX11_layRoots_23 n k h v0 v1 v2 = some q → bi_go 0 tX11_layRoots n (fV n q) 23 lv [] h
  | 0 => fun _ _ _ _ _ _ _ _ hh => by cases hh
  | k + 1 => fun h v0 v1 v2 lv l0 l1 l2 hh => sX11_layRoots_23b  (sX11_layRoots_23  k) l0 l1 l2 hh
def fX11_layRoots_2b (n : Nat) (r2 : ai_H → Nat → Int32 → Int32 → Option (Unit × ai_H)) (h : ai_H) (v0 : Nat) (v1 : Int32) (v2 : Int32) : Option (Unit × ai_H) :=
  if (7 : Int32) ≤ v2 then (
    fX11_layRoots_23 n bi_K h v0 v1 (0 : Int32))
  else (
    (pR n h v0 11 79).bind fun x1 =>
    (wX 1 (fun x => x) n h x1 v2 v2).bind fun h2 =>
    r2 h2 v0 v1 (v2 + 1))
theorem sX11_layRoots_2b {n : Nat} {r2 : ai_H → Nat → Int32 → Int32 → Option (Unit × ai_H)} {q : Unit × ai_H} {h : ai_H} {v0 : Nat} {v1 : Int32} {v2 : Int32} {lv : ai_L} (R2 : ∀ (h : ai_H) (v0 : Nat) (v1 : Int32) (v2 : Int32) (lv : ai_L), ai_ld 0 lv = some (.ref v0) → ai_ld 1 lv = some (.int v1) → ai_ld 2 lv = some (.int v2) → r2 h v0 v1 v2 = some q → bi_go 0 tX11_layRoots n (fV n q) 2 lv [] h) (l0 : ai_ld 0 lv = some (.ref v0)) (l1 : ai_ld 1 lv = some (.int v1)) (l2 : ai_ld 2 lv = some (.int v2)) (hh : fX11_layRoots_2b n r2 h v0 v1 v2 = some q) : bi_go 0 tX11_layRoots n (fV n q) 2 lv [] h := by
  unfold fX11_layRoots_2b at hh
  refine go_il (pc := 2) rfl l2 ?_
  refine go_pi (pc := 3) rfl ?_
  refine bi_ite hh (fun hc hh => ?_) (fun hc hh => ?_)
  · refine go_cmpgeT (pc := 5) rfl hc ?_
    refine go_pi (pc := 21) rfl ?_
    refine go_is (pc := 22) rfl ?_
    exact sX11_layRoots_23  _ _ _ _ _ _ (bi_k1 l0 rfl rfl) (bi_k1 l1 rfl rfl) bi_e1 hh
  · refine go_cmpgeF (pc := 5) rfl hc ?_
    refine go_al (pc := 8) rfl l0 ?_
    obtain ⟨x1, ex1, hh⟩ := bi_bd hh
    refine go_gfR (pc := 9) rfl ex1 ?_
    refine go_il (pc := 12) rfl l2 ?_
    refine go_il (pc := 13) rfl l2 ?_
    obtain ⟨h2, eh2, hh⟩ := bi_bd hh
    refine go_iast (pc := 14) rfl eh2 ?_
    refine go_inc (pc := 15) rfl l2 ?_
    refine go_goto (pc := 18) rfl ?_
    exact R2 _ _ _ _ _ (bi_k1 l0 rfl rfl) (bi_k1 l1 rfl rfl) bi_e1 hh
def fX11_layRoots_2 (n : Nat) : Nat → ai_H → Nat → Int32 → Int32 → Option (Unit × ai_H)
  | 0 => fun _ _ _ _ => none
  | k + 1 => fun h v0 v1 v2 => fX11_layRoots_2b n (fX11_layRoots_2 n k) h v0 v1 v2
theorem sX11_layRoots_2 {n : Nat} {q : Unit × ai_H} : ∀ (k : Nat) (h : ai_H) (v0 : Nat) (v1 : Int32) (v2 : Int32) (lv : ai_L), ai_ld 0 lv = some (.ref v0) → ai_ld 1 lv = some (.int v1) → ai_ld 2 lv = some (.int v2) → fX11_layRoots_2 n k h v0 v1 v2 = some q → bi_go 0 tX11_layRoots n (fV n q) 2 lv [] h
  | 0 => fun _ _ _ _ _ _ _ _ hh => by cases hh
  | k + 1 => fun h v0 v1 v2 lv l0 l1 l2 hh => sX11_layRoots_2b  (sX11_layRoots_2  k) l0 l1 l2 hh
def fX11_layRoots (n : Nat) (h : ai_H) (a0 : Nat) (a1 : Int32) : Option (Unit × ai_H) :=
  (kO n h a0 11).bind fun _ =>
  fX11_layRoots_2 n bi_K h a0 a1 (0 : Int32)
theorem gX11_layRoots {n : Nat} {h : ai_H} {a0 : Nat} {a1 : Int32} {q : Unit × ai_H} (hh : fX11_layRoots n h a0 a1 = some q) : kO n h a0 11 = some () := by
  obtain ⟨_, e, -⟩ := bi_bd hh
  exact e
theorem sX11_layRoots {n : Nat} {h : ai_H} {a0 : Nat} {a1 : Int32} {q : Unit × ai_H} (hh : fX11_layRoots n h a0 a1 = some q) : bi_sp 1 224 [.ref a0, .int a1] h n (fV n q) := by
  refine bi_en (D := 0) (T := tX11_layRoots) (funext fun pc => rfl) rfl (Nat.le_of_ble_eq_true rfl) ?_
  unfold fX11_layRoots at hh
  obtain ⟨_, eO, hh⟩ := bi_bd hh
  refine go_pi (pc := 0) rfl ?_
  refine go_is (pc := 1) rfl ?_
  exact sX11_layRoots_2  _ _ _ _ _ _ (bi_k1 (rfl : ai_ld 0 (lv_args 0 [.ref a0, .int a1]) = some (.ref a0)) rfl rfl) (bi_k1 (rfl : ai_ld 1 (lv_args 0 [.ref a0, .int a1]) = some (.int a1)) rfl rfl) bi_e1 hh
def fX11_pairsOf_48 (n : Nat) (r9 : ai_H → Nat → Int32 → Int32 → Option (Int32 × ai_H)) (r20 : ai_H → Nat → Int32 → Int32 → Int32 → Option (Int32 × ai_H)) (h : ai_H) (v0 : Nat) (v3 : Int32) (v4 : Int32) (s0 : Int32) (s1 : Int32) : Option (Int32 × ai_H) :=
  r20 h v0 (s1 + s0) v3 (v4 + 1)
theorem sX11_pairsOf_48 {n : Nat} {r9 : ai_H → Nat → Int32 → Int32 → Option (Int32 × ai_H)} {r20 : ai_H → Nat → Int32 → Int32 → Int32 → Option (Int32 × ai_H)} {q : Int32 × ai_H} {h : ai_H} {v0 : Nat} {v3 : Int32} {v4 : Int32} {s0 : Int32} {s1 : Int32} {lv : ai_L} (R9 : ∀ (h : ai_H) (v0 : Nat) (v2 : Int32) (v3 : Int32) (lv : ai_L), ai_ld 0 lv = some (.ref v0) → ai_ld 2 lv = some (.int v2) → ai_ld 3 lv = some (.int v3) → r9 h v0 v2 v3 = some q → bi_go 1 tX11_pairsOf n (fI n q) 9 lv [] h) (R20 : ∀ (h : ai_H) (v0 : Nat) (v2 : Int32) (v3 : Int32) (v4 : Int32) (lv : ai_L), ai_ld 0 lv = some (.ref v0) → ai_ld 2 lv = some (.int v2) → ai_ld 3 lv = some (.int v3) → ai_ld 4 lv = some (.int v4) → r20 h v0 v2 v3 v4 = some q → bi_go 1 tX11_pairsOf n (fI n q) 20 lv [] h) (l0 : ai_ld 0 lv = some (.ref v0)) (l3 : ai_ld 3 lv = some (.int v3)) (l4 : ai_ld 4 lv = some (.int v4)) (hh : fX11_pairsOf_48 n r9 r20 h v0 v3 v4 s0 s1 = some q) : bi_go 1 tX11_pairsOf n (fI n q) 48 lv [.int s0, .int s1] h := by
  unfold fX11_pairsOf_48 at hh
  refine go_iadd (pc := 48) rfl ?_
  refine go_is (pc := 49) rfl ?_
  refine go_inc (pc := 50) rfl (bi_k1 l4 rfl rfl) ?_
  refine go_goto (pc := 53) rfl ?_
  exact R20 _ _ _ _ _ _ (bi_k1 (bi_k1 l0 rfl rfl) rfl rfl) (bi_k1 bi_e1 rfl rfl) (bi_k1 (bi_k1 l3 rfl rfl) rfl rfl) bi_e1 hh
def fX11_pairsOf_20b (n : Nat) (r9 : ai_H → Nat → Int32 → Int32 → Option (Int32 × ai_H)) (r20 : ai_H → Nat → Int32 → Int32 → Int32 → Option (Int32 × ai_H)) (h : ai_H) (v0 : Nat) (v2 : Int32) (v3 : Int32) (v4 : Int32) : Option (Int32 × ai_H) :=
  if v3 ≤ v4 then (
    r9 h v0 v2 (v3 + 1))
  else (
    (pR n h v0 11 79).bind fun x1 =>
    (gX 1 n h x1 v3).bind fun x2 =>
    (pR n h v0 11 79).bind fun x3 =>
    (gX 1 n h x3 v4).bind fun x4 =>
    if ¬ x2 = x4 then (
      fX11_pairsOf_48 n r9 r20 h v0 v3 v4 (0 : Int32) v2)
    else (
      fX11_pairsOf_48 n r9 r20 h v0 v3 v4 (1 : Int32) v2))
theorem sX11_pairsOf_20b {n : Nat} {r9 : ai_H → Nat → Int32 → Int32 → Option (Int32 × ai_H)} {r20 : ai_H → Nat → Int32 → Int32 → Int32 → Option (Int32 × ai_H)} {q : Int32 × ai_H} {h : ai_H} {v0 : Nat} {v2 : Int32} {v3 : Int32} {v4 : Int32} {lv : ai_L} (R9 : ∀ (h : ai_H) (v0 : Nat) (v2 : Int32) (v3 : Int32) (lv : ai_L), ai_ld 0 lv = some (.ref v0) → ai_ld 2 lv = some (.int v2) → ai_ld 3 lv = some (.int v3) → r9 h v0 v2 v3 = some q → bi_go 1 tX11_pairsOf n (fI n q) 9 lv [] h) (R20 : ∀ (h : ai_H) (v0 : Nat) (v2 : Int32) (v3 : Int32) (v4 : Int32) (lv : ai_L), ai_ld 0 lv = some (.ref v0) → ai_ld 2 lv = some (.int v2) → ai_ld 3 lv = some (.int v3) → ai_ld 4 lv = some (.int v4) → r20 h v0 v2 v3 v4 = some q → bi_go 1 tX11_pairsOf n (fI n q) 20 lv [] h) (l0 : ai_ld 0 lv = some (.ref v0)) (l2 : ai_ld 2 lv = some (.int v2)) (l3 : ai_ld 3 lv = some (.int v3)) (l4 : ai_ld 4 lv = some (.int v4)) (hh : fX11_pairsOf_20b n r9 r20 h v0 v2 v3 v4 = some q) : bi_go 1 tX11_pairsOf n (fI n q) 20 lv [] h := by
  unfold fX11_pairsOf_20b at hh
  refine go_il (pc := 20) rfl l4 ?_
  refine go_il (pc := 22) rfl l3 ?_
  refine bi_ite hh (fun hc hh => ?_) (fun hc hh => ?_)
  · refine go_cmpgeT (pc := 23) rfl hc ?_
    refine go_inc (pc := 56) rfl l3 ?_
    refine go_goto (pc := 59) rfl ?_
    exact R9 _ _ _ _ _ (bi_k1 l0 rfl rfl) (bi_k1 l2 rfl rfl) bi_e1 hh
  · refine go_cmpgeF (pc := 23) rfl hc ?_
    refine go_il (pc := 26) rfl l2 ?_
    refine go_al (pc := 27) rfl l0 ?_
    obtain ⟨x1, ex1, hh⟩ := bi_bd hh
    refine go_gfR (pc := 28) rfl ex1 ?_
    refine go_il (pc := 31) rfl l3 ?_
    obtain ⟨x2, ex2, hh⟩ := bi_bd hh
    refine go_iald (pc := 32) rfl ex2 ?_
    refine go_al (pc := 33) rfl l0 ?_
    obtain ⟨x3, ex3, hh⟩ := bi_bd hh
    refine go_gfR (pc := 34) rfl ex3 ?_
    refine go_il (pc := 37) rfl l4 ?_
    obtain ⟨x4, ex4, hh⟩ := bi_bd hh
    refine go_iald (pc := 39) rfl ex4 ?_
    refine bi_ite hh (fun hc hh => ?_) (fun hc hh => ?_)
    · refine go_cmpneT (pc := 40) rfl hc ?_
      refine go_pi (pc := 47) rfl ?_
      exact sX11_pairsOf_48 R9 R20 l0 l3 l4 hh
    · refine go_cmpneF (pc := 40) rfl hc ?_
      refine go_pi (pc := 43) rfl ?_
      refine go_goto (pc := 44) rfl ?_
      exact sX11_pairsOf_48 R9 R20 l0 l3 l4 hh
def fX11_pairsOf_20 (n : Nat) (r9 : ai_H → Nat → Int32 → Int32 → Option (Int32 × ai_H)) : Nat → ai_H → Nat → Int32 → Int32 → Int32 → Option (Int32 × ai_H)
  | 0 => fun _ _ _ _ _ => none
  | k + 1 => fun h v0 v2 v3 v4 => fX11_pairsOf_20b n r9 (fX11_pairsOf_20 n r9 k) h v0 v2 v3 v4
theorem sX11_pairsOf_20 {n : Nat} {r9 : ai_H → Nat → Int32 → Int32 → Option (Int32 × ai_H)} {q : Int32 × ai_H} (R9 : ∀ (h : ai_H) (v0 : Nat) (v2 : Int32) (v3 : Int32) (lv : ai_L), ai_ld 0 lv = some (.ref v0) → ai_ld 2 lv = some (.int v2) → ai_ld 3 lv = some (.int v3) → r9 h v0 v2 v3 = some q → bi_go 1 tX11_pairsOf n (fI n q) 9 lv [] h) : ∀ (k : Nat) (h : ai_H) (v0 : Nat) (v2 : Int32) (v3 : Int32) (v4 : Int32) (lv : ai_L), ai_ld 0 lv = some (.ref v0) → ai_ld 2 lv = some (.int v2) → ai_ld 3 lv = some (.int v3) → ai_ld 4 lv = some (.int v4) → fX11_pairsOf_20 n r9 k h v0 v2 v3 v4 = some q → bi_go 1 tX11_pairsOf n (fI n q) 20 lv [] h
  | 0 => fun _ _ _ _ _ _ _ _ _ _ hh => by cases hh
  | k + 1 => fun h v0 v2 v3 v4 lv l0 l2 l3 l4 hh => sX11_pairsOf_20b R9 (sX11_pairsOf_20 R9 k) l0 l2 l3 l4 hh
def fX11_pairsOf_9b (n : Nat) (r9 : ai_H → Nat → Int32 → Int32 → Option (Int32 × ai_H)) (h : ai_H) (v0 : Nat) (v2 : Int32) (v3 : Int32) : Option (Int32 × ai_H) :=
  (pI n h v0 11 12).bind fun x1 =>
  if x1 ≤ v3 then (
    some (v2, h))
  else (
    fX11_pairsOf_20 n r9 bi_K h v0 v2 v3 (0 : Int32))
theorem sX11_pairsOf_9b {n : Nat} {r9 : ai_H → Nat → Int32 → Int32 → Option (Int32 × ai_H)} {q : Int32 × ai_H} {h : ai_H} {v0 : Nat} {v2 : Int32} {v3 : Int32} {lv : ai_L} (R9 : ∀ (h : ai_H) (v0 : Nat) (v2 : Int32) (v3 : Int32) (lv : ai_L), ai_ld 0 lv = some (.ref v0) → ai_ld 2 lv = some (.int v2) → ai_ld 3 lv = some (.int v3) → r9 h v0 v2 v3 = some q → bi_go 1 tX11_pairsOf n (fI n q) 9 lv [] h) (l0 : ai_ld 0 lv = some (.ref v0)) (l2 : ai_ld 2 lv = some (.int v2)) (l3 : ai_ld 3 lv = some (.int v3)) (hh : fX11_pairsOf_9b n r9 h v0 v2 v3 = some q) : bi_go 1 tX11_pairsOf n (fI n q) 9 lv [] h := by
  unfold fX11_pairsOf_9b at hh
  refine go_il (pc := 9) rfl l3 ?_
  refine go_al (pc := 10) rfl l0 ?_
  obtain ⟨x1, ex1, hh⟩ := bi_bd hh
  refine go_gfI (pc := 11) rfl ex1 ?_
  refine bi_ite hh (fun hc hh => ?_) (fun hc hh => ?_)
  · refine go_cmpgeT (pc := 14) rfl hc ?_
    refine go_il (pc := 62) rfl l2 ?_
    exact go_ri (pc := 63) rfl hh
  · refine go_cmpgeF (pc := 14) rfl hc ?_
    refine go_pi (pc := 17) rfl ?_
    refine go_is (pc := 18) rfl ?_
    exact sX11_pairsOf_20 R9 _ _ _ _ _ _ _ (bi_k1 l0 rfl rfl) (bi_k1 l2 rfl rfl) (bi_k1 l3 rfl rfl) bi_e1 hh
def fX11_pairsOf_9 (n : Nat) : Nat → ai_H → Nat → Int32 → Int32 → Option (Int32 × ai_H)
  | 0 => fun _ _ _ _ => none
  | k + 1 => fun h v0 v2 v3 => fX11_pairsOf_9b n (fX11_pairsOf_9 n k) h v0 v2 v3
theorem sX11_pairsOf_9 {n : Nat} {q : Int32 × ai_H} : ∀ (k : Nat) (h : ai_H) (v0 : Nat) (v2 : Int32) (v3 : Int32) (lv : ai_L), ai_ld 0 lv = some (.ref v0) → ai_ld 2 lv = some (.int v2) → ai_ld 3 lv = some (.int v3) → fX11_pairsOf_9 n k h v0 v2 v3 = some q → bi_go 1 tX11_pairsOf n (fI n q) 9 lv [] h
  | 0 => fun _ _ _ _ _ _ _ _ hh => by cases hh
  | k + 1 => fun h v0 v2 v3 lv l0 l2 l3 hh => sX11_pairsOf_9b  (sX11_pairsOf_9  k) l0 l2 l3 hh
def fX11_pairsOf (n : Nat) (h : ai_H) (a0 : Nat) (a1 : Int32) : Option (Int32 × ai_H) :=
  (kO n h a0 11).bind fun _ =>
  (fX11_layRoots n h a0 a1).bind fun q1 =>
  fX11_pairsOf_9 n bi_K q1.2 a0 (0 : Int32) (0 : Int32)
theorem gX11_pairsOf {n : Nat} {h : ai_H} {a0 : Nat} {a1 : Int32} {q : Int32 × ai_H} (hh : fX11_pairsOf n h a0 a1 = some q) : kO n h a0 11 = some () := by
  obtain ⟨_, e, -⟩ := bi_bd hh
  exact e
theorem sX11_pairsOf {n : Nat} {h : ai_H} {a0 : Nat} {a1 : Int32} {q : Int32 × ai_H} (hh : fX11_pairsOf n h a0 a1 = some q) : bi_sp 2 225 [.ref a0, .int a1] h n (fI n q) := by
  refine bi_en (D := 1) (T := tX11_pairsOf) (funext fun pc => rfl) rfl (Nat.le_of_ble_eq_true rfl) ?_
  unfold fX11_pairsOf at hh
  obtain ⟨_, eO, hh⟩ := bi_bd hh
  refine go_al (pc := 0) rfl (rfl : ai_ld 0 (lv_args 0 [.ref a0, .int a1]) = some (.ref a0)) ?_
  refine go_il (pc := 1) rfl (rfl : ai_ld 1 (lv_args 0 [.ref a0, .int a1]) = some (.int a1)) ?_
  obtain ⟨q1, eq1, hh⟩ := bi_bd hh
  refine go_ivV (pc := 2) rfl rfl (gX11_layRoots eq1) (Nat.le_of_ble_eq_true rfl) (bi_up (sX11_layRoots eq1) (Nat.le_of_ble_eq_true rfl)) ?_
  refine go_pi (pc := 5) rfl ?_
  refine go_is (pc := 6) rfl ?_
  refine go_pi (pc := 7) rfl ?_
  refine go_is (pc := 8) rfl ?_
  exact sX11_pairsOf_9  _ _ _ _ _ _ (bi_k1 (bi_k1 (rfl : ai_ld 0 (lv_args 0 [.ref a0, .int a1]) = some (.ref a0)) rfl rfl) rfl rfl) (bi_k1 bi_e1 rfl rfl) bi_e1 hh
def fX11_needed (n : Nat) (h : ai_H) (a0 : Nat) (a1 : Int32) : Option (Int32 × ai_H) :=
  (kO n h a0 11).bind fun _ =>
  (sF n h a0 11 2 (.int) (.int (0 : Int32))).bind fun h1 =>
  (fX11_isPath n h1 a0 a1).bind fun q2 =>
  if q2.1 = 0 then (
    some ((-1 : Int32), q2.2))
  else (
    (pR n q2.2 a0 11 63).bind fun x3 =>
    (gB n q2.2 x3 a1).bind fun x4 =>
    if ¬ x4 = 0 then (
      (fX11_pairsOf n q2.2 a0 (-1 : Int32)).bind fun q5 =>
      (fX11_pairsOf n q5.2 a0 a1).bind fun q6 =>
      some (q5.1 - q6.1, q6.2))
    else (
      some ((-1 : Int32), q2.2)))
theorem gX11_needed {n : Nat} {h : ai_H} {a0 : Nat} {a1 : Int32} {q : Int32 × ai_H} (hh : fX11_needed n h a0 a1 = some q) : kO n h a0 11 = some () := by
  obtain ⟨_, e, -⟩ := bi_bd hh
  exact e
theorem sX11_needed {n : Nat} {h : ai_H} {a0 : Nat} {a1 : Int32} {q : Int32 × ai_H} (hh : fX11_needed n h a0 a1 = some q) : bi_sp 3 226 [.ref a0, .int a1] h n (fI n q) := by
  refine bi_en (D := 2) (T := tX11_needed) (funext fun pc => rfl) rfl (Nat.le_of_ble_eq_true rfl) ?_
  unfold fX11_needed at hh
  obtain ⟨_, eO, hh⟩ := bi_bd hh
  refine go_al (pc := 0) rfl (rfl : ai_ld 0 (lv_args 0 [.ref a0, .int a1]) = some (.ref a0)) ?_
  refine go_pi (pc := 1) rfl ?_
  obtain ⟨h1, eh1, hh⟩ := bi_bd hh
  refine go_pf (pc := 2) rfl eh1 ?_
  refine go_al (pc := 5) rfl (rfl : ai_ld 0 (lv_args 0 [.ref a0, .int a1]) = some (.ref a0)) ?_
  refine go_il (pc := 6) rfl (rfl : ai_ld 1 (lv_args 0 [.ref a0, .int a1]) = some (.int a1)) ?_
  obtain ⟨q2, eq2, hh⟩ := bi_bd hh
  refine go_ivI (pc := 7) rfl rfl (gX11_isPath eq2) (Nat.le_of_ble_eq_true rfl) (bi_up (sX11_isPath eq2) (Nat.le_of_ble_eq_true rfl)) ?_
  refine bi_ite hh (fun hc hh => ?_) (fun hc hh => ?_)
  · refine go_ifeqT (pc := 10) rfl hc ?_
    refine go_pi (pc := 22) rfl ?_
    exact go_ri (pc := 23) rfl hh
  · refine go_ifeqF (pc := 10) rfl hc ?_
    refine go_al (pc := 13) rfl (rfl : ai_ld 0 (lv_args 0 [.ref a0, .int a1]) = some (.ref a0)) ?_
    obtain ⟨x3, ex3, hh⟩ := bi_bd hh
    refine go_gfR (pc := 14) rfl ex3 ?_
    refine go_il (pc := 17) rfl (rfl : ai_ld 1 (lv_args 0 [.ref a0, .int a1]) = some (.int a1)) ?_
    obtain ⟨x4, ex4, hh⟩ := bi_bd hh
    refine go_bald (pc := 18) rfl ex4 ?_
    refine bi_ite hh (fun hc hh => ?_) (fun hc hh => ?_)
    · refine go_ifneT (pc := 19) rfl hc ?_
      refine go_al (pc := 24) rfl (rfl : ai_ld 0 (lv_args 0 [.ref a0, .int a1]) = some (.ref a0)) ?_
      refine go_pi (pc := 25) rfl ?_
      obtain ⟨q5, eq5, hh⟩ := bi_bd hh
      refine go_ivI (pc := 26) rfl rfl (gX11_pairsOf eq5) (Nat.le_of_ble_eq_true rfl) (bi_up (sX11_pairsOf eq5) (Nat.le_of_ble_eq_true rfl)) ?_
      refine go_al (pc := 29) rfl (rfl : ai_ld 0 (lv_args 0 [.ref a0, .int a1]) = some (.ref a0)) ?_
      refine go_il (pc := 30) rfl (rfl : ai_ld 1 (lv_args 0 [.ref a0, .int a1]) = some (.int a1)) ?_
      obtain ⟨q6, eq6, hh⟩ := bi_bd hh
      refine go_ivI (pc := 31) rfl rfl (gX11_pairsOf eq6) (Nat.le_of_ble_eq_true rfl) (bi_up (sX11_pairsOf eq6) (Nat.le_of_ble_eq_true rfl)) ?_
      refine go_isub (pc := 34) rfl ?_
      exact go_ri (pc := 35) rfl hh
    · refine go_ifneF (pc := 19) rfl hc ?_
      refine go_pi (pc := 22) rfl ?_
      exact go_ri (pc := 23) rfl hh
