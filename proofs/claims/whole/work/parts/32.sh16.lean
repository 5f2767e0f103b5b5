/-! ===== methods as functions, part 16 ===== -/
def fX11_signs_250 (n : Nat) (h : ai_H) (v0 : Nat) (s0 : Int32) (s1 : Nat) : Option (Int32 × ai_H) :=
  (sF n h s1 11 56 (.boolean) (.int s0)).bind fun h1 =>
  (fX11_token n h1 v0).bind fun q2 =>
  some ((1 : Int32), q2.2)
theorem sX11_signs_250 {n : Nat} {q : Int32 × ai_H} {h : ai_H} {v0 : Nat} {s0 : Int32} {s1 : Nat} {lv : ai_L} (l0 : ai_ld 0 lv = some (.ref v0)) (hh : fX11_signs_250 n h v0 s0 s1 = some q) : bi_go 2 tX11_signs n (fI n q) 250 lv [.int s0, .ref s1] h := by
  unfold fX11_signs_250 at hh
  obtain ⟨h1, eh1, hh⟩ := bi_bd hh
  refine go_pf (pc := 250) rfl eh1 ?_
  refine go_al (pc := 253) rfl l0 ?_
  obtain ⟨q2, eq2, hh⟩ := bi_bd hh
  refine go_ivV (pc := 254) rfl rfl (gX11_token eq2) (Nat.le_of_ble_eq_true rfl) (bi_up (sX11_token eq2) (Nat.le_of_ble_eq_true rfl)) ?_
  refine go_pi (pc := 257) rfl ?_
  exact go_rz (pc := 258) rfl bi_z1 hh
def fX11_signs_217 (n : Nat) (h : ai_H) (v0 : Nat) (v1 : Int32) : Option (Int32 × ai_H) :=
  (fX11_isCounted n h v0).bind fun q1 =>
  if ¬ q1.1 = 0 then (
    (fX11_waitsFor n q1.2 v0 v1).bind fun q2 =>
    (sF n q2.2 v0 11 55 (.boolean) (.int (1 : Int32))).bind fun h3 =>
    (fX11_rank n h3 v1).bind fun q4 =>
    if (3 : Int32) ≤ q4.1 then (
      fX11_signs_250 n q4.2 v0 (0 : Int32) v0)
    else (
      fX11_signs_250 n q4.2 v0 (1 : Int32) v0))
  else (
    some ((0 : Int32), q1.2))
theorem sX11_signs_217 {n : Nat} {q : Int32 × ai_H} {h : ai_H} {v0 : Nat} {v1 : Int32} {lv : ai_L} (l0 : ai_ld 0 lv = some (.ref v0)) (l1 : ai_ld 1 lv = some (.int v1)) (hh : fX11_signs_217 n h v0 v1 = some q) : bi_go 2 tX11_signs n (fI n q) 217 lv [] h := by
  unfold fX11_signs_217 at hh
  refine go_al (pc := 217) rfl l0 ?_
  obtain ⟨q1, eq1, hh⟩ := bi_bd hh
  refine go_ivI (pc := 218) rfl rfl (gX11_isCounted eq1) (Nat.le_of_ble_eq_true rfl) (bi_up (sX11_isCounted eq1) (Nat.le_of_ble_eq_true rfl)) ?_
  refine bi_ite hh (fun hc hh => ?_) (fun hc hh => ?_)
  · refine go_ifneT (pc := 221) rfl hc ?_
    refine go_al (pc := 226) rfl l0 ?_
    refine go_il (pc := 227) rfl l1 ?_
    obtain ⟨q2, eq2, hh⟩ := bi_bd hh
    refine go_ivV (pc := 228) rfl rfl (gX11_waitsFor eq2) (Nat.le_of_ble_eq_true rfl) (bi_up (sX11_waitsFor eq2) (Nat.le_of_ble_eq_true rfl)) ?_
    refine go_al (pc := 231) rfl l0 ?_
    refine go_pi (pc := 232) rfl ?_
    obtain ⟨h3, eh3, hh⟩ := bi_bd hh
    refine go_pf (pc := 233) rfl eh3 ?_
    refine go_al (pc := 236) rfl l0 ?_
    refine go_il (pc := 237) rfl l1 ?_
    obtain ⟨q4, eq4, hh⟩ := bi_bd hh
    refine go_iSI (pc := 238) rfl (Nat.le_of_ble_eq_true rfl) rfl (Nat.le_of_ble_eq_true rfl) (bi_up (sX11_rank eq4) (Nat.le_of_ble_eq_true rfl)) ?_
    refine go_pi (pc := 241) rfl ?_
    refine bi_ite hh (fun hc hh => ?_) (fun hc hh => ?_)
    · refine go_cmpgeT (pc := 242) rfl hc ?_
      refine go_pi (pc := 249) rfl ?_
      exact sX11_signs_250  l0 hh
    · refine go_cmpgeF (pc := 242) rfl hc ?_
      refine go_pi (pc := 245) rfl ?_
      refine go_goto (pc := 246) rfl ?_
      exact sX11_signs_250  l0 hh
  · refine go_ifneF (pc := 221) rfl hc ?_
    refine go_pi (pc := 224) rfl ?_
    exact go_rz (pc := 225) rfl bi_z0 hh
def fX11_signs_175 (n : Nat) (h : ai_H) (v0 : Nat) (v1 : Int32) (s0 : Int32) (s1 : Nat) : Option (Int32 × ai_H) :=
  (fX11_bind n h s1 s0).bind fun q1 =>
  (fX11_rank n q1.2 v1).bind fun q2 =>
  if ¬ q2.1 = (4 : Int32) then (
    fX11_signs_217 n q2.2 v0 v1)
  else (
    (pI n q2.2 v0 11 51).bind fun x3 =>
    if x3 ≤ 0 then (
      fX11_signs_217 n q2.2 v0 v1)
    else (
      (pR n q2.2 v0 11 49).bind fun x4 =>
      (pI n q2.2 v0 11 51).bind fun x5 =>
      (gX 1 n q2.2 x4 (x5 - (1 : Int32))).bind fun x6 =>
      (fX11_rank n q2.2 x6).bind fun q7 =>
      if ¬ q7.1 = (4 : Int32) then (
        fX11_signs_217 n q7.2 v0 v1)
      else (
        (fX11_wrong n q7.2 v0 (1 : Int32)).bind fun q8 =>
        (gZ q8.1).bind fun _ =>
        some (q8.1, q8.2))))
theorem sX11_signs_175 {n : Nat} {q : Int32 × ai_H} {h : ai_H} {v0 : Nat} {v1 : Int32} {s0 : Int32} {s1 : Nat} {lv : ai_L} (l0 : ai_ld 0 lv = some (.ref v0)) (l1 : ai_ld 1 lv = some (.int v1)) (hh : fX11_signs_175 n h v0 v1 s0 s1 = some q) : bi_go 2 tX11_signs n (fI n q) 175 lv [.int s0, .ref s1] h := by
  unfold fX11_signs_175 at hh
  obtain ⟨q1, eq1, hh⟩ := bi_bd hh
  refine go_ivV (pc := 175) rfl rfl (gX11_bind eq1) (Nat.le_of_ble_eq_true rfl) (bi_up (sX11_bind eq1) (Nat.le_of_ble_eq_true rfl)) ?_
  refine go_il (pc := 178) rfl l1 ?_
  obtain ⟨q2, eq2, hh⟩ := bi_bd hh
  refine go_iSI (pc := 179) rfl (Nat.le_of_ble_eq_true rfl) rfl (Nat.le_of_ble_eq_true rfl) (bi_up (sX11_rank eq2) (Nat.le_of_ble_eq_true rfl)) ?_
  refine go_pi (pc := 182) rfl ?_
  refine bi_ite hh (fun hc hh => ?_) (fun hc hh => ?_)
  · refine go_cmpneT (pc := 183) rfl hc ?_
    exact sX11_signs_217  l0 l1 hh
  · refine go_cmpneF (pc := 183) rfl hc ?_
    refine go_al (pc := 186) rfl l0 ?_
    obtain ⟨x3, ex3, hh⟩ := bi_bd hh
    refine go_gfI (pc := 187) rfl ex3 ?_
    refine bi_ite hh (fun hc hh => ?_) (fun hc hh => ?_)
    · refine go_ifleT (pc := 190) rfl hc ?_
      exact sX11_signs_217  l0 l1 hh
    · refine go_ifleF (pc := 190) rfl hc ?_
      refine go_al (pc := 193) rfl l0 ?_
      obtain ⟨x4, ex4, hh⟩ := bi_bd hh
      refine go_gfR (pc := 194) rfl ex4 ?_
      refine go_al (pc := 197) rfl l0 ?_
      obtain ⟨x5, ex5, hh⟩ := bi_bd hh
      refine go_gfI (pc := 198) rfl ex5 ?_
      refine go_pi (pc := 201) rfl ?_
      refine go_isub (pc := 202) rfl ?_
      obtain ⟨x6, ex6, hh⟩ := bi_bd hh
      refine go_iald (pc := 203) rfl ex6 ?_
      obtain ⟨q7, eq7, hh⟩ := bi_bd hh
      refine go_iSI (pc := 204) rfl (Nat.le_of_ble_eq_true rfl) rfl (Nat.le_of_ble_eq_true rfl) (bi_up (sX11_rank eq7) (Nat.le_of_ble_eq_true rfl)) ?_
      refine go_pi (pc := 207) rfl ?_
      refine bi_ite hh (fun hc hh => ?_) (fun hc hh => ?_)
      · refine go_cmpneT (pc := 208) rfl hc ?_
        exact sX11_signs_217  l0 l1 hh
      · refine go_cmpneF (pc := 208) rfl hc ?_
        refine go_al (pc := 211) rfl l0 ?_
        refine go_pi (pc := 212) rfl ?_
        obtain ⟨q8, eq8, hh⟩ := bi_bd hh
        refine go_ivI (pc := 213) rfl rfl (gX11_wrong eq8) (Nat.le_of_ble_eq_true rfl) (bi_up (sX11_wrong eq8) (Nat.le_of_ble_eq_true rfl)) ?_
        obtain ⟨_, ez, hh⟩ := bi_bd hh
        exact go_rz (pc := 216) rfl ez hh
def fX11_signs_147 (n : Nat) (h : ai_H) (v0 : Nat) (s0 : Int32) : Option (Int32 × ai_H) :=
  if ¬ s0 = 0 then (
    (fX11_rank n h s0).bind fun q1 =>
    if ¬ q1.1 = (4 : Int32) then (
      (fX11_rank n q1.2 s0).bind fun q2 =>
      fX11_signs_175 n q2.2 v0 s0 q2.1 v0)
    else (
      fX11_signs_175 n q1.2 v0 s0 (5 : Int32) v0))
  else (
    (fX11_wrong n h v0 (1 : Int32)).bind fun q3 =>
    (gZ q3.1).bind fun _ =>
    some (q3.1, q3.2))
theorem sX11_signs_147 {n : Nat} {q : Int32 × ai_H} {h : ai_H} {v0 : Nat} {s0 : Int32} {lv : ai_L} (l0 : ai_ld 0 lv = some (.ref v0)) (hh : fX11_signs_147 n h v0 s0 = some q) : bi_go 2 tX11_signs n (fI n q) 147 lv [.int s0] h := by
  unfold fX11_signs_147 at hh
  refine go_is (pc := 147) rfl ?_
  refine go_il (pc := 148) rfl bi_e1 ?_
  refine bi_ite hh (fun hc hh => ?_) (fun hc hh => ?_)
  · refine go_ifneT (pc := 149) rfl hc ?_
    refine go_al (pc := 158) rfl (bi_k1 l0 rfl rfl) ?_
    refine go_il (pc := 159) rfl bi_e1 ?_
    obtain ⟨q1, eq1, hh⟩ := bi_bd hh
    refine go_iSI (pc := 160) rfl (Nat.le_of_ble_eq_true rfl) rfl (Nat.le_of_ble_eq_true rfl) (bi_up (sX11_rank eq1) (Nat.le_of_ble_eq_true rfl)) ?_
    refine go_pi (pc := 163) rfl ?_
    refine bi_ite hh (fun hc hh => ?_) (fun hc hh => ?_)
    · refine go_cmpneT (pc := 164) rfl hc ?_
      refine go_il (pc := 171) rfl bi_e1 ?_
      obtain ⟨q2, eq2, hh⟩ := bi_bd hh
      refine go_iSI (pc := 172) rfl (Nat.le_of_ble_eq_true rfl) rfl (Nat.le_of_ble_eq_true rfl) (bi_up (sX11_rank eq2) (Nat.le_of_ble_eq_true rfl)) ?_
      exact sX11_signs_175  (bi_k1 l0 rfl rfl) bi_e1 hh
    · refine go_cmpneF (pc := 164) rfl hc ?_
      refine go_pi (pc := 167) rfl ?_
      refine go_goto (pc := 168) rfl ?_
      exact sX11_signs_175  (bi_k1 l0 rfl rfl) bi_e1 hh
  · refine go_ifneF (pc := 149) rfl hc ?_
    refine go_al (pc := 152) rfl (bi_k1 l0 rfl rfl) ?_
    refine go_pi (pc := 153) rfl ?_
    obtain ⟨q3, eq3, hh⟩ := bi_bd hh
    refine go_ivI (pc := 154) rfl rfl (gX11_wrong eq3) (Nat.le_of_ble_eq_true rfl) (bi_up (sX11_wrong eq3) (Nat.le_of_ble_eq_true rfl)) ?_
    obtain ⟨_, ez, hh⟩ := bi_bd hh
    exact go_rz (pc := 157) rfl ez hh
def fX11_signs_47 (n : Nat) (h : ai_H) (v0 : Nat) : Option (Int32 × ai_H) :=
  (fX11_isKey n h v0 (12 : Int32)).bind fun q1 =>
  if q1.1 = 0 then (
    (fX11_isKey n q1.2 v0 (13 : Int32)).bind fun q2 =>
    if q2.1 = 0 then (
      (pI n q2.2 v0 11 8).bind fun x3 =>
      if ¬ x3 = (5 : Int32) then (
        (fX11_isSign n q2.2 v0 (43 : Int32)).bind fun q4 =>
        if q4.1 = 0 then (
          (fX11_isSign n q4.2 v0 (45 : Int32)).bind fun q5 =>
          if q5.1 = 0 then (
            (fX11_isSign n q5.2 v0 (42 : Int32)).bind fun q6 =>
            if q6.1 = 0 then (
              (fX11_isSign n q6.2 v0 (47 : Int32)).bind fun q7 =>
              if q7.1 = 0 then (
                fX11_signs_147 n q7.2 v0 (0 : Int32))
              else (
                fX11_signs_147 n q7.2 v0 (14 : Int32)))
            else (
              fX11_signs_147 n q6.2 v0 (13 : Int32)))
          else (
            fX11_signs_147 n q5.2 v0 (12 : Int32)))
        else (
          fX11_signs_147 n q4.2 v0 (11 : Int32)))
      else (
        (pI n q2.2 v0 11 9).bind fun x8 =>
        fX11_signs_147 n q2.2 v0 ((5 : Int32) + x8)))
    else (
      fX11_signs_147 n q2.2 v0 (4 : Int32)))
  else (
    fX11_signs_147 n q1.2 v0 (3 : Int32))
theorem sX11_signs_47 {n : Nat} {q : Int32 × ai_H} {h : ai_H} {v0 : Nat} {lv : ai_L} (l0 : ai_ld 0 lv = some (.ref v0)) (hh : fX11_signs_47 n h v0 = some q) : bi_go 2 tX11_signs n (fI n q) 47 lv [] h := by
  unfold fX11_signs_47 at hh
  refine go_al (pc := 47) rfl l0 ?_
  refine go_pi (pc := 48) rfl ?_
  obtain ⟨q1, eq1, hh⟩ := bi_bd hh
  refine go_ivI (pc := 50) rfl rfl (gX11_isKey eq1) (Nat.le_of_ble_eq_true rfl) (bi_up (sX11_isKey eq1) (Nat.le_of_ble_eq_true rfl)) ?_
  refine bi_ite hh (fun hc hh => ?_) (fun hc hh => ?_)
  · refine go_ifeqT (pc := 53) rfl hc ?_
    refine go_al (pc := 60) rfl l0 ?_
    refine go_pi (pc := 61) rfl ?_
    obtain ⟨q2, eq2, hh⟩ := bi_bd hh
    refine go_ivI (pc := 63) rfl rfl (gX11_isKey eq2) (Nat.le_of_ble_eq_true rfl) (bi_up (sX11_isKey eq2) (Nat.le_of_ble_eq_true rfl)) ?_
    refine bi_ite hh (fun hc hh => ?_) (fun hc hh => ?_)
    · refine go_ifeqT (pc := 66) rfl hc ?_
      refine go_al (pc := 73) rfl l0 ?_
      obtain ⟨x3, ex3, hh⟩ := bi_bd hh
      refine go_gfI (pc := 74) rfl ex3 ?_
      refine go_pi (pc := 77) rfl ?_
      refine bi_ite hh (fun hc hh => ?_) (fun hc hh => ?_)
      · refine go_cmpneT (pc := 78) rfl hc ?_
        refine go_al (pc := 90) rfl l0 ?_
        refine go_pi (pc := 91) rfl ?_
        obtain ⟨q4, eq4, hh⟩ := bi_bd hh
        refine go_ivI (pc := 93) rfl rfl (gX11_isSign eq4) (Nat.le_of_ble_eq_true rfl) (bi_up (sX11_isSign eq4) (Nat.le_of_ble_eq_true rfl)) ?_
        refine bi_ite hh (fun hc hh => ?_) (fun hc hh => ?_)
        · refine go_ifeqT (pc := 96) rfl hc ?_
          refine go_al (pc := 104) rfl l0 ?_
          refine go_pi (pc := 105) rfl ?_
          obtain ⟨q5, eq5, hh⟩ := bi_bd hh
          refine go_ivI (pc := 107) rfl rfl (gX11_isSign eq5) (Nat.le_of_ble_eq_true rfl) (bi_up (sX11_isSign eq5) (Nat.le_of_ble_eq_true rfl)) ?_
          refine bi_ite hh (fun hc hh => ?_) (fun hc hh => ?_)
          · refine go_ifeqT (pc := 110) rfl hc ?_
            refine go_al (pc := 118) rfl l0 ?_
            refine go_pi (pc := 119) rfl ?_
            obtain ⟨q6, eq6, hh⟩ := bi_bd hh
            refine go_ivI (pc := 121) rfl rfl (gX11_isSign eq6) (Nat.le_of_ble_eq_true rfl) (bi_up (sX11_isSign eq6) (Nat.le_of_ble_eq_true rfl)) ?_
            refine bi_ite hh (fun hc hh => ?_) (fun hc hh => ?_)
            · refine go_ifeqT (pc := 124) rfl hc ?_
              refine go_al (pc := 132) rfl l0 ?_
              refine go_pi (pc := 133) rfl ?_
              obtain ⟨q7, eq7, hh⟩ := bi_bd hh
              refine go_ivI (pc := 135) rfl rfl (gX11_isSign eq7) (Nat.le_of_ble_eq_true rfl) (bi_up (sX11_isSign eq7) (Nat.le_of_ble_eq_true rfl)) ?_
              refine bi_ite hh (fun hc hh => ?_) (fun hc hh => ?_)
              · refine go_ifeqT (pc := 138) rfl hc ?_
                refine go_pi (pc := 146) rfl ?_
                exact sX11_signs_147  l0 hh
              · refine go_ifeqF (pc := 138) rfl hc ?_
                refine go_pi (pc := 141) rfl ?_
                refine go_goto (pc := 143) rfl ?_
                exact sX11_signs_147  l0 hh
            · refine go_ifeqF (pc := 124) rfl hc ?_
              refine go_pi (pc := 127) rfl ?_
              refine go_goto (pc := 129) rfl ?_
              exact sX11_signs_147  l0 hh
          · refine go_ifeqF (pc := 110) rfl hc ?_
            refine go_pi (pc := 113) rfl ?_
            refine go_goto (pc := 115) rfl ?_
            exact sX11_signs_147  l0 hh
        · refine go_ifeqF (pc := 96) rfl hc ?_
          refine go_pi (pc := 99) rfl ?_
          refine go_goto (pc := 101) rfl ?_
          exact sX11_signs_147  l0 hh
      · refine go_cmpneF (pc := 78) rfl hc ?_
        refine go_pi (pc := 81) rfl ?_
        refine go_al (pc := 82) rfl l0 ?_
        obtain ⟨x8, ex8, hh⟩ := bi_bd hh
        refine go_gfI (pc := 83) rfl ex8 ?_
        refine go_iadd (pc := 86) rfl ?_
        refine go_goto (pc := 87) rfl ?_
        exact sX11_signs_147  l0 hh
    · refine go_ifeqF (pc := 66) rfl hc ?_
      refine go_pi (pc := 69) rfl ?_
      refine go_goto (pc := 70) rfl ?_
      exact sX11_signs_147  l0 hh
  · refine go_ifeqF (pc := 53) rfl hc ?_
    refine go_pi (pc := 56) rfl ?_
    refine go_goto (pc := 57) rfl ?_
    exact sX11_signs_147  l0 hh
def fX11_signs (n : Nat) (h : ai_H) (a0 : Nat) : Option (Int32 × ai_H) :=
  (kO n h a0 11).bind fun _ =>
  (fX11_isSign n h a0 (41 : Int32)).bind fun q1 =>
  if q1.1 = 0 then (
    fX11_signs_47 n q1.2 a0)
  else (
    (pI n q1.2 a0 11 53).bind fun x2 =>
    if x2 ≤ 0 then (
      fX11_signs_47 n q1.2 a0)
    else (
      (fX11_bind n q1.2 a0 (1 : Int32)).bind fun q3 =>
      (pI n q3.2 a0 11 51).bind fun x4 =>
      (sF n q3.2 a0 11 51 (.int) (.int (x4 - (1 : Int32)))).bind fun h5 =>
      (pI n h5 a0 11 53).bind fun x6 =>
      (sF n h5 a0 11 53 (.int) (.int (x6 - (1 : Int32)))).bind fun h7 =>
      (fX11_token n h7 a0).bind fun q8 =>
      some ((1 : Int32), q8.2)))
theorem gX11_signs {n : Nat} {h : ai_H} {a0 : Nat} {q : Int32 × ai_H} (hh : fX11_signs n h a0 = some q) : kO n h a0 11 = some () := by
  obtain ⟨_, e, -⟩ := bi_bd hh
  exact e
theorem sX11_signs {n : Nat} {h : ai_H} {a0 : Nat} {q : Int32 × ai_H} (hh : fX11_signs n h a0 = some q) : bi_sp 3 179 [.ref a0] h n (fI n q) := by
  refine bi_en (D := 2) (T := tX11_signs) (funext fun pc => rfl) rfl (Nat.le_of_ble_eq_true rfl) ?_
  unfold fX11_signs at hh
  obtain ⟨_, eO, hh⟩ := bi_bd hh
  refine go_al (pc := 0) rfl (rfl : ai_ld 0 (lv_args 0 [.ref a0]) = some (.ref a0)) ?_
  refine go_pi (pc := 1) rfl ?_
  obtain ⟨q1, eq1, hh⟩ := bi_bd hh
  refine go_ivI (pc := 3) rfl rfl (gX11_isSign eq1) (Nat.le_of_ble_eq_true rfl) (bi_up (sX11_isSign eq1) (Nat.le_of_ble_eq_true rfl)) ?_
  refine bi_ite hh (fun hc hh => ?_) (fun hc hh => ?_)
  · refine go_ifeqT (pc := 6) rfl hc ?_
    exact sX11_signs_47  (rfl : ai_ld 0 (lv_args 0 [.ref a0]) = some (.ref a0)) hh
  · refine go_ifeqF (pc := 6) rfl hc ?_
    refine go_al (pc := 9) rfl (rfl : ai_ld 0 (lv_args 0 [.ref a0]) = some (.ref a0)) ?_
    obtain ⟨x2, ex2, hh⟩ := bi_bd hh
    refine go_gfI (pc := 10) rfl ex2 ?_
    refine bi_ite hh (fun hc hh => ?_) (fun hc hh => ?_)
    · refine go_ifleT (pc := 13) rfl hc ?_
      exact sX11_signs_47  (rfl : ai_ld 0 (lv_args 0 [.ref a0]) = some (.ref a0)) hh
    · refine go_ifleF (pc := 13) rfl hc ?_
      refine go_al (pc := 16) rfl (rfl : ai_ld 0 (lv_args 0 [.ref a0]) = some (.ref a0)) ?_
      refine go_pi (pc := 17) rfl ?_
      obtain ⟨q3, eq3, hh⟩ := bi_bd hh
      refine go_ivV (pc := 18) rfl rfl (gX11_bind eq3) (Nat.le_of_ble_eq_true rfl) (bi_up (sX11_bind eq3) (Nat.le_of_ble_eq_true rfl)) ?_
      refine go_al (pc := 21) rfl (rfl : ai_ld 0 (lv_args 0 [.ref a0]) = some (.ref a0)) ?_
      refine go_dup (pc := 22) rfl rfl ?_
      obtain ⟨x4, ex4, hh⟩ := bi_bd hh
      refine go_gfI (pc := 23) rfl ex4 ?_
      refine go_pi (pc := 26) rfl ?_
      refine go_isub (pc := 27) rfl ?_
      obtain ⟨h5, eh5, hh⟩ := bi_bd hh
      refine go_pf (pc := 28) rfl eh5 ?_
      refine go_al (pc := 31) rfl (rfl : ai_ld 0 (lv_args 0 [.ref a0]) = some (.ref a0)) ?_
      refine go_dup (pc := 32) rfl rfl ?_
      obtain ⟨x6, ex6, hh⟩ := bi_bd hh
      refine go_gfI (pc := 33) rfl ex6 ?_
      refine go_pi (pc := 36) rfl ?_
      refine go_isub (pc := 37) rfl ?_
      obtain ⟨h7, eh7, hh⟩ := bi_bd hh
      refine go_pf (pc := 38) rfl eh7 ?_
      refine go_al (pc := 41) rfl (rfl : ai_ld 0 (lv_args 0 [.ref a0]) = some (.ref a0)) ?_
      obtain ⟨q8, eq8, hh⟩ := bi_bd hh
      refine go_ivV (pc := 42) rfl rfl (gX11_token eq8) (Nat.le_of_ble_eq_true rfl) (bi_up (sX11_token eq8) (Nat.le_of_ble_eq_true rfl)) ?_
      refine go_pi (pc := 45) rfl ?_
      exact go_rz (pc := 46) rfl bi_z1 hh
def fX11_sumRead_48 (n : Nat) (r25 : ai_H → Nat → Option (Int32 × ai_H)) (h : ai_H) (v0 : Nat) : Option (Int32 × ai_H) :=
  (pI n h v0 11 55).bind fun x1 =>
  if x1 = 0 then (
    (fX11_signs n h v0).bind fun q2 =>
    if ¬ q2.1 = 0 then (
      r25 q2.2 v0)
    else (
      some ((0 : Int32), q2.2)))
  else (
    (fX11_leafRead n h v0).bind fun q3 =>
    if q3.1 = 0 then (
      some ((0 : Int32), q3.2))
    else (
      r25 q3.2 v0))
theorem sX11_sumRead_48 {n : Nat} {r25 : ai_H → Nat → Option (Int32 × ai_H)} {q : Int32 × ai_H} {h : ai_H} {v0 : Nat} {lv : ai_L} (R25 : ∀ (h : ai_H) (v0 : Nat) (lv : ai_L), ai_ld 0 lv = some (.ref v0) → r25 h v0 = some q → bi_go 3 tX11_sumRead n (fI n q) 25 lv [] h) (l0 : ai_ld 0 lv = some (.ref v0)) (hh : fX11_sumRead_48 n r25 h v0 = some q) : bi_go 3 tX11_sumRead n (fI n q) 48 lv [] h := by
  unfold fX11_sumRead_48 at hh
  refine go_al (pc := 48) rfl l0 ?_
  obtain ⟨x1, ex1, hh⟩ := bi_bd hh
  refine go_gfI (pc := 49) rfl ex1 ?_
  refine bi_ite hh (fun hc hh => ?_) (fun hc hh => ?_)
  · refine go_ifeqT (pc := 52) rfl hc ?_
    refine go_al (pc := 65) rfl l0 ?_
    obtain ⟨q2, eq2, hh⟩ := bi_bd hh
    refine go_ivI (pc := 66) rfl rfl (gX11_signs eq2) (Nat.le_of_ble_eq_true rfl) (bi_up (sX11_signs eq2) (Nat.le_of_ble_eq_true rfl)) ?_
    refine bi_ite hh (fun hc hh => ?_) (fun hc hh => ?_)
    · refine go_ifneT (pc := 69) rfl hc ?_
      exact R25 _ _ _ l0 hh
    · refine go_ifneF (pc := 69) rfl hc ?_
      refine go_pi (pc := 72) rfl ?_
      exact go_rz (pc := 73) rfl bi_z0 hh
  · refine go_ifeqF (pc := 52) rfl hc ?_
    refine go_al (pc := 55) rfl l0 ?_
    obtain ⟨q3, eq3, hh⟩ := bi_bd hh
    refine go_ivI (pc := 56) rfl rfl (gX11_leafRead eq3) (Nat.le_of_ble_eq_true rfl) (bi_up (sX11_leafRead eq3) (Nat.le_of_ble_eq_true rfl)) ?_
    refine bi_ite hh (fun hc hh => ?_) (fun hc hh => ?_)
    · refine go_ifeqT (pc := 59) rfl hc ?_
      refine go_pi (pc := 72) rfl ?_
      exact go_rz (pc := 73) rfl bi_z0 hh
    · refine go_ifeqF (pc := 59) rfl hc ?_
      refine go_goto (pc := 62) rfl ?_
      exact R25 _ _ _ l0 hh
def fX11_sumRead_25b (n : Nat) (r25 : ai_H → Nat → Option (Int32 × ai_H)) (h : ai_H) (v0 : Nat) : Option (Int32 × ai_H) :=
  (fX11_isSign n h v0 (59 : Int32)).bind fun q1 =>
  if q1.1 = 0 then (
    fX11_sumRead_48 n r25 q1.2 v0)
  else (
    (pI n q1.2 v0 11 55).bind fun x2 =>
    if ¬ x2 = 0 then (
      fX11_sumRead_48 n r25 q1.2 v0)
    else (
      (pI n q1.2 v0 11 53).bind fun x3 =>
      if x3 ≤ 0 then (
        (fX11_bind n q1.2 v0 (1 : Int32)).bind fun q4 =>
        some ((1 : Int32), q4.2))
      else (
        fX11_sumRead_48 n r25 q1.2 v0)))
theorem sX11_sumRead_25b {n : Nat} {r25 : ai_H → Nat → Option (Int32 × ai_H)} {q : Int32 × ai_H} {h : ai_H} {v0 : Nat} {lv : ai_L} (R25 : ∀ (h : ai_H) (v0 : Nat) (lv : ai_L), ai_ld 0 lv = some (.ref v0) → r25 h v0 = some q → bi_go 3 tX11_sumRead n (fI n q) 25 lv [] h) (l0 : ai_ld 0 lv = some (.ref v0)) (hh : fX11_sumRead_25b n r25 h v0 = some q) : bi_go 3 tX11_sumRead n (fI n q) 25 lv [] h := by
  unfold fX11_sumRead_25b at hh
  refine go_al (pc := 25) rfl l0 ?_
  refine go_pi (pc := 26) rfl ?_
  obtain ⟨q1, eq1, hh⟩ := bi_bd hh
  refine go_ivI (pc := 28) rfl rfl (gX11_isSign eq1) (Nat.le_of_ble_eq_true rfl) (bi_up (sX11_isSign eq1) (Nat.le_of_ble_eq_true rfl)) ?_
  refine bi_ite hh (fun hc hh => ?_) (fun hc hh => ?_)
  · refine go_ifeqT (pc := 31) rfl hc ?_
    exact sX11_sumRead_48 R25 l0 hh
  · refine go_ifeqF (pc := 31) rfl hc ?_
    refine go_al (pc := 34) rfl l0 ?_
    obtain ⟨x2, ex2, hh⟩ := bi_bd hh
    refine go_gfI (pc := 35) rfl ex2 ?_
    refine bi_ite hh (fun hc hh => ?_) (fun hc hh => ?_)
    · refine go_ifneT (pc := 38) rfl hc ?_
      exact sX11_sumRead_48 R25 l0 hh
    · refine go_ifneF (pc := 38) rfl hc ?_
      refine go_al (pc := 41) rfl l0 ?_
      obtain ⟨x3, ex3, hh⟩ := bi_bd hh
      refine go_gfI (pc := 42) rfl ex3 ?_
      refine bi_ite hh (fun hc hh => ?_) (fun hc hh => ?_)
      · refine go_ifleT (pc := 45) rfl hc ?_
        refine go_al (pc := 74) rfl l0 ?_
        refine go_pi (pc := 75) rfl ?_
        obtain ⟨q4, eq4, hh⟩ := bi_bd hh
        refine go_ivV (pc := 76) rfl rfl (gX11_bind eq4) (Nat.le_of_ble_eq_true rfl) (bi_up (sX11_bind eq4) (Nat.le_of_ble_eq_true rfl)) ?_
        refine go_pi (pc := 79) rfl ?_
        exact go_rz (pc := 80) rfl bi_z1 hh
      · refine go_ifleF (pc := 45) rfl hc ?_
        exact sX11_sumRead_48 R25 l0 hh
def fX11_sumRead_25 (n : Nat) : Nat → ai_H → Nat → Option (Int32 × ai_H)
  | 0 => fun _ _ => none
  | k + 1 => fun h v0 => fX11_sumRead_25b n (fX11_sumRead_25 n k) h v0
theorem sX11_sumRead_25 {n : Nat} {q : Int32 × ai_H} : ∀ (k : Nat) (h : ai_H) (v0 : Nat) (lv : ai_L), ai_ld 0 lv = some (.ref v0) → fX11_sumRead_25 n k h v0 = some q → bi_go 3 tX11_sumRead n (fI n q) 25 lv [] h
  | 0 => fun _ _ _ _ hh => by cases hh
  | k + 1 => fun h v0 lv l0 hh => sX11_sumRead_25b  (sX11_sumRead_25  k) l0 hh
def fX11_sumRead (n : Nat) (h : ai_H) (a0 : Nat) : Option (Int32 × ai_H) :=
  (kO n h a0 11).bind fun _ =>
  (sF n h a0 11 51 (.int) (.int (0 : Int32))).bind fun h1 =>
  (sF n h1 a0 11 52 (.int) (.int (0 : Int32))).bind fun h2 =>
  (sF n h2 a0 11 53 (.int) (.int (0 : Int32))).bind fun h3 =>
  (sF n h3 a0 11 55 (.boolean) (.int (1 : Int32))).bind fun h4 =>
  (sF n h4 a0 11 56 (.boolean) (.int (1 : Int32))).bind fun h5 =>
  fX11_sumRead_25 n bi_K h5 a0
theorem gX11_sumRead {n : Nat} {h : ai_H} {a0 : Nat} {q : Int32 × ai_H} (hh : fX11_sumRead n h a0 = some q) : kO n h a0 11 = some () := by
  obtain ⟨_, e, -⟩ := bi_bd hh
  exact e
theorem sX11_sumRead {n : Nat} {h : ai_H} {a0 : Nat} {q : Int32 × ai_H} (hh : fX11_sumRead n h a0 = some q) : bi_sp 4 180 [.ref a0] h n (fI n q) := by
  refine bi_en (D := 3) (T := tX11_sumRead) (funext fun pc => rfl) rfl (Nat.le_of_ble_eq_true rfl) ?_
  unfold fX11_sumRead at hh
  obtain ⟨_, eO, hh⟩ := bi_bd hh
  refine go_al (pc := 0) rfl (rfl : ai_ld 0 (lv_args 0 [.ref a0]) = some (.ref a0)) ?_
  refine go_pi (pc := 1) rfl ?_
  obtain ⟨h1, eh1, hh⟩ := bi_bd hh
  refine go_pf (pc := 2) rfl eh1 ?_
  refine go_al (pc := 5) rfl (rfl : ai_ld 0 (lv_args 0 [.ref a0]) = some (.ref a0)) ?_
  refine go_pi (pc := 6) rfl ?_
  obtain ⟨h2, eh2, hh⟩ := bi_bd hh
  refine go_pf (pc := 7) rfl eh2 ?_
  refine go_al (pc := 10) rfl (rfl : ai_ld 0 (lv_args 0 [.ref a0]) = some (.ref a0)) ?_
  refine go_pi (pc := 11) rfl ?_
  obtain ⟨h3, eh3, hh⟩ := bi_bd hh
  refine go_pf (pc := 12) rfl eh3 ?_
  refine go_al (pc := 15) rfl (rfl : ai_ld 0 (lv_args 0 [.ref a0]) = some (.ref a0)) ?_
  refine go_pi (pc := 16) rfl ?_
  obtain ⟨h4, eh4, hh⟩ := bi_bd hh
  refine go_pf (pc := 17) rfl eh4 ?_
  refine go_al (pc := 20) rfl (rfl : ai_ld 0 (lv_args 0 [.ref a0]) = some (.ref a0)) ?_
  refine go_pi (pc := 21) rfl ?_
  obtain ⟨h5, eh5, hh⟩ := bi_bd hh
  refine go_pf (pc := 22) rfl eh5 ?_
  exact sX11_sumRead_25  _ _ _ _ (rfl : ai_ld 0 (lv_args 0 [.ref a0]) = some (.ref a0)) hh
def fX11_lineRead_17 (n : Nat) (h : ai_H) (v0 : Nat) : Option (Int32 × ai_H) :=
  (fX11_wrong n h v0 (1 : Int32)).bind fun q1 =>
  (gZ q1.1).bind fun _ =>
  some (q1.1, q1.2)
theorem sX11_lineRead_17 {n : Nat} {q : Int32 × ai_H} {h : ai_H} {v0 : Nat} {lv : ai_L} (l0 : ai_ld 0 lv = some (.ref v0)) (hh : fX11_lineRead_17 n h v0 = some q) : bi_go 4 tX11_lineRead n (fI n q) 17 lv [] h := by
  unfold fX11_lineRead_17 at hh
  refine go_al (pc := 17) rfl l0 ?_
  refine go_pi (pc := 18) rfl ?_
  obtain ⟨q1, eq1, hh⟩ := bi_bd hh
  refine go_ivI (pc := 19) rfl rfl (gX11_wrong eq1) (Nat.le_of_ble_eq_true rfl) (bi_up (sX11_wrong eq1) (Nat.le_of_ble_eq_true rfl)) ?_
  obtain ⟨_, ez, hh⟩ := bi_bd hh
  exact go_rz (pc := 22) rfl ez hh
def fX11_lineRead_179 (n : Nat) (h : ai_H) (v0 : Nat) : Option (Int32 × ai_H) :=
  (fX11_wrong n h v0 (1 : Int32)).bind fun q1 =>
  (gZ q1.1).bind fun _ =>
  some (q1.1, q1.2)
theorem sX11_lineRead_179 {n : Nat} {q : Int32 × ai_H} {h : ai_H} {v0 : Nat} {lv : ai_L} (l0 : ai_ld 0 lv = some (.ref v0)) (hh : fX11_lineRead_179 n h v0 = some q) : bi_go 4 tX11_lineRead n (fI n q) 179 lv [] h := by
  unfold fX11_lineRead_179 at hh
  refine go_al (pc := 179) rfl l0 ?_
  refine go_pi (pc := 180) rfl ?_
  obtain ⟨q1, eq1, hh⟩ := bi_bd hh
  refine go_ivI (pc := 181) rfl rfl (gX11_wrong eq1) (Nat.le_of_ble_eq_true rfl) (bi_up (sX11_wrong eq1) (Nat.le_of_ble_eq_true rfl)) ?_
  obtain ⟨_, ez, hh⟩ := bi_bd hh
  exact go_rz (pc := 184) rfl ez hh
def fX11_lineRead_246 (n : Nat) (h : ai_H) (v0 : Nat) (v1 : Int32) : Option (Int32 × ai_H) :=
  if ¬ v1 = 0 then (
    (fX11_isSign n h v0 (59 : Int32)).bind fun q1 =>
    if ¬ q1.1 = 0 then (
      (fX11_token n q1.2 v0).bind fun q2 =>
      some ((1 : Int32), q2.2))
    else (
      (fX11_wrong n q1.2 v0 (1 : Int32)).bind fun q3 =>
      (gZ q3.1).bind fun _ =>
      some (q3.1, q3.2)))
  else (
    some ((0 : Int32), h))
theorem sX11_lineRead_246 {n : Nat} {q : Int32 × ai_H} {h : ai_H} {v0 : Nat} {v1 : Int32} {lv : ai_L} (l0 : ai_ld 0 lv = some (.ref v0)) (l1 : ai_ld 1 lv = some (.int v1)) (hh : fX11_lineRead_246 n h v0 v1 = some q) : bi_go 4 tX11_lineRead n (fI n q) 246 lv [] h := by
  unfold fX11_lineRead_246 at hh
  refine go_il (pc := 246) rfl l1 ?_
  refine bi_ite hh (fun hc hh => ?_) (fun hc hh => ?_)
  · refine go_ifneT (pc := 247) rfl hc ?_
    refine go_al (pc := 252) rfl l0 ?_
    refine go_pi (pc := 253) rfl ?_
    obtain ⟨q1, eq1, hh⟩ := bi_bd hh
    refine go_ivI (pc := 255) rfl rfl (gX11_isSign eq1) (Nat.le_of_ble_eq_true rfl) (bi_up (sX11_isSign eq1) (Nat.le_of_ble_eq_true rfl)) ?_
    refine bi_ite hh (fun hc hh => ?_) (fun hc hh => ?_)
    · refine go_ifneT (pc := 258) rfl hc ?_
      refine go_al (pc := 267) rfl l0 ?_
      obtain ⟨q2, eq2, hh⟩ := bi_bd hh
      refine go_ivV (pc := 268) rfl rfl (gX11_token eq2) (Nat.le_of_ble_eq_true rfl) (bi_up (sX11_token eq2) (Nat.le_of_ble_eq_true rfl)) ?_
      refine go_pi (pc := 271) rfl ?_
      exact go_rz (pc := 272) rfl bi_z1 hh
    · refine go_ifneF (pc := 258) rfl hc ?_
      refine go_al (pc := 261) rfl l0 ?_
      refine go_pi (pc := 262) rfl ?_
      obtain ⟨q3, eq3, hh⟩ := bi_bd hh
      refine go_ivI (pc := 263) rfl rfl (gX11_wrong eq3) (Nat.le_of_ble_eq_true rfl) (bi_up (sX11_wrong eq3) (Nat.le_of_ble_eq_true rfl)) ?_
      obtain ⟨_, ez, hh⟩ := bi_bd hh
      exact go_rz (pc := 266) rfl ez hh
  · refine go_ifneF (pc := 247) rfl hc ?_
    refine go_pi (pc := 250) rfl ?_
    exact go_rz (pc := 251) rfl bi_z0 hh
def fX11_lineRead (n : Nat) (h : ai_H) (a0 : Nat) : Option (Int32 × ai_H) :=
  (kO n h a0 11).bind fun _ =>
  (pI n h a0 11 8).bind fun x1 =>
  if ¬ x1 = (1 : Int32) then (
    fX11_lineRead_17 n h a0)
  else (
    (pI n h a0 11 9).bind fun x2 =>
    if x2 ≤ (8 : Int32) then (
      (pI n h a0 11 9).bind fun x3 =>
      if x3 = 0 then (
        (fX11_placeLine n h a0).bind fun q4 =>
        fX11_lineRead_246 n q4.2 a0 q4.1)
      else (
        if x3 = 1 then (
          (fX11_pathLine n h a0).bind fun q5 =>
          fX11_lineRead_246 n q5.2 a0 q5.1)
        else (
          if x3 = 2 then (
            (fX11_walkerLine n h a0).bind fun q6 =>
            fX11_lineRead_246 n q6.2 a0 q6.1)
          else (
            if x3 = 3 then (
              (fX11_walkLine n h a0).bind fun q7 =>
              fX11_lineRead_246 n q7.2 a0 q7.1)
            else (
              if x3 = 4 then (
                (fX11_bullLine n h a0).bind fun q8 =>
                fX11_lineRead_246 n q8.2 a0 q8.1)
              else (
                if x3 = 5 then (
                  (fX11_onceLine n h a0 (0 : Int32) (1 : Int32) (400 : Int32)).bind fun q9 =>
                  fX11_lineRead_246 n q9.2 a0 q9.1)
                else (
                  if x3 = 6 then (
                    (fX11_onceLine n h a0 (1 : Int32) (0 : Int32) (100 : Int32)).bind fun q10 =>
                    fX11_lineRead_246 n q10.2 a0 q10.1)
                  else (
                    if x3 = 7 then (
                      (fX11_onceLine n h a0 (2 : Int32) (0 : Int32) (99999 : Int32)).bind fun q11 =>
                      fX11_lineRead_246 n q11.2 a0 q11.1)
                    else (
                      (fX11_token n h a0).bind fun q12 =>
                      (pI n q12.2 a0 11 8).bind fun x13 =>
                      if ¬ x13 = (1 : Int32) then (
                        fX11_lineRead_179 n q12.2 a0)
                      else (
                        (pI n q12.2 a0 11 9).bind fun x14 =>
                        if x14 < (9 : Int32) then (
                          fX11_lineRead_179 n q12.2 a0)
                        else (
                          (pI n q12.2 a0 11 9).bind fun x15 =>
                          if x15 ≤ (11 : Int32) then (
                            (pI n q12.2 a0 11 9).bind fun x16 =>
                            (pR n q12.2 a0 11 43).bind fun x17 =>
                            (gB n q12.2 x17 (((3 : Int32) + x16) - (9 : Int32))).bind fun x18 =>
                            if x18 = 0 then (
                              (pR n q12.2 a0 11 43).bind fun x19 =>
                              (wB n q12.2 x19 (((3 : Int32) + x16) - (9 : Int32)) (1 : Int32)).bind fun h20 =>
                              (fX11_token n h20 a0).bind fun q21 =>
                              (pR n q21.2 a0 11 44).bind fun x22 =>
                              (pI n q21.2 a0 11 23).bind fun x23 =>
                              (wX 1 (fun x => x) n q21.2 x22 (((3 : Int32) + x16) - (9 : Int32)) x23).bind fun h24 =>
                              (fX11_sumRead n h24 a0).bind fun q25 =>
                              (pR n q25.2 a0 11 45).bind fun x26 =>
                              (pI n q25.2 a0 11 23).bind fun x27 =>
                              (wX 1 (fun x => x) n q25.2 x26 (((3 : Int32) + x16) - (9 : Int32)) x27).bind fun h28 =>
                              fX11_lineRead_246 n h28 a0 q25.1)
                            else (
                              (fX11_wrong n q12.2 a0 (3 : Int32)).bind fun q29 =>
                              (gZ q29.1).bind fun _ =>
                              some (q29.1, q29.2)))
                          else (
                            fX11_lineRead_179 n q12.2 a0))))))))))))
    else (
      fX11_lineRead_17 n h a0))
theorem gX11_lineRead {n : Nat} {h : ai_H} {a0 : Nat} {q : Int32 × ai_H} (hh : fX11_lineRead n h a0 = some q) : kO n h a0 11 = some () := by
  obtain ⟨_, e, -⟩ := bi_bd hh
  exact e
theorem sX11_lineRead {n : Nat} {h : ai_H} {a0 : Nat} {q : Int32 × ai_H} (hh : fX11_lineRead n h a0 = some q) : bi_sp 5 167 [.ref a0] h n (fI n q) := by
  refine bi_en (D := 4) (T := tX11_lineRead) (funext fun pc => rfl) rfl (Nat.le_of_ble_eq_true rfl) ?_
  unfold fX11_lineRead at hh
  obtain ⟨_, eO, hh⟩ := bi_bd hh
  refine go_al (pc := 0) rfl (rfl : ai_ld 0 (lv_args 0 [.ref a0]) = some (.ref a0)) ?_
  obtain ⟨x1, ex1, hh⟩ := bi_bd hh
  refine go_gfI (pc := 1) rfl ex1 ?_
  refine go_pi (pc := 4) rfl ?_
  refine bi_ite hh (fun hc hh => ?_) (fun hc hh => ?_)
  · refine go_cmpneT (pc := 5) rfl hc ?_
    exact sX11_lineRead_17  (rfl : ai_ld 0 (lv_args 0 [.ref a0]) = some (.ref a0)) hh
  · refine go_cmpneF (pc := 5) rfl hc ?_
    refine go_al (pc := 8) rfl (rfl : ai_ld 0 (lv_args 0 [.ref a0]) = some (.ref a0)) ?_
    obtain ⟨x2, ex2, hh⟩ := bi_bd hh
    refine go_gfI (pc := 9) rfl ex2 ?_
    refine go_pi (pc := 12) rfl ?_
    refine bi_ite hh (fun hc hh => ?_) (fun hc hh => ?_)
    · refine go_cmpleT (pc := 14) rfl hc ?_
      refine go_al (pc := 23) rfl (rfl : ai_ld 0 (lv_args 0 [.ref a0]) = some (.ref a0)) ?_
      obtain ⟨x3, ex3, hh⟩ := bi_bd hh
      refine go_gfI (pc := 24) rfl ex3 ?_
      refine bi_ite hh (fun hc0 hh => ?_) (fun hc0 hh => ?_)
      · refine go_swc (t := 72) 0 (pc := 27) rfl hc0 (by decide) ?_
        refine go_al (pc := 72) rfl (rfl : ai_ld 0 (lv_args 0 [.ref a0]) = some (.ref a0)) ?_
        obtain ⟨q4, eq4, hh⟩ := bi_bd hh
        refine go_ivI (pc := 73) rfl rfl (gX11_placeLine eq4) (Nat.le_of_ble_eq_true rfl) (bi_up (sX11_placeLine eq4) (Nat.le_of_ble_eq_true rfl)) ?_
        refine go_is (pc := 76) rfl ?_
        refine go_goto (pc := 77) rfl ?_
        exact sX11_lineRead_246  (bi_k1 (rfl : ai_ld 0 (lv_args 0 [.ref a0]) = some (.ref a0)) rfl rfl) bi_e1 hh
      · skip
        refine bi_ite hh (fun hc1 hh => ?_) (fun hc1 hh => ?_)
        · refine go_swc (t := 80) 1 (pc := 27) rfl hc1 (by decide) ?_
          refine go_al (pc := 80) rfl (rfl : ai_ld 0 (lv_args 0 [.ref a0]) = some (.ref a0)) ?_
          obtain ⟨q5, eq5, hh⟩ := bi_bd hh
          refine go_ivI (pc := 81) rfl rfl (gX11_pathLine eq5) (Nat.le_of_ble_eq_true rfl) (bi_up (sX11_pathLine eq5) (Nat.le_of_ble_eq_true rfl)) ?_
          refine go_is (pc := 84) rfl ?_
          refine go_goto (pc := 85) rfl ?_
          exact sX11_lineRead_246  (bi_k1 (rfl : ai_ld 0 (lv_args 0 [.ref a0]) = some (.ref a0)) rfl rfl) bi_e1 hh
        · skip
          refine bi_ite hh (fun hc2 hh => ?_) (fun hc2 hh => ?_)
          · refine go_swc (t := 88) 2 (pc := 27) rfl hc2 (by decide) ?_
            refine go_al (pc := 88) rfl (rfl : ai_ld 0 (lv_args 0 [.ref a0]) = some (.ref a0)) ?_
            obtain ⟨q6, eq6, hh⟩ := bi_bd hh
            refine go_ivI (pc := 89) rfl rfl (gX11_walkerLine eq6) (Nat.le_of_ble_eq_true rfl) (bi_up (sX11_walkerLine eq6) (Nat.le_of_ble_eq_true rfl)) ?_
            refine go_is (pc := 92) rfl ?_
            refine go_goto (pc := 93) rfl ?_
            exact sX11_lineRead_246  (bi_k1 (rfl : ai_ld 0 (lv_args 0 [.ref a0]) = some (.ref a0)) rfl rfl) bi_e1 hh
          · skip
            refine bi_ite hh (fun hc3 hh => ?_) (fun hc3 hh => ?_)
            · refine go_swc (t := 96) 3 (pc := 27) rfl hc3 (by decide) ?_
              refine go_al (pc := 96) rfl (rfl : ai_ld 0 (lv_args 0 [.ref a0]) = some (.ref a0)) ?_
              obtain ⟨q7, eq7, hh⟩ := bi_bd hh
              refine go_ivI (pc := 97) rfl rfl (gX11_walkLine eq7) (Nat.le_of_ble_eq_true rfl) (bi_up (sX11_walkLine eq7) (Nat.le_of_ble_eq_true rfl)) ?_
              refine go_is (pc := 100) rfl ?_
              refine go_goto (pc := 101) rfl ?_
              exact sX11_lineRead_246  (bi_k1 (rfl : ai_ld 0 (lv_args 0 [.ref a0]) = some (.ref a0)) rfl rfl) bi_e1 hh
            · skip
              refine bi_ite hh (fun hc4 hh => ?_) (fun hc4 hh => ?_)
              · refine go_swc (t := 104) 4 (pc := 27) rfl hc4 (by decide) ?_
                refine go_al (pc := 104) rfl (rfl : ai_ld 0 (lv_args 0 [.ref a0]) = some (.ref a0)) ?_
                obtain ⟨q8, eq8, hh⟩ := bi_bd hh
                refine go_ivI (pc := 105) rfl rfl (gX11_bullLine eq8) (Nat.le_of_ble_eq_true rfl) (bi_up (sX11_bullLine eq8) (Nat.le_of_ble_eq_true rfl)) ?_
                refine go_is (pc := 108) rfl ?_
                refine go_goto (pc := 109) rfl ?_
                exact sX11_lineRead_246  (bi_k1 (rfl : ai_ld 0 (lv_args 0 [.ref a0]) = some (.ref a0)) rfl rfl) bi_e1 hh
              · skip
                refine bi_ite hh (fun hc5 hh => ?_) (fun hc5 hh => ?_)
                · refine go_swc (t := 112) 5 (pc := 27) rfl hc5 (by decide) ?_
                  refine go_al (pc := 112) rfl (rfl : ai_ld 0 (lv_args 0 [.ref a0]) = some (.ref a0)) ?_
                  refine go_pi (pc := 113) rfl ?_
                  refine go_pi (pc := 114) rfl ?_
                  refine go_pi (pc := 115) rfl ?_
                  obtain ⟨q9, eq9, hh⟩ := bi_bd hh
                  refine go_ivI (pc := 118) rfl rfl (gX11_onceLine eq9) (Nat.le_of_ble_eq_true rfl) (bi_up (sX11_onceLine eq9) (Nat.le_of_ble_eq_true rfl)) ?_
                  refine go_is (pc := 121) rfl ?_
                  refine go_goto (pc := 122) rfl ?_
                  exact sX11_lineRead_246  (bi_k1 (rfl : ai_ld 0 (lv_args 0 [.ref a0]) = some (.ref a0)) rfl rfl) bi_e1 hh
                · skip
                  refine bi_ite hh (fun hc6 hh => ?_) (fun hc6 hh => ?_)
                  · refine go_swc (t := 125) 6 (pc := 27) rfl hc6 (by decide) ?_
                    refine go_al (pc := 125) rfl (rfl : ai_ld 0 (lv_args 0 [.ref a0]) = some (.ref a0)) ?_
                    refine go_pi (pc := 126) rfl ?_
                    refine go_pi (pc := 127) rfl ?_
                    refine go_pi (pc := 128) rfl ?_
                    obtain ⟨q10, eq10, hh⟩ := bi_bd hh
                    refine go_ivI (pc := 130) rfl rfl (gX11_onceLine eq10) (Nat.le_of_ble_eq_true rfl) (bi_up (sX11_onceLine eq10) (Nat.le_of_ble_eq_true rfl)) ?_
                    refine go_is (pc := 133) rfl ?_
                    refine go_goto (pc := 134) rfl ?_
                    exact sX11_lineRead_246  (bi_k1 (rfl : ai_ld 0 (lv_args 0 [.ref a0]) = some (.ref a0)) rfl rfl) bi_e1 hh
                  · skip
                    refine bi_ite hh (fun hc7 hh => ?_) (fun hc7 hh => ?_)
                    · refine go_swc (t := 137) 7 (pc := 27) rfl hc7 (by decide) ?_
                      refine go_al (pc := 137) rfl (rfl : ai_ld 0 (lv_args 0 [.ref a0]) = some (.ref a0)) ?_
                      refine go_pi (pc := 138) rfl ?_
                      refine go_pi (pc := 139) rfl ?_
                      refine go_pi (pc := 140) rfl ?_
                      obtain ⟨q11, eq11, hh⟩ := bi_bd hh
                      refine go_ivI (pc := 142) rfl rfl (gX11_onceLine eq11) (Nat.le_of_ble_eq_true rfl) (bi_up (sX11_onceLine eq11) (Nat.le_of_ble_eq_true rfl)) ?_
                      refine go_is (pc := 145) rfl ?_
                      refine go_goto (pc := 146) rfl ?_
                      exact sX11_lineRead_246  (bi_k1 (rfl : ai_ld 0 (lv_args 0 [.ref a0]) = some (.ref a0)) rfl rfl) bi_e1 hh
                    · skip
                      refine go_swd (pc := 27) rfl (fun i hi => match i, hi with | 0, _ => Or.inr (lv_neT hc0 (by decide)) | 1, _ => Or.inr (lv_neT hc1 (by decide)) | 2, _ => Or.inr (lv_neT hc2 (by decide)) | 3, _ => Or.inr (lv_neT hc3 (by decide)) | 4, _ => Or.inr (lv_neT hc4 (by decide)) | 5, _ => Or.inr (lv_neT hc5 (by decide)) | 6, _ => Or.inr (lv_neT hc6 (by decide)) | 7, _ => Or.inr (lv_neT hc7 (by decide)) | i + 8, hi => absurd hi (Nat.not_lt.mpr (Nat.le_add_left _ _))) ?_
                      refine go_al (pc := 149) rfl (rfl : ai_ld 0 (lv_args 0 [.ref a0]) = some (.ref a0)) ?_
                      obtain ⟨q12, eq12, hh⟩ := bi_bd hh
                      refine go_ivV (pc := 150) rfl rfl (gX11_token eq12) (Nat.le_of_ble_eq_true rfl) (bi_up (sX11_token eq12) (Nat.le_of_ble_eq_true rfl)) ?_
                      refine go_al (pc := 153) rfl (rfl : ai_ld 0 (lv_args 0 [.ref a0]) = some (.ref a0)) ?_
                      obtain ⟨x13, ex13, hh⟩ := bi_bd hh
                      refine go_gfI (pc := 154) rfl ex13 ?_
                      refine go_pi (pc := 157) rfl ?_
                      refine bi_ite hh (fun hc hh => ?_) (fun hc hh => ?_)
                      · refine go_cmpneT (pc := 158) rfl hc ?_
                        exact sX11_lineRead_179  (rfl : ai_ld 0 (lv_args 0 [.ref a0]) = some (.ref a0)) hh
                      · refine go_cmpneF (pc := 158) rfl hc ?_
                        refine go_al (pc := 161) rfl (rfl : ai_ld 0 (lv_args 0 [.ref a0]) = some (.ref a0)) ?_
                        obtain ⟨x14, ex14, hh⟩ := bi_bd hh
                        refine go_gfI (pc := 162) rfl ex14 ?_
                        refine go_pi (pc := 165) rfl ?_
                        refine bi_ite hh (fun hc hh => ?_) (fun hc hh => ?_)
                        · refine go_cmpltT (pc := 167) rfl hc ?_
                          exact sX11_lineRead_179  (rfl : ai_ld 0 (lv_args 0 [.ref a0]) = some (.ref a0)) hh
                        · refine go_cmpltF (pc := 167) rfl hc ?_
                          refine go_al (pc := 170) rfl (rfl : ai_ld 0 (lv_args 0 [.ref a0]) = some (.ref a0)) ?_
                          obtain ⟨x15, ex15, hh⟩ := bi_bd hh
                          refine go_gfI (pc := 171) rfl ex15 ?_
                          refine go_pi (pc := 174) rfl ?_
                          refine bi_ite hh (fun hc hh => ?_) (fun hc hh => ?_)
                          · refine go_cmpleT (pc := 176) rfl hc ?_
                            refine go_pi (pc := 185) rfl ?_
                            refine go_al (pc := 186) rfl (rfl : ai_ld 0 (lv_args 0 [.ref a0]) = some (.ref a0)) ?_
                            obtain ⟨x16, ex16, hh⟩ := bi_bd hh
                            refine go_gfI (pc := 187) rfl ex16 ?_
                            refine go_iadd (pc := 190) rfl ?_
                            refine go_pi (pc := 191) rfl ?_
                            refine go_isub (pc := 193) rfl ?_
                            refine go_is (pc := 194) rfl ?_
                            refine go_al (pc := 195) rfl (bi_k1 (rfl : ai_ld 0 (lv_args 0 [.ref a0]) = some (.ref a0)) rfl rfl) ?_
                            obtain ⟨x17, ex17, hh⟩ := bi_bd hh
                            refine go_gfR (pc := 196) rfl ex17 ?_
                            refine go_il (pc := 199) rfl bi_e1 ?_
                            obtain ⟨x18, ex18, hh⟩ := bi_bd hh
                            refine go_bald (pc := 200) rfl ex18 ?_
                            refine bi_ite hh (fun hc hh => ?_) (fun hc hh => ?_)
                            · refine go_ifeqT (pc := 201) rfl hc ?_
                              refine go_al (pc := 210) rfl (bi_k1 (rfl : ai_ld 0 (lv_args 0 [.ref a0]) = some (.ref a0)) rfl rfl) ?_
                              obtain ⟨x19, ex19, hh⟩ := bi_bd hh
                              refine go_gfR (pc := 211) rfl ex19 ?_
                              refine go_il (pc := 214) rfl bi_e1 ?_
                              refine go_pi (pc := 215) rfl ?_
                              obtain ⟨h20, eh20, hh⟩ := bi_bd hh
                              refine go_bast (pc := 216) rfl eh20 ?_
                              refine go_al (pc := 217) rfl (bi_k1 (rfl : ai_ld 0 (lv_args 0 [.ref a0]) = some (.ref a0)) rfl rfl) ?_
                              obtain ⟨q21, eq21, hh⟩ := bi_bd hh
                              refine go_ivV (pc := 218) rfl rfl (gX11_token eq21) (Nat.le_of_ble_eq_true rfl) (bi_up (sX11_token eq21) (Nat.le_of_ble_eq_true rfl)) ?_
                              refine go_al (pc := 221) rfl (bi_k1 (rfl : ai_ld 0 (lv_args 0 [.ref a0]) = some (.ref a0)) rfl rfl) ?_
                              obtain ⟨x22, ex22, hh⟩ := bi_bd hh
                              refine go_gfR (pc := 222) rfl ex22 ?_
                              refine go_il (pc := 225) rfl bi_e1 ?_
                              refine go_al (pc := 226) rfl (bi_k1 (rfl : ai_ld 0 (lv_args 0 [.ref a0]) = some (.ref a0)) rfl rfl) ?_
                              obtain ⟨x23, ex23, hh⟩ := bi_bd hh
                              refine go_gfI (pc := 227) rfl ex23 ?_
                              obtain ⟨h24, eh24, hh⟩ := bi_bd hh
                              refine go_iast (pc := 230) rfl eh24 ?_
                              refine go_al (pc := 231) rfl (bi_k1 (rfl : ai_ld 0 (lv_args 0 [.ref a0]) = some (.ref a0)) rfl rfl) ?_
                              obtain ⟨q25, eq25, hh⟩ := bi_bd hh
                              refine go_ivI (pc := 232) rfl rfl (gX11_sumRead eq25) (Nat.le_of_ble_eq_true rfl) (bi_up (sX11_sumRead eq25) (Nat.le_of_ble_eq_true rfl)) ?_
                              refine go_is (pc := 235) rfl ?_
                              refine go_al (pc := 236) rfl (bi_k1 (bi_k1 (rfl : ai_ld 0 (lv_args 0 [.ref a0]) = some (.ref a0)) rfl rfl) rfl rfl) ?_
                              obtain ⟨x26, ex26, hh⟩ := bi_bd hh
                              refine go_gfR (pc := 237) rfl ex26 ?_
                              refine go_il (pc := 240) rfl (bi_k1 bi_e1 rfl rfl) ?_
                              refine go_al (pc := 241) rfl (bi_k1 (bi_k1 (rfl : ai_ld 0 (lv_args 0 [.ref a0]) = some (.ref a0)) rfl rfl) rfl rfl) ?_
                              obtain ⟨x27, ex27, hh⟩ := bi_bd hh
                              refine go_gfI (pc := 242) rfl ex27 ?_
                              obtain ⟨h28, eh28, hh⟩ := bi_bd hh
                              refine go_iast (pc := 245) rfl eh28 ?_
                              exact sX11_lineRead_246  (bi_k1 (bi_k1 (rfl : ai_ld 0 (lv_args 0 [.ref a0]) = some (.ref a0)) rfl rfl) rfl rfl) bi_e1 hh
                            · refine go_ifeqF (pc := 201) rfl hc ?_
                              refine go_al (pc := 204) rfl (bi_k1 (rfl : ai_ld 0 (lv_args 0 [.ref a0]) = some (.ref a0)) rfl rfl) ?_
                              refine go_pi (pc := 205) rfl ?_
                              obtain ⟨q29, eq29, hh⟩ := bi_bd hh
                              refine go_ivI (pc := 206) rfl rfl (gX11_wrong eq29) (Nat.le_of_ble_eq_true rfl) (bi_up (sX11_wrong eq29) (Nat.le_of_ble_eq_true rfl)) ?_
                              obtain ⟨_, ez, hh⟩ := bi_bd hh
                              exact go_rz (pc := 209) rfl ez hh
                          · refine go_cmpleF (pc := 176) rfl hc ?_
                            exact sX11_lineRead_179  (rfl : ai_ld 0 (lv_args 0 [.ref a0]) = some (.ref a0)) hh
    · refine go_cmpleF (pc := 14) rfl hc ?_
      exact sX11_lineRead_17  (rfl : ai_ld 0 (lv_args 0 [.ref a0]) = some (.ref a0)) hh
def fX11_text_55b (n : Nat) (r55 : ai_H → Nat → Int32 → Option (Int32 × ai_H)) (h : ai_H) (v0 : Nat) (v2 : Int32) : Option (Int32 × ai_H) :=
  (pI n h v0 11 8).bind fun x1 =>
  if x1 = 0 then (
    (fX11_keepText n h v0).bind fun q2 =>
    some (v2, q2.2))
  else (
    (fX11_lineRead n h v0).bind fun q3 =>
    if ¬ q3.1 = 0 then (
      r55 q3.2 v0 (v2 + 1))
    else (
      some ((-1 : Int32), q3.2)))
theorem sX11_text_55b {n : Nat} {r55 : ai_H → Nat → Int32 → Option (Int32 × ai_H)} {q : Int32 × ai_H} {h : ai_H} {v0 : Nat} {v2 : Int32} {lv : ai_L} (R55 : ∀ (h : ai_H) (v0 : Nat) (v2 : Int32) (lv : ai_L), ai_ld 0 lv = some (.ref v0) → ai_ld 2 lv = some (.int v2) → r55 h v0 v2 = some q → bi_go 5 tX11_text n (fI n q) 55 lv [] h) (l0 : ai_ld 0 lv = some (.ref v0)) (l2 : ai_ld 2 lv = some (.int v2)) (hh : fX11_text_55b n r55 h v0 v2 = some q) : bi_go 5 tX11_text n (fI n q) 55 lv [] h := by
  unfold fX11_text_55b at hh
  refine go_al (pc := 55) rfl l0 ?_
  obtain ⟨x1, ex1, hh⟩ := bi_bd hh
  refine go_gfI (pc := 56) rfl ex1 ?_
  refine bi_ite hh (fun hc hh => ?_) (fun hc hh => ?_)
  · refine go_ifeqT (pc := 59) rfl hc ?_
    refine go_al (pc := 77) rfl l0 ?_
    obtain ⟨q2, eq2, hh⟩ := bi_bd hh
    refine go_ivV (pc := 78) rfl rfl (gX11_keepText eq2) (Nat.le_of_ble_eq_true rfl) (bi_up (sX11_keepText eq2) (Nat.le_of_ble_eq_true rfl)) ?_
    refine go_il (pc := 81) rfl l2 ?_
    exact go_ri (pc := 82) rfl hh
  · refine go_ifeqF (pc := 59) rfl hc ?_
    refine go_al (pc := 62) rfl l0 ?_
    obtain ⟨q3, eq3, hh⟩ := bi_bd hh
    refine go_ivI (pc := 63) rfl rfl (gX11_lineRead eq3) (Nat.le_of_ble_eq_true rfl) (bi_up (sX11_lineRead eq3) (Nat.le_of_ble_eq_true rfl)) ?_
    refine bi_ite hh (fun hc hh => ?_) (fun hc hh => ?_)
    · refine go_ifneT (pc := 66) rfl hc ?_
      refine go_inc (pc := 71) rfl l2 ?_
      refine go_goto (pc := 74) rfl ?_
      exact R55 _ _ _ _ (bi_k1 l0 rfl rfl) bi_e1 hh
    · refine go_ifneF (pc := 66) rfl hc ?_
      refine go_pi (pc := 69) rfl ?_
      exact go_ri (pc := 70) rfl hh
def fX11_text_55 (n : Nat) : Nat → ai_H → Nat → Int32 → Option (Int32 × ai_H)
  | 0 => fun _ _ _ => none
  | k + 1 => fun h v0 v2 => fX11_text_55b n (fX11_text_55 n k) h v0 v2
theorem sX11_text_55 {n : Nat} {q : Int32 × ai_H} : ∀ (k : Nat) (h : ai_H) (v0 : Nat) (v2 : Int32) (lv : ai_L), ai_ld 0 lv = some (.ref v0) → ai_ld 2 lv = some (.int v2) → fX11_text_55 n k h v0 v2 = some q → bi_go 5 tX11_text n (fI n q) 55 lv [] h
  | 0 => fun _ _ _ _ _ _ hh => by cases hh
  | k + 1 => fun h v0 v2 lv l0 l2 hh => sX11_text_55b  (sX11_text_55  k) l0 l2 hh
def fX11_text (n : Nat) (h : ai_H) (a0 : Nat) (a1 : Int32) : Option (Int32 × ai_H) :=
  (kO n h a0 11).bind fun _ =>
  (sF n h a0 11 2 (.int) (.int (0 : Int32))).bind fun h1 =>
  if a1 < 0 then (
    some ((-2 : Int32), h1))
  else (
    (pI n h1 a0 11 1).bind fun x2 =>
    if a1 ≤ x2 then (
      (sF n h1 a0 11 6 (.int) (.int a1)).bind fun h3 =>
      (sF n h3 a0 11 1 (.int) (.int (0 : Int32))).bind fun h4 =>
      (sF n h4 a0 11 4 (.int) (.int (0 : Int32))).bind fun h5 =>
      (sF n h5 a0 11 5 (.int) (.int (-1 : Int32))).bind fun h6 =>
      (sF n h6 a0 11 7 (.int) (.int (0 : Int32))).bind fun h7 =>
      (fX11_plain n h7 a0).bind fun q8 =>
      (fX11_token n q8.2 a0).bind fun q9 =>
      fX11_text_55 n bi_K q9.2 a0 (0 : Int32))
    else (
      some ((-2 : Int32), h1)))
theorem gX11_text {n : Nat} {h : ai_H} {a0 : Nat} {a1 : Int32} {q : Int32 × ai_H} (hh : fX11_text n h a0 a1 = some q) : kO n h a0 11 = some () := by
  obtain ⟨_, e, -⟩ := bi_bd hh
  exact e
theorem sX11_text {n : Nat} {h : ai_H} {a0 : Nat} {a1 : Int32} {q : Int32 × ai_H} (hh : fX11_text n h a0 a1 = some q) : bi_sp 6 168 [.ref a0, .int a1] h n (fI n q) := by
  refine bi_en (D := 5) (T := tX11_text) (funext fun pc => rfl) rfl (Nat.le_of_ble_eq_true rfl) ?_
  unfold fX11_text at hh
  obtain ⟨_, eO, hh⟩ := bi_bd hh
  refine go_al (pc := 0) rfl (rfl : ai_ld 0 (lv_args 0 [.ref a0, .int a1]) = some (.ref a0)) ?_
  refine go_pi (pc := 1) rfl ?_
  obtain ⟨h1, eh1, hh⟩ := bi_bd hh
  refine go_pf (pc := 2) rfl eh1 ?_
  refine go_il (pc := 5) rfl (rfl : ai_ld 1 (lv_args 0 [.ref a0, .int a1]) = some (.int a1)) ?_
  refine bi_ite hh (fun hc hh => ?_) (fun hc hh => ?_)
  · refine go_ifltT (pc := 6) rfl hc ?_
    refine go_pi (pc := 17) rfl ?_
    exact go_ri (pc := 19) rfl hh
  · refine go_ifltF (pc := 6) rfl hc ?_
    refine go_il (pc := 9) rfl (rfl : ai_ld 1 (lv_args 0 [.ref a0, .int a1]) = some (.int a1)) ?_
    refine go_al (pc := 10) rfl (rfl : ai_ld 0 (lv_args 0 [.ref a0, .int a1]) = some (.ref a0)) ?_
    obtain ⟨x2, ex2, hh⟩ := bi_bd hh
    refine go_gfI (pc := 11) rfl ex2 ?_
    refine bi_ite hh (fun hc hh => ?_) (fun hc hh => ?_)
    · refine go_cmpleT (pc := 14) rfl hc ?_
      refine go_al (pc := 20) rfl (rfl : ai_ld 0 (lv_args 0 [.ref a0, .int a1]) = some (.ref a0)) ?_
      refine go_il (pc := 21) rfl (rfl : ai_ld 1 (lv_args 0 [.ref a0, .int a1]) = some (.int a1)) ?_
      obtain ⟨h3, eh3, hh⟩ := bi_bd hh
      refine go_pf (pc := 22) rfl eh3 ?_
      refine go_al (pc := 25) rfl (rfl : ai_ld 0 (lv_args 0 [.ref a0, .int a1]) = some (.ref a0)) ?_
      refine go_pi (pc := 26) rfl ?_
      obtain ⟨h4, eh4, hh⟩ := bi_bd hh
      refine go_pf (pc := 27) rfl eh4 ?_
      refine go_al (pc := 30) rfl (rfl : ai_ld 0 (lv_args 0 [.ref a0, .int a1]) = some (.ref a0)) ?_
      refine go_pi (pc := 31) rfl ?_
      obtain ⟨h5, eh5, hh⟩ := bi_bd hh
      refine go_pf (pc := 32) rfl eh5 ?_
      refine go_al (pc := 35) rfl (rfl : ai_ld 0 (lv_args 0 [.ref a0, .int a1]) = some (.ref a0)) ?_
      refine go_pi (pc := 36) rfl ?_
      obtain ⟨h6, eh6, hh⟩ := bi_bd hh
      refine go_pf (pc := 37) rfl eh6 ?_
      refine go_al (pc := 40) rfl (rfl : ai_ld 0 (lv_args 0 [.ref a0, .int a1]) = some (.ref a0)) ?_
      refine go_pi (pc := 41) rfl ?_
      obtain ⟨h7, eh7, hh⟩ := bi_bd hh
      refine go_pf (pc := 42) rfl eh7 ?_
      refine go_al (pc := 45) rfl (rfl : ai_ld 0 (lv_args 0 [.ref a0, .int a1]) = some (.ref a0)) ?_
      obtain ⟨q8, eq8, hh⟩ := bi_bd hh
      refine go_ivV (pc := 46) rfl rfl (gX11_plain eq8) (Nat.le_of_ble_eq_true rfl) (bi_up (sX11_plain eq8) (Nat.le_of_ble_eq_true rfl)) ?_
      refine go_al (pc := 49) rfl (rfl : ai_ld 0 (lv_args 0 [.ref a0, .int a1]) = some (.ref a0)) ?_
      obtain ⟨q9, eq9, hh⟩ := bi_bd hh
      refine go_ivV (pc := 50) rfl rfl (gX11_token eq9) (Nat.le_of_ble_eq_true rfl) (bi_up (sX11_token eq9) (Nat.le_of_ble_eq_true rfl)) ?_
      refine go_pi (pc := 53) rfl ?_
      refine go_is (pc := 54) rfl ?_
      exact sX11_text_55  _ _ _ _ _ (bi_k1 (rfl : ai_ld 0 (lv_args 0 [.ref a0, .int a1]) = some (.ref a0)) rfl rfl) bi_e1 hh
    · refine go_cmpleF (pc := 14) rfl hc ?_
      refine go_pi (pc := 17) rfl ?_
      exact go_ri (pc := 19) rfl hh
def fX11_fault (n : Nat) (h : ai_H) (a0 : Nat) (a1 : Int32) : Option (Int32 × ai_H) :=
  (kO n h a0 11).bind fun _ =>
  (sF n h a0 11 2 (.int) (.int (0 : Int32))).bind fun h1 =>
  if ¬ a1 = 0 then (
    if ¬ a1 = (1 : Int32) then (
      some ((-1 : Int32), h1))
    else (
      (pI n h1 a0 11 5).bind fun x2 =>
      some (x2, h1)))
  else (
    (pI n h1 a0 11 4).bind fun x3 =>
    some (x3, h1))
theorem gX11_fault {n : Nat} {h : ai_H} {a0 : Nat} {a1 : Int32} {q : Int32 × ai_H} (hh : fX11_fault n h a0 a1 = some q) : kO n h a0 11 = some () := by
  obtain ⟨_, e, -⟩ := bi_bd hh
  exact e
theorem sX11_fault {n : Nat} {h : ai_H} {a0 : Nat} {a1 : Int32} {q : Int32 × ai_H} (hh : fX11_fault n h a0 a1 = some q) : bi_sp 1 169 [.ref a0, .int a1] h n (fI n q) := by
  refine bi_en (D := 0) (T := tX11_fault) (funext fun pc => rfl) rfl (Nat.le_of_ble_eq_true rfl) ?_
  unfold fX11_fault at hh
  obtain ⟨_, eO, hh⟩ := bi_bd hh
  refine go_al (pc := 0) rfl (rfl : ai_ld 0 (lv_args 0 [.ref a0, .int a1]) = some (.ref a0)) ?_
  refine go_pi (pc := 1) rfl ?_
  obtain ⟨h1, eh1, hh⟩ := bi_bd hh
  refine go_pf (pc := 2) rfl eh1 ?_
  refine go_il (pc := 5) rfl (rfl : ai_ld 1 (lv_args 0 [.ref a0, .int a1]) = some (.int a1)) ?_
  refine bi_ite hh (fun hc hh => ?_) (fun hc hh => ?_)
  · refine go_ifneT (pc := 6) rfl hc ?_
    refine go_il (pc := 16) rfl (rfl : ai_ld 1 (lv_args 0 [.ref a0, .int a1]) = some (.int a1)) ?_
    refine go_pi (pc := 17) rfl ?_
    refine bi_ite hh (fun hc hh => ?_) (fun hc hh => ?_)
    · refine go_cmpneT (pc := 18) rfl hc ?_
      refine go_pi (pc := 28) rfl ?_
      exact go_ri (pc := 29) rfl hh
    · refine go_cmpneF (pc := 18) rfl hc ?_
      refine go_al (pc := 21) rfl (rfl : ai_ld 0 (lv_args 0 [.ref a0, .int a1]) = some (.ref a0)) ?_
      obtain ⟨x2, ex2, hh⟩ := bi_bd hh
      refine go_gfI (pc := 22) rfl ex2 ?_
      refine go_goto (pc := 25) rfl ?_
      exact go_ri (pc := 29) rfl hh
  · refine go_ifneF (pc := 6) rfl hc ?_
    refine go_al (pc := 9) rfl (rfl : ai_ld 0 (lv_args 0 [.ref a0, .int a1]) = some (.ref a0)) ?_
    obtain ⟨x3, ex3, hh⟩ := bi_bd hh
    refine go_gfI (pc := 10) rfl ex3 ?_
    refine go_goto (pc := 13) rfl ?_
    exact go_ri (pc := 29) rfl hh
def fX11_named (n : Nat) (h : ai_H) (a0 : Nat) (a1 : Int32) (a2 : Int32) : Option (Int32 × ai_H) :=
  (kO n h a0 11).bind fun _ =>
  (sF n h a0 11 2 (.int) (.int (0 : Int32))).bind fun h1 =>
  if a1 = 0 then (
    (pR n h1 a0 11 26).bind fun x2 =>
    (pI n h1 a0 11 12).bind fun x3 =>
    (fX11_find n h1 x2 (0 : Int32) x3 a2).bind fun q4 =>
    some (q4.1, q4.2))
  else (
    if a1 = 1 then (
      (pR n h1 a0 11 27).bind fun x5 =>
      (pI n h1 a0 11 13).bind fun x6 =>
      (fX11_find n h1 x5 (0 : Int32) x6 a2).bind fun q7 =>
      some (q7.1, q7.2))
    else (
      if a1 = 2 then (
        (pR n h1 a0 11 33).bind fun x8 =>
        (pI n h1 a0 11 14).bind fun x9 =>
        (fX11_find n h1 x8 (0 : Int32) x9 a2).bind fun q10 =>
        some (q10.1, q10.2))
      else (
        some ((-1 : Int32), h1))))
theorem gX11_named {n : Nat} {h : ai_H} {a0 : Nat} {a1 : Int32} {a2 : Int32} {q : Int32 × ai_H} (hh : fX11_named n h a0 a1 a2 = some q) : kO n h a0 11 = some () := by
  obtain ⟨_, e, -⟩ := bi_bd hh
  exact e
theorem sX11_named {n : Nat} {h : ai_H} {a0 : Nat} {a1 : Int32} {a2 : Int32} {q : Int32 × ai_H} (hh : fX11_named n h a0 a1 a2 = some q) : bi_sp 2 170 [.ref a0, .int a1, .int a2] h n (fI n q) := by
  refine bi_en (D := 1) (T := tX11_named) (funext fun pc => rfl) rfl (Nat.le_of_ble_eq_true rfl) ?_
  unfold fX11_named at hh
  obtain ⟨_, eO, hh⟩ := bi_bd hh
  refine go_al (pc := 0) rfl (rfl : ai_ld 0 (lv_args 0 [.ref a0, .int a1, .int a2]) = some (.ref a0)) ?_
  refine go_pi (pc := 1) rfl ?_
  obtain ⟨h1, eh1, hh⟩ := bi_bd hh
  refine go_pf (pc := 2) rfl eh1 ?_
  refine go_il (pc := 5) rfl (rfl : ai_ld 1 (lv_args 0 [.ref a0, .int a1, .int a2]) = some (.int a1)) ?_
  refine bi_ite hh (fun hc0 hh => ?_) (fun hc0 hh => ?_)
  · refine go_swc (t := 32) 0 (pc := 6) rfl hc0 (by decide) ?_
    refine go_al (pc := 32) rfl (rfl : ai_ld 0 (lv_args 0 [.ref a0, .int a1, .int a2]) = some (.ref a0)) ?_
    obtain ⟨x2, ex2, hh⟩ := bi_bd hh
    refine go_gfR (pc := 33) rfl ex2 ?_
    refine go_pi (pc := 36) rfl ?_
    refine go_al (pc := 37) rfl (rfl : ai_ld 0 (lv_args 0 [.ref a0, .int a1, .int a2]) = some (.ref a0)) ?_
    obtain ⟨x3, ex3, hh⟩ := bi_bd hh
    refine go_gfI (pc := 38) rfl ex3 ?_
    refine go_il (pc := 41) rfl (rfl : ai_ld 2 (lv_args 0 [.ref a0, .int a1, .int a2]) = some (.int a2)) ?_
    obtain ⟨q4, eq4, hh⟩ := bi_bd hh
    refine go_iSI (pc := 42) rfl (Nat.le_of_ble_eq_true rfl) rfl (Nat.le_of_ble_eq_true rfl) (bi_up (sX11_find eq4) (Nat.le_of_ble_eq_true rfl)) ?_
    exact go_ri (pc := 45) rfl hh
  · skip
    refine bi_ite hh (fun hc1 hh => ?_) (fun hc1 hh => ?_)
    · refine go_swc (t := 46) 1 (pc := 6) rfl hc1 (by decide) ?_
      refine go_al (pc := 46) rfl (rfl : ai_ld 0 (lv_args 0 [.ref a0, .int a1, .int a2]) = some (.ref a0)) ?_
      obtain ⟨x5, ex5, hh⟩ := bi_bd hh
      refine go_gfR (pc := 47) rfl ex5 ?_
      refine go_pi (pc := 50) rfl ?_
      refine go_al (pc := 51) rfl (rfl : ai_ld 0 (lv_args 0 [.ref a0, .int a1, .int a2]) = some (.ref a0)) ?_
      obtain ⟨x6, ex6, hh⟩ := bi_bd hh
      refine go_gfI (pc := 52) rfl ex6 ?_
      refine go_il (pc := 55) rfl (rfl : ai_ld 2 (lv_args 0 [.ref a0, .int a1, .int a2]) = some (.int a2)) ?_
      obtain ⟨q7, eq7, hh⟩ := bi_bd hh
      refine go_iSI (pc := 56) rfl (Nat.le_of_ble_eq_true rfl) rfl (Nat.le_of_ble_eq_true rfl) (bi_up (sX11_find eq7) (Nat.le_of_ble_eq_true rfl)) ?_
      exact go_ri (pc := 59) rfl hh
    · skip
      refine bi_ite hh (fun hc2 hh => ?_) (fun hc2 hh => ?_)
      · refine go_swc (t := 60) 2 (pc := 6) rfl hc2 (by decide) ?_
        refine go_al (pc := 60) rfl (rfl : ai_ld 0 (lv_args 0 [.ref a0, .int a1, .int a2]) = some (.ref a0)) ?_
        obtain ⟨x8, ex8, hh⟩ := bi_bd hh
        refine go_gfR (pc := 61) rfl ex8 ?_
        refine go_pi (pc := 64) rfl ?_
        refine go_al (pc := 65) rfl (rfl : ai_ld 0 (lv_args 0 [.ref a0, .int a1, .int a2]) = some (.ref a0)) ?_
        obtain ⟨x9, ex9, hh⟩ := bi_bd hh
        refine go_gfI (pc := 66) rfl ex9 ?_
        refine go_il (pc := 69) rfl (rfl : ai_ld 2 (lv_args 0 [.ref a0, .int a1, .int a2]) = some (.int a2)) ?_
        obtain ⟨q10, eq10, hh⟩ := bi_bd hh
        refine go_iSI (pc := 70) rfl (Nat.le_of_ble_eq_true rfl) rfl (Nat.le_of_ble_eq_true rfl) (bi_up (sX11_find eq10) (Nat.le_of_ble_eq_true rfl)) ?_
        exact go_ri (pc := 73) rfl hh
      · skip
        refine go_swd (pc := 6) rfl (fun i hi => match i, hi with | 0, _ => Or.inr (lv_neT hc0 (by decide)) | 1, _ => Or.inr (lv_neT hc1 (by decide)) | 2, _ => Or.inr (lv_neT hc2 (by decide)) | i + 3, hi => absurd hi (Nat.not_lt.mpr (Nat.le_add_left _ _))) ?_
        refine go_pi (pc := 74) rfl ?_
        exact go_ri (pc := 75) rfl hh
def fX11_bounded_29 (n : Nat) (h : ai_H) (v0 : Nat) (v1 : Int64) (s0 : Int32) (s1 : Nat) : Option (Int64 × ai_H) :=
  (sF n h s1 11 59 (.boolean) (.int s0)).bind fun h1 =>
  (pI n h1 v0 11 59).bind fun x2 =>
  if x2 = 0 then (
    some (v1, h1))
  else (
    some ((0 : Int64), h1))
theorem sX11_bounded_29 {n : Nat} {q : Int64 × ai_H} {h : ai_H} {v0 : Nat} {v1 : Int64} {s0 : Int32} {s1 : Nat} {lv : ai_L} (l0 : ai_ld 0 lv = some (.ref v0)) (l1 : ai_ld 1 lv = some (.long v1)) (hh : fX11_bounded_29 n h v0 v1 s0 s1 = some q) : bi_go 0 tX11_bounded n (fJ n q) 29 lv [.int s0, .ref s1] h := by
  unfold fX11_bounded_29 at hh
  obtain ⟨h1, eh1, hh⟩ := bi_bd hh
  refine go_pf (pc := 29) rfl eh1 ?_
  refine go_al (pc := 32) rfl l0 ?_
  obtain ⟨x2, ex2, hh⟩ := bi_bd hh
  refine go_gfI (pc := 33) rfl ex2 ?_
  refine bi_ite hh (fun hc hh => ?_) (fun hc hh => ?_)
  · refine go_ifeqT (pc := 36) rfl hc ?_
    refine go_ll (pc := 43) rfl l1 ?_
    exact go_rl (pc := 44) rfl hh
  · refine go_ifeqF (pc := 36) rfl hc ?_
    refine go_pl (pc := 39) rfl ?_
    refine go_goto (pc := 40) rfl ?_
    exact go_rl (pc := 44) rfl hh
def fX11_bounded_24 (n : Nat) (h : ai_H) (v0 : Nat) (v1 : Int64) (s0 : Nat) : Option (Int64 × ai_H) :=
  fX11_bounded_29 n h v0 v1 (1 : Int32) s0
theorem sX11_bounded_24 {n : Nat} {q : Int64 × ai_H} {h : ai_H} {v0 : Nat} {v1 : Int64} {s0 : Nat} {lv : ai_L} (l0 : ai_ld 0 lv = some (.ref v0)) (l1 : ai_ld 1 lv = some (.long v1)) (hh : fX11_bounded_24 n h v0 v1 s0 = some q) : bi_go 0 tX11_bounded n (fJ n q) 24 lv [.ref s0] h := by
  unfold fX11_bounded_24 at hh
  refine go_pi (pc := 24) rfl ?_
  refine go_goto (pc := 25) rfl ?_
  exact sX11_bounded_29  l0 l1 hh
def fX11_bounded (n : Nat) (h : ai_H) (a0 : Nat) (a1 : Int64) : Option (Int64 × ai_H) :=
  (kO n h a0 11).bind fun _ =>
  (pI n h a0 11 59).bind fun x1 =>
  if ¬ x1 = 0 then (
    fX11_bounded_24 n h a0 a1 a0)
  else (
    if 0 < (lg_cmp a1 (1000000000000 : Int64)) then (
      fX11_bounded_24 n h a0 a1 a0)
    else (
      if 0 ≤ (lg_cmp a1 (-1000000000000 : Int64)) then (
        fX11_bounded_29 n h a0 a1 (0 : Int32) a0)
      else (
        fX11_bounded_24 n h a0 a1 a0)))
theorem gX11_bounded {n : Nat} {h : ai_H} {a0 : Nat} {a1 : Int64} {q : Int64 × ai_H} (hh : fX11_bounded n h a0 a1 = some q) : kO n h a0 11 = some () := by
  obtain ⟨_, e, -⟩ := bi_bd hh
  exact e
theorem sX11_bounded {n : Nat} {h : ai_H} {a0 : Nat} {a1 : Int64} {q : Int64 × ai_H} (hh : fX11_bounded n h a0 a1 = some q) : bi_sp 1 181 [.ref a0, .long a1] h n (fJ n q) := by
  refine bi_en (D := 0) (T := tX11_bounded) (funext fun pc => rfl) rfl (Nat.le_of_ble_eq_true rfl) ?_
  unfold fX11_bounded at hh
  obtain ⟨_, eO, hh⟩ := bi_bd hh
  refine go_al (pc := 0) rfl (rfl : ai_ld 0 (lv_args 0 [.ref a0, .long a1]) = some (.ref a0)) ?_
  refine go_al (pc := 1) rfl (rfl : ai_ld 0 (lv_args 0 [.ref a0, .long a1]) = some (.ref a0)) ?_
  obtain ⟨x1, ex1, hh⟩ := bi_bd hh
  refine go_gfI (pc := 2) rfl ex1 ?_
  refine bi_ite hh (fun hc hh => ?_) (fun hc hh => ?_)
  · refine go_ifneT (pc := 5) rfl hc ?_
    exact sX11_bounded_24  (rfl : ai_ld 0 (lv_args 0 [.ref a0, .long a1]) = some (.ref a0)) (rfl : ai_ld 1 (lv_args 0 [.ref a0, .long a1]) = some (.long a1)) hh
  · refine go_ifneF (pc := 5) rfl hc ?_
    refine go_ll (pc := 8) rfl (rfl : ai_ld 1 (lv_args 0 [.ref a0, .long a1]) = some (.long a1)) ?_
    refine go_pl (pc := 9) rfl ?_
    refine go_lcmp (pc := 12) rfl ?_
    refine bi_ite hh (fun hc hh => ?_) (fun hc hh => ?_)
    · refine go_ifgtT (pc := 13) rfl hc ?_
      exact sX11_bounded_24  (rfl : ai_ld 0 (lv_args 0 [.ref a0, .long a1]) = some (.ref a0)) (rfl : ai_ld 1 (lv_args 0 [.ref a0, .long a1]) = some (.long a1)) hh
    · refine go_ifgtF (pc := 13) rfl hc ?_
      refine go_ll (pc := 16) rfl (rfl : ai_ld 1 (lv_args 0 [.ref a0, .long a1]) = some (.long a1)) ?_
      refine go_pl (pc := 17) rfl ?_
      refine go_lcmp (pc := 20) rfl ?_
      refine bi_ite hh (fun hc hh => ?_) (fun hc hh => ?_)
      · refine go_ifgeT (pc := 21) rfl hc ?_
        refine go_pi (pc := 28) rfl ?_
        exact sX11_bounded_29  (rfl : ai_ld 0 (lv_args 0 [.ref a0, .long a1]) = some (.ref a0)) (rfl : ai_ld 1 (lv_args 0 [.ref a0, .long a1]) = some (.long a1)) hh
      · refine go_ifgeF (pc := 21) rfl hc ?_
        exact sX11_bounded_24  (rfl : ai_ld 0 (lv_args 0 [.ref a0, .long a1]) = some (.ref a0)) (rfl : ai_ld 1 (lv_args 0 [.ref a0, .long a1]) = some (.long a1)) hh
