/-! ===== expressions on the reference: read whole ===== -/
section Me9
variable {n N k a r : Nat} {B : Nat → Nat} {s s' s1 s2 : zS} {q : zQ} {y : zY} {W : List Nat} {o : List (Nat × Nat)} {kc br : Nat} {wa may : Bool} {tok : zK}
/-- what one step gives -/
def stR (n : Nat) (B : Nat → Nat) (N a F : Nat) (s : zS) (c : Option (Int32 × ai_H)) : Except (Nat × Nat) zQ ⊕ zY → Prop
  | .inl (.error e) => erM a s c e
  | .inl (.ok q) => ∃ s', c = some (nI 1, mk s') ∧ frE2 a s s' ∧ mHd B N s' q.1 ∧ q.1.1 = 24 ∧ (∃ may, mR a s' q.2.1 q.2.2 [] 0 false may ∧ jY a (q, [], 0, false, may))
  | .inr y' => ∃ s', c = fX11_sumRead_25 n F (mk s') 187 ∧ frE2 a s s' ∧ mY B N a s' y' ∧ jY a y'
theorem jY_25 {t2 : zK} (hj : jY a ((tok, o, kc), W, br, true, may)) (h8 : br ≠ 8) {m2 : Bool} : jY a ((t2, o, kc), 25 :: W, br + 1, true, m2) := by
  obtain ⟨j1, j2, j3, j4, j5, j6, j7⟩ := hj
  have j2 : (hdK a o).length + 1 = bnW W + 1 := j2
  have j4 : o.length + nnW W = kc := j4
  have j6 : W.length = nnW W + br := j6
  have j7 : br ≤ 8 := j7
  have bn : bnW (25 :: W) = 0 + bnW W := rfl
  have nn : nnW (25 :: W) = 0 + nnW W := rfl
  refine ⟨?_, ?_, j3, ?_, j5, ?_, ?_⟩
  · intro h hh
    rcases List.mem_cons.1 hh with e | e
    · rw [e]; exact ⟨Or.inl rfl, by omega⟩
    · exact j1 h e
  · show (hdK a o).length + 1 = bnW (25 :: W) + 1
    omega
  · show o.length + nnW (25 :: W) = kc
    omega
  · show W.length + 1 = nnW (25 :: W) + (br + 1)
    omega
  · show br + 1 ≤ 8
    omega
theorem jY_14 {t2 : zK} (hj : jY a ((tok, o, kc), W, br, true, may)) (h64 : ¬ 64 ≤ kc) {m2 : Bool} : jY a ((t2, o, kc + 1), 14 :: W, br, true, m2) := by
  obtain ⟨j1, j2, j3, j4, j5, j6, j7⟩ := hj
  have j2 : (hdK a o).length + 1 = bnW W + 1 := j2
  have j4 : o.length + nnW W = kc := j4
  have j6 : W.length = nnW W + br := j6
  have bn : bnW (14 :: W) = 0 + bnW W := rfl
  have nn : nnW (14 :: W) = 1 + nnW W := rfl
  refine ⟨?_, ?_, j3, ?_, ?_, ?_, j7⟩
  · intro h hh
    rcases List.mem_cons.1 hh with e | e
    · rw [e]; exact ⟨Or.inr (Or.inl rfl), by omega⟩
    · exact j1 h e
  · show (hdK a o).length + 1 = bnW (14 :: W) + 1
    omega
  · show o.length + nnW (14 :: W) = kc + 1
    omega
  · show kc + 1 ≤ 64
    omega
  · show W.length + 1 = nnW (14 :: W) + br
    omega
theorem jY_lf {t2 : zK} {x : Nat × Nat} (hj : jY a ((tok, o, kc), W, br, true, may)) (h64 : ¬ 64 ≤ kc) (lf : isLf x.1 = true) {m2 : Bool} : jY a ((t2, x :: o, kc + 1), W, br, false, m2) := by
  obtain ⟨j1, j2, j3, j4, j5, j6, j7⟩ := hj
  have j2 : (hdK a o).length + 1 = bnW W + 1 := j2
  have j3 : a ≤ o.length := j3
  have j4 : o.length + nnW W = kc := j4
  have hd' : hdK a (x :: o) = o.length :: hdK a o := by
    show (if o.length < a then [] else if isLf x.1 = true then o.length :: hdK a o else _) = _
    rw [if_neg (by omega), if_pos lf]
  refine ⟨j1, ?_, ?_, ?_, ?_, j6, j7⟩
  · show (hdK a (x :: o)).length + 0 = bnW W + 1
    rw [hd']
    show (hdK a o).length + 1 = _
    omega
  · show a ≤ o.length + 1
    omega
  · show o.length + 1 + nnW W = kc + 1
    omega
  · show kc + 1 ≤ 64
    omega
theorem m_step {F : Nat} (hn : 239 ≤ n) (hy : mY B N a s y) (hj : jY a y) : stR n B N a F s (fX11_sumRead_25b n (fX11_sumRead_25 n F) (mk s) 187) (syS B N y) := by
  obtain ⟨⟨tok, o, kc⟩, W, br, wa, may⟩ := y
  obtain ⟨hH, hR⟩ := hy
  have hH : mHd B N s tok := hH
  have hR : mR a s o kc W br wa may := hR
  have h5 : s.1 187 53 = nI br := hR.1.2.2.2.2.1
  have h6 : s.1 187 55 = nI wa.toNat := hR.1.2.2.2.2.2.1
  have j7 : br ≤ 8 := hj.2.2.2.2.2.2
  have sg : fX11_isSign n (mk s) 187 (59 : Int32) = some (nI (decide (tok.1 = 24)).toNat, mk s) := m_isSign (n := n) (k := 24) (q := (tok, o, kc)) hn hH.2.1 hH.2.2.1 (by decide) (by omega)
  have p55 : pI n (mk s) 187 11 55 = some (s.1 187 55) := by simp only [B_m hn]
  have p53 : pI n (mk s) 187 11 53 = some (s.1 187 53) := by simp only [B_m hn]
  have tt : ¬ nI (true.toNat) = (0 : Int32) := by decide
  have ff : nI (false.toNat) = (0 : Int32) := rfl
  unfold fX11_sumRead_25b
  rw [sg, Option.bind_some]
  by_cases fin : tok.1 = 24 ∧ wa = false ∧ br = 0
  · obtain ⟨f1, f2, f3⟩ := fin
    subst f2
    subst f3
    obtain ⟨s1, b1, b2, b3, b4⟩ := m_bindY (a := a) (tok := tok) hn (r := 1) (by omega) (by omega) hR hj
    have e : syS B N ((tok, o, kc), W, 0, false, may) = .inl (.ok (tok, (bdP 1 W o).2, kc)) := by
      unfold syS
      rw [if_pos (show tok.1 = 24 ∧ false = false ∧ 0 = 0 from ⟨f1, rfl, rfl⟩)]
    have w0 : (bdP 1 W o).1 = [] := by
      have j6 : (bdP 1 W o).1.length = nnW (bdP 1 W o).1 + 0 := b4.2.2.2.2.2.1
      cases hq : (bdP 1 W o).1 with
      | nil => rfl
      | cons h t =>
        have rk := bdP_hd W o h t hq
        have ok := (hj.1 h (bdP_mem W o h (by rw [hq]; exact List.mem_cons_self ..)))
        have tab : ∀ k : Fin 39, rkO k.1 < 1 → (k.1 = 25 ∨ k.1 = 14 ∨ lvO k.1 ≠ 9) → k.1 = 25 := by decide +kernel
        have h25 : h = 25 := tab ⟨h, by omega⟩ rk ok.1
        rw [hq, h25] at j6
        have nle : ∀ l : List Nat, nnW l ≤ l.length := by
          intro l
          induction l with
          | nil => exact Nat.le_refl _
          | cons x l ih =>
            show (if x = 25 then 0 else 1) + nnW l ≤ l.length + 1
            split <;> omega
        have := nle t
        have j6 : t.length + 1 = (0 + nnW t) + 0 := j6
        omega
    rw [w0] at b3 b4
    rw [e]
    refine ⟨s1, ?_, frBd_E b2, mHd_B hH b2, f1, may, b3, b4⟩
    rw [decide_eq_true f1, if_neg tt, p55, Option.bind_some, h6, if_neg (show ¬ ¬ nI (false.toNat) = (0 : Int32) from fun g => g ff), p53, Option.bind_some, h5, if_pos (show nI 0 ≤ (0 : Int32) by decide)]
    show ((fX11_bind n (mk s) 187 (nI 1)).bind _) = _
    rw [b1, Option.bind_some]
    rfl
  · have to48 : ∀ X : Option (Int32 × ai_H), X = fX11_sumRead_48 n (fX11_sumRead_25 n F) (mk s) 187 → (if nI (decide (tok.1 = 24)).toNat = (0 : Int32) then fX11_sumRead_48 n (fX11_sumRead_25 n F) (mk s) 187 else (pI n (mk s) 187 11 55).bind fun x2 => if ¬ x2 = (0 : Int32) then fX11_sumRead_48 n (fX11_sumRead_25 n F) (mk s) 187 else (pI n (mk s) 187 11 53).bind fun x3 => if x3 ≤ (0 : Int32) then (fX11_bind n (mk s) 187 (1 : Int32)).bind fun q4 => some ((1 : Int32), q4.2) else fX11_sumRead_48 n (fX11_sumRead_25 n F) (mk s) 187) = X := by
      rintro X rfl
      by_cases c : tok.1 = 24
      · rw [decide_eq_true c, if_neg tt, p55, Option.bind_some, h6]
        cases wa with
        | true => rw [if_pos tt]
        | false =>
          have b0 : br ≠ 0 := fun g => fin ⟨c, rfl, g⟩
          rw [if_neg (show ¬ ¬ nI (false.toNat) = (0 : Int32) from fun g => g ff), p53, Option.bind_some, h5, if_neg (show ¬ nI br ≤ (0 : Int32) by
            show ¬ nI br ≤ nI 0
            rw [n_le (by omega) (by omega)]; omega)]
      · rw [decide_eq_false c, if_pos ff]
    rw [to48 _ rfl]
    unfold fX11_sumRead_48
    rw [p55, Option.bind_some, h6]
    cases wa with
    | true =>
      rw [if_neg tt]
      have S0 : syS B N ((tok, o, kc), W, br, true, may) = (if tok.1 = 25 then (if br = 8 then .inl (.error (2, tok.2.2.1)) else .inr (adQ B N (tok, o, kc), 25 :: W, br + 1, true, true)) else if tok.1 = 14 ∧ may = true then (if 64 ≤ kc then .inl (.error (2, tok.2.2.1)) else .inr (kcQ B N (tok, o, kc), 14 :: W, br, true, may)) else if isLf tok.1 = true then (if tok.1 = 23 ∧ 9999 < tok.2.1 then .inl (.error (2, tok.2.2.1)) else if 64 ≤ kc then .inl (.error (2, tok.2.2.1)) else .inr (emQ (tok.1, tok.2.1) (kcQ B N (tok, o, kc)), W, br, false, may)) else .inl (.error (1, tok.2.2.1))) := by
        unfold syS
        rw [if_neg (show ¬ (tok.1 = 24 ∧ true = false ∧ br = 0) from fun g => by cases g.2.1), if_pos (show true = true from rfl)]
      rw [S0]
      have er : ∀ e, erM a s (fX11_leafRead n (mk s) 187) e → erM a s ((fX11_leafRead n (mk s) 187).bind fun q3 => if q3.1 = (0 : Int32) then some ((0 : Int32), q3.2) else fX11_sumRead_25 n F q3.2 187) e := fun e h => by
        obtain ⟨s', g1, g2⟩ := h
        refine ⟨s', ?_, g2⟩
        rw [g1, Option.bind_some, if_pos (show nI 0 = (0 : Int32) from rfl)]
        rfl
      have st : ∀ y', jY a y' → stM B N a s (fX11_leafRead n (mk s) 187) y' → ∃ s', ((fX11_leafRead n (mk s) 187).bind fun q3 => if q3.1 = (0 : Int32) then some ((0 : Int32), q3.2) else fX11_sumRead_25 n F q3.2 187) = fX11_sumRead_25 n F (mk s') 187 ∧ frE2 a s s' ∧ mY B N a s' y' ∧ jY a y' := fun y' hj' h => by
        obtain ⟨s', g1, g2, g3⟩ := h
        refine ⟨s', ?_, g2, g3, hj'⟩
        rw [g1, Option.bind_some, if_neg (show ¬ nI 1 = (0 : Int32) by decide)]
      by_cases c25 : tok.1 = 25
      · rw [if_pos c25]
        have A := m_leafA (n := n) hn (y := ((tok, o, kc), W, br, true, may)) ⟨hH, hR⟩ hj rfl c25
        by_cases c8 : br = 8
        · rw [if_pos c8]; exact er _ (A.1 c8)
        · rw [if_neg c8]; exact st _ (jY_25 hj c8) (A.2 c8)
      rw [if_neg c25]
      by_cases c14 : tok.1 = 14 ∧ may = true
      · rw [if_pos c14]
        obtain ⟨d1, d2⟩ := c14
        subst d2
        have A := m_leafB (n := n) hn (y := ((tok, o, kc), W, br, true, true)) ⟨hH, hR⟩ hj rfl d1 rfl
        by_cases c8 : 64 ≤ kc
        · rw [if_pos c8]; exact er _ (A.1 c8)
        · rw [if_neg c8]; exact st _ (jY_14 hj c8) (A.2 c8)
      rw [if_neg c14]
      have A := m_leafC (n := n) hn (y := ((tok, o, kc), W, br, true, may)) ⟨hH, hR⟩ hj rfl c25 c14
      by_cases lf : isLf tok.1 = true
      · rw [if_pos lf]
        by_cases c9 : tok.1 = 23 ∧ 9999 < tok.2.1
        · rw [if_pos c9]; exact er _ (A.1 lf c9)
        · rw [if_neg c9]
          by_cases c8 : 64 ≤ kc
          · rw [if_pos c8]; exact er _ (A.2.1 lf c9 c8)
          · rw [if_neg c8]; exact st _ (jY_lf hj c8 lf) (A.2.2.1 lf c9 c8)
      · rw [if_neg lf]; exact er _ (A.2.2.2 lf)
    | false =>
      rw [if_pos ff]
      have er : ∀ e, erM a s (fX11_signs n (mk s) 187) e → erM a s ((fX11_signs n (mk s) 187).bind fun q2 => if ¬ q2.1 = (0 : Int32) then fX11_sumRead_25 n F q2.2 187 else some ((0 : Int32), q2.2)) e := fun e h => by
        obtain ⟨s', g1, g2⟩ := h
        refine ⟨s', ?_, g2⟩
        rw [g1, Option.bind_some, if_neg (show ¬ ¬ nI 0 = (0 : Int32) from fun g => g rfl)]
        rfl
      have st : ∀ y', jY a y' → stM B N a s (fX11_signs n (mk s) 187) y' → ∃ s', ((fX11_signs n (mk s) 187).bind fun q2 => if ¬ q2.1 = (0 : Int32) then fX11_sumRead_25 n F q2.2 187 else some ((0 : Int32), q2.2)) = fX11_sumRead_25 n F (mk s') 187 ∧ frE2 a s s' ∧ mY B N a s' y' ∧ jY a y' := fun y' hj' h => by
        obtain ⟨s', g1, g2, g3⟩ := h
        refine ⟨s', ?_, g2, g3, hj'⟩
        rw [g1, Option.bind_some, if_pos (show ¬ nI 1 = (0 : Int32) by decide)]
      by_cases c26 : tok.1 = 26 ∧ 0 < br
      · have S0 : syS B N ((tok, o, kc), W, br, false, may) = .inr ((lxV B N tok.2.2.2, (bdP 1 W o).2, kc), (bdP 1 W o).1.tail, br - 1, false, may) := by
          unfold syS
          rw [if_neg (show ¬ (tok.1 = 24 ∧ false = false ∧ br = 0) from fun g => by omega), if_neg (show ¬ (false = true) from Bool.false_ne_true), if_pos (show tok.1 = 26 ∧ 0 < br from c26)]
        rw [S0]
        have A := m_signA (a := a) hn hH hR hj c26.1 c26.2
        obtain ⟨s1, b1, b2, b3, b4⟩ := m_bindY (a := a) (tok := tok) hn (r := 1) (by omega) (by omega) hR hj
        refine st _ ?_ A
        obtain ⟨i1, i2, i3, i4, i5, i6, i7⟩ := b4
        have i6 : (bdP 1 W o).1.length = nnW (bdP 1 W o).1 + br := i6
        have i2 : (hdK a (bdP 1 W o).2).length + 0 = bnW (bdP 1 W o).1 + 1 := i2
        have i4 : (bdP 1 W o).2.length + nnW (bdP 1 W o).1 = kc := i4
        have i7 : br ≤ 8 := i7
        have i1 : ∀ h, h ∈ (bdP 1 W o).1 → okW h ∧ h ≤ 38 := i1
        cases hq : (bdP 1 W o).1 with
        | nil => rw [hq] at i6; have : 0 = 0 + br := i6; omega
        | cons h t =>
          have rk := bdP_hd W o h t hq
          have ok := i1 h (by rw [hq]; exact List.mem_cons_self ..)
          have tab : ∀ k : Fin 39, rkO k.1 < 1 → (k.1 = 25 ∨ k.1 = 14 ∨ lvO k.1 ≠ 9) → k.1 = 25 := by decide +kernel
          have h25 : h = 25 := tab ⟨h, by omega⟩ rk ok.1
          subst h25
          rw [hq] at i1 i2 i4 i6
          have i2 : (hdK a (bdP 1 W o).2).length + 0 = (0 + bnW t) + 1 := i2
          have i4 : (bdP 1 W o).2.length + (0 + nnW t) = kc := i4
          have i6 : t.length + 1 = (0 + nnW t) + br := i6
          refine ⟨fun x hx => i1 x (List.mem_cons_of_mem _ hx), ?_, i3, ?_, i5, ?_, ?_⟩
          · show (hdK a (bdP 1 W o).2).length + 0 = bnW t + 1
            omega
          · show (bdP 1 W o).2.length + nnW t = kc
            omega
          · show t.length = nnW t + (br - 1)
            omega
          · show br - 1 ≤ 8
            omega
      · have S0 : syS B N ((tok, o, kc), W, br, false, may) = (if lvO tok.1 = 9 then .inl (.error (1, tok.2.2.1)) else if lvO tok.1 = 3 ∧ (bdP 5 W o).1.head?.map rkO = some 4 then .inl (.error (1, tok.2.2.1)) else if 64 ≤ kc then .inl (.error (2, tok.2.2.1)) else .inr ((lxV B N tok.2.2.2, (bdP (r5 (lvO tok.1 + 1)) W o).2, kc + 1), tok.1 :: (bdP (r5 (lvO tok.1 + 1)) W o).1, br, true, decide (lvO tok.1 + 1 < 3))) := by
          unfold syS
          rw [if_neg (show ¬ (tok.1 = 24 ∧ false = false ∧ br = 0) from fun g => fin g), if_neg (show ¬ (false = true) from Bool.false_ne_true), if_neg (show ¬ (tok.1 = 26 ∧ 0 < br) from c26)]
        rw [S0]
        have A := m_signB (a := a) hn hH hR hj c26
        by_cases c9 : lvO tok.1 = 9
        · rw [if_pos c9]; exact er _ (A.1 c9)
        rw [if_neg c9]
        by_cases c3 : lvO tok.1 = 3 ∧ (bdP 5 W o).1.head?.map rkO = some 4
        · rw [if_pos c3]; exact er _ (A.2.1 c9 c3)
        rw [if_neg c3]
        by_cases c8 : 64 ≤ kc
        · rw [if_pos c8]; exact er _ (A.2.2.1 c9 c3 c8)
        · rw [if_neg c8]; exact st _ (A.2.2.2 c9 c3 c8).2 (A.2.2.2 c9 c3 c8).1
end Me9
