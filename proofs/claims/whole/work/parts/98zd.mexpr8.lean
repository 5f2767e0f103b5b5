/-! ===== expressions on the reference: a sign, whatever waits ===== -/
section Md8
variable {n N k a r : Nat} {B : Nat → Nat} {s s' s1 s2 : zS} {q : zQ} {y : zY} {W : List Nat} {o : List (Nat × Nat)} {kc br : Nat} {wa may : Bool} {tok : zK}
theorem jY_op (hj : jY a ((tok, o, kc), W, br, false, may)) (hv : lvO tok.1 ≠ 9) (h38 : tok.1 ≤ 38) (h64 : ¬ 64 ≤ kc) {tok' : zK} {m2 : Bool} : jY a ((tok', o, kc + 1), tok.1 :: W, br, true, m2) := by
  obtain ⟨j1, j2, j3, j4, j5, j6, j7⟩ := hj
  have j2 : (hdK a o).length + 0 = bnW W + 1 := j2
  have j4 : o.length + nnW W = kc := j4
  have j6 : W.length = nnW W + br := j6
  have n14 : tok.1 ≠ 14 := fun g => hv (by rw [g]; rfl)
  have n25 : tok.1 ≠ 25 := fun g => hv (by rw [g]; rfl)
  have bn : bnW (tok.1 :: W) = 1 + bnW W := by show (if tok.1 = 14 ∨ tok.1 = 25 then 0 else 1) + bnW W = _; rw [if_neg (by omega)]
  have nn : nnW (tok.1 :: W) = 1 + nnW W := by show (if tok.1 = 25 then 0 else 1) + nnW W = _; rw [if_neg n25]
  refine ⟨?_, ?_, j3, ?_, ?_, ?_, j7⟩
  · intro h hh
    rcases List.mem_cons.1 hh with e | e
    · rw [e]; exact ⟨Or.inr (Or.inr hv), h38⟩
    · exact j1 h e
  · show (hdK a o).length + 1 = bnW (tok.1 :: W) + 1
    omega
  · show o.length + nnW (tok.1 :: W) = kc + 1
    omega
  · show kc + 1 ≤ 64
    omega
  · show W.length + 1 = nnW (tok.1 :: W) + br
    omega
theorem m_signB (hn : 239 ≤ n) (hH : mHd B N s tok) (hR : mR a s o kc W br false may) (hj : jY a ((tok, o, kc), W, br, false, may)) (h26 : ¬ (tok.1 = 26 ∧ 0 < br)) :
    (lvO tok.1 = 9 → erM a s (fX11_signs n (mk s) 187) (1, tok.2.2.1)) ∧
    (lvO tok.1 ≠ 9 → (lvO tok.1 = 3 ∧ (bdP 5 W o).1.head?.map rkO = some 4) → erM a s (fX11_signs n (mk s) 187) (1, tok.2.2.1)) ∧
    (lvO tok.1 ≠ 9 → ¬ (lvO tok.1 = 3 ∧ (bdP 5 W o).1.head?.map rkO = some 4) → 64 ≤ kc → erM a s (fX11_signs n (mk s) 187) (2, tok.2.2.1)) ∧
    (lvO tok.1 ≠ 9 → ¬ (lvO tok.1 = 3 ∧ (bdP 5 W o).1.head?.map rkO = some 4) → ¬ 64 ≤ kc → stM B N a s (fX11_signs n (mk s) 187) ((lxV B N tok.2.2.2, (bdP (r5 (lvO tok.1 + 1)) W o).2, kc + 1), tok.1 :: (bdP (r5 (lvO tok.1 + 1)) W o).1, br, true, decide (lvO tok.1 + 1 < 3)) ∧ jY a ((lxV B N tok.2.2.2, (bdP (r5 (lvO tok.1 + 1)) W o).2, kc + 1), tok.1 :: (bdP (r5 (lvO tok.1 + 1)) W o).1, br, true, decide (lvO tok.1 + 1 < 3))) := by
  have z38 : tok.1 ≤ 38 := hH.2.2.1
  have sg : fX11_isSign n (mk s) 187 (41 : Int32) = some (nI (decide (tok.1 = 26)).toNat, mk s) := m_isSign (n := n) (k := 26) (q := (tok, o, kc)) hn hH.2.1 hH.2.2.1 (by decide) (by omega)
  have p53 : pI n (mk s) 187 11 53 = some (s.1 187 53) := by simp only [B_m hn]
  have s47 := m_s47 (n := n) (s := s) hn hH.2.1 z38 hH.2.2.2.1
  have h5 : s.1 187 53 = nI br := hR.1.2.2.2.2.1
  have e1 : fX11_signs n (mk s) 187 = fX11_signs_147 n (mk s) 187 (if lvO tok.1 = 9 then nI 0 else nI (wcd tok.1)) := by
    rw [← s47]
    unfold fX11_signs
    rw [(B_m hn).1, Option.bind_some, sg, Option.bind_some]
    by_cases c : tok.1 = 26
    · have b0 : br = 0 := by
        apply Decidable.byContradiction
        intro g
        exact h26 ⟨c, by omega⟩
      rw [decide_eq_true c, if_neg (show ¬ nI (true.toNat) = (0 : Int32) by decide), p53, Option.bind_some, h5, b0, if_pos (show nI 0 ≤ (0 : Int32) by decide)]
    · rw [decide_eq_false c, if_pos (show nI (false.toNat) = (0 : Int32) from rfl)]
  rw [e1]
  refine ⟨fun h9 => ?_, ?_⟩
  · rw [if_pos h9]
    unfold fX11_signs_147
    rw [if_neg (show ¬ ¬ nI 0 = (0 : Int32) from fun g => g rfl)]
    exact m_wr (k := 1) hn hH
  have rest : lvO tok.1 ≠ 9 → ∃ s1, frBd a s s1 ∧ mR a s1 (bdP (r5 (lvO tok.1 + 1)) W o).2 kc (bdP (r5 (lvO tok.1 + 1)) W o).1 br false may ∧ jY a ((tok, (bdP (r5 (lvO tok.1 + 1)) W o).2, kc), (bdP (r5 (lvO tok.1 + 1)) W o).1, br, false, may) ∧ ((lvO tok.1 = 3 ∧ (bdP 5 W o).1.head?.map rkO = some 4) → fX11_signs_147 n (mk s) 187 (nI (wcd tok.1)) = (fX11_wrong n (mk s1) 187 (nI 1)).bind fun q => (gZ q.1).bind fun _ => some (q.1, q.2)) ∧ (¬ (lvO tok.1 = 3 ∧ (bdP 5 W o).1.head?.map rkO = some 4) → fX11_signs_147 n (mk s) 187 (nI (wcd tok.1)) = fX11_signs_217 n (mk s1) 187 (nI (wcd tok.1))) := by
    intro h9
    have lc := lvO_c tok.1
    have ro := rkO_o h9
    have r5l : 1 ≤ r5 (lvO tok.1 + 1) ∧ r5 (lvO tok.1 + 1) < 100 := by
      unfold r5
      split <;> omega
    obtain ⟨s1, b1, b2, b3, b4⟩ := m_bindY (a := a) (tok := tok) hn r5l.1 r5l.2 hR hj
    have rk := m_rank (n := n) (s := s) (Or.inr (Or.inr h9)) z38
    have rk1 := m_rank (n := n) (s := s1) (Or.inr (Or.inr h9)) z38
    have wn : ¬ nI (wcd tok.1) = (0 : Int32) := by
      have tab : ∀ k : Fin 39, lvO k.1 ≠ 9 → ¬ nI (wcd k.1) = (0 : Int32) := by decide +kernel
      exact tab ⟨tok.1, by omega⟩ h9
    have p51 : pI n (mk s1) 187 11 51 = some (s1.1 187 51) := by simp only [B_m hn]
    have r49 : pR n (mk s1) 187 11 49 = some 215 := by simp only [B_m hn]
    have g212 : ∀ (j : Nat), j < 96 → gX 1 n (mk s1) 215 (nI j) = some (s1.1 215 j) := fun j hj => by simp (disch := omega) only [B_mb hn]
    have e2 : fX11_signs_147 n (mk s) 187 (nI (wcd tok.1)) = fX11_signs_175 n (mk s) 187 (nI (wcd tok.1)) (nI (r5 (lvO tok.1 + 1))) 187 := by
      unfold fX11_signs_147
      rw [if_pos wn, rk, Option.bind_some, ro]
      by_cases c3 : lvO tok.1 = 3
      · rw [c3, if_neg (show ¬ ¬ nI (3 + 1) = (4 : Int32) from fun g => g rfl)]
        rfl
      · rw [if_pos (show ¬ nI (lvO tok.1 + 1) = (4 : Int32) by
          show ¬ nI (lvO tok.1 + 1) = nI 4
          rw [n_eq (by omega) (by omega)]; omega), rk, Option.bind_some, ro]
        have : r5 (lvO tok.1 + 1) = lvO tok.1 + 1 := by unfold r5; rw [if_neg (by omega)]
        rw [this]
    refine ⟨s1, b2, b3, b4, fun g => ?_, fun g => ?_⟩
    · obtain ⟨g1, g2⟩ := g
      rw [e2]
      unfold fX11_signs_175
      rw [b1, Option.bind_some, rk1, Option.bind_some, ro, g1, if_neg (show ¬ ¬ nI (3 + 1) = (4 : Int32) from fun g => g rfl), p51, Option.bind_some]
      rw [g1] at b3 b4
      have b3 : mR a s1 (bdP 5 W o).2 kc (bdP 5 W o).1 br false may := b3
      have b4 : jY a ((tok, (bdP 5 W o).2, kc), (bdP 5 W o).1, br, false, may) := b4
      cases hq : (bdP 5 W o).1 with
      | nil => rw [hq] at g2; cases g2
      | cons h t =>
        rw [hq] at g2 b3 b4
        have g3 : rkO h = 4 := Option.some.inj g2
        have l51 : s1.1 187 51 = nI (t.length + 1) := b3.1.2.2.1
        have wh : s1.1 215 t.length = nI (wcd h) := b3.2.1.1
        have j6 : t.length + 1 = nnW (h :: t) + br := b4.2.2.2.2.2.1
        have j4 : (bdP 5 W o).2.length + nnW (h :: t) = kc := b4.2.2.2.1
        have j5 : kc ≤ 64 := b4.2.2.2.2.1
        have j7 : br ≤ 8 := b4.2.2.2.2.2.2
        obtain ⟨ok, o38⟩ := b4.1 h (List.mem_cons_self ..)
        have rkh := m_rank (n := n) (s := s1) ok o38
        rw [l51, if_neg (show ¬ nI (t.length + 1) ≤ (0 : Int32) by
          show ¬ nI (t.length + 1) ≤ nI 0
          rw [n_le (by omega) (by omega)]; omega), r49, Option.bind_some, Option.bind_some, sub1, g212 _ (by omega), Option.bind_some, wh, rkh, Option.bind_some, g3, if_neg (show ¬ ¬ nI 4 = (4 : Int32) from fun g => g rfl)]
        rfl
    · rw [e2]
      unfold fX11_signs_175
      rw [b1, Option.bind_some, rk1, Option.bind_some, ro]
      by_cases c3 : lvO tok.1 = 3
      · rw [c3, if_neg (show ¬ ¬ nI (3 + 1) = (4 : Int32) from fun g => g rfl), p51, Option.bind_some]
        rw [c3] at b3 b4
        have b3 : mR a s1 (bdP 5 W o).2 kc (bdP 5 W o).1 br false may := b3
        have b4 : jY a ((tok, (bdP 5 W o).2, kc), (bdP 5 W o).1, br, false, may) := b4
        cases hq : (bdP 5 W o).1 with
        | nil =>
          rw [hq] at b3
          have l51 : s1.1 187 51 = nI 0 := b3.1.2.2.1
          rw [l51, if_pos (show nI 0 ≤ (0 : Int32) by decide)]
        | cons h t =>
          rw [hq] at g b3 b4
          have g3 : rkO h ≠ 4 := fun e => g ⟨c3, congrArg some e⟩
          have l51 : s1.1 187 51 = nI (t.length + 1) := b3.1.2.2.1
          have wh : s1.1 215 t.length = nI (wcd h) := b3.2.1.1
          have j6 : t.length + 1 = nnW (h :: t) + br := b4.2.2.2.2.2.1
          have j4 : (bdP 5 W o).2.length + nnW (h :: t) = kc := b4.2.2.2.1
          have j5 : kc ≤ 64 := b4.2.2.2.2.1
          have j7 : br ≤ 8 := b4.2.2.2.2.2.2
          obtain ⟨ok, o38⟩ := b4.1 h (List.mem_cons_self ..)
          have rkh := m_rank (n := n) (s := s1) ok o38
          have rk7 : ∀ k : Fin 39, rkO k.1 < 11 := by decide
          have rk7 : rkO h < 11 := rk7 ⟨h, by omega⟩
          rw [l51, if_neg (show ¬ nI (t.length + 1) ≤ (0 : Int32) by
            show ¬ nI (t.length + 1) ≤ nI 0
            rw [n_le (by omega) (by omega)]; omega), r49, Option.bind_some, Option.bind_some, sub1, g212 _ (by omega), Option.bind_some, wh, rkh, Option.bind_some, if_pos (show ¬ nI (rkO h) = (4 : Int32) by
            show ¬ nI (rkO h) = nI 4
            rw [n_eq (by omega) (by omega)]; exact g3)]
      · rw [if_pos (show ¬ nI (lvO tok.1 + 1) = (4 : Int32) by
          show ¬ nI (lvO tok.1 + 1) = nI 4
          rw [n_eq (by omega) (by omega)]; omega)]
  have j5 : kc ≤ 64 := hj.2.2.2.2.1
  refine ⟨fun h9 g => ?_, fun h9 g g6 => ?_, fun h9 g g6 => ?_⟩
  · rw [if_neg h9]
    obtain ⟨s1, b2, b3, b4, b5, _⟩ := rest h9
    rw [b5 g]
    exact erM_t (frBd_E b2) (m_wr (k := 1) hn (mHd_B hH b2))
  · rw [if_neg h9]
    obtain ⟨s1, b2, b3, b4, _, b6⟩ := rest h9
    rw [b6 g]
    have j6 := b4.2.2.2.2.2.1
    have j4 := b4.2.2.2.1
    have j7 := b4.2.2.2.2.2.2
    have l96 : (bdP (r5 (lvO tok.1 + 1)) W o).1.length < 96 := by
      have j6 : (bdP (r5 (lvO tok.1 + 1)) W o).1.length = nnW (bdP (r5 (lvO tok.1 + 1)) W o).1 + br := j6
      have j4 : (bdP (r5 (lvO tok.1 + 1)) W o).2.length + nnW (bdP (r5 (lvO tok.1 + 1)) W o).1 = kc := j4
      have j7 : br ≤ 8 := j7
      omega
    exact erM_t (frBd_E b2) ((m_s217 hn (mHd_B hH b2) b3 l96 j5 h9).1 g6)
  · rw [if_neg h9]
    obtain ⟨s1, b2, b3, b4, _, b6⟩ := rest h9
    rw [b6 g]
    have l96 : (bdP (r5 (lvO tok.1 + 1)) W o).1.length < 96 := by
      have j6 : (bdP (r5 (lvO tok.1 + 1)) W o).1.length = nnW (bdP (r5 (lvO tok.1 + 1)) W o).1 + br := b4.2.2.2.2.2.1
      have j4 : (bdP (r5 (lvO tok.1 + 1)) W o).2.length + nnW (bdP (r5 (lvO tok.1 + 1)) W o).1 = kc := b4.2.2.2.1
      have j7 : br ≤ 8 := b4.2.2.2.2.2.2
      omega
    obtain ⟨s', d1, d2, d3⟩ := (m_s217 hn (mHd_B hH b2) b3 l96 j5 h9).2 g6
    exact ⟨⟨s', d1, frE2_t (frBd_E b2) d2, d3⟩, jY_op b4 h9 z38 g6⟩
end Md8
