/-! ===== the class's calls that run days on a copy ===== -/
theorem bF {b : Bool} (h : ¬ b = true) : b = false := by cases b <;> first | rfl | exact absurd rfl h
def askV (T : zT) (y z : Int32) : Bool := if y = nI 0 then true else if y = nI 1 then true else if y = nI 2 then true else if y = nI 3 then inR z (T 0 2) else if y = nI 4 then inR z (T 0 1) else false
/-- ahead, if it is asked rightly -/
def aheadV (S S' : zD) (y z : Int32) : Int32 := if y = nI 0 then nI (pcV S'.2.2.2.1) else if y = nI 1 then S'.1 1 - S.1 1 else if y = nI 2 then S'.1 2 - S.1 2 else if y = nI 3 then nI (S'.2.2.1 0 z.toNatClampNeg) else S'.2.1 z.toNatClampNeg
/-- what is tried otherwise -/
def tryV (T : zT) (k : Nat) (z : Int32) : zO := if k = 0 then (2, true, decide (T 18 0 ≠ 0), T 0 6, m1, T 10) else if k = 1 then (1, false, decide (T 18 0 ≠ 0), T 0 6, m1, T 10) else if k = 2 then (1, true, decide (T 18 0 ≠ 0), T 0 6, z, T 10) else if k = 3 then (1, true, decide (T 18 0 ≠ 0), T 0 6, m1, fun _ => 9) else (1, true, false, 400, m1, T 10)
theorem tryV_w {T : zT} {k : Nat} {z : Int32} (hW : WT T) : wO T (tryV T k z) := by
  have h1 := hW.2.1
  have h2 : ∀ w, w < T 0 2 → T 10 w ≤ 9 := fun w hw => (hW.2.2.2.1 w hw).2.1
  unfold tryV
  split
  · exact ⟨by show (2 : Nat) ≤ 2; omega, h1.2.1, h1.2.2.1, h2⟩
  · split
    · exact ⟨by show (1 : Nat) ≤ 2; omega, h1.2.1, h1.2.2.1, h2⟩
    · split
      · exact ⟨by show (1 : Nat) ≤ 2; omega, h1.2.1, h1.2.2.1, h2⟩
      · split
        · exact ⟨by show (1 : Nat) ≤ 2; omega, h1.2.1, h1.2.2.1, fun w _ => by show (9 : Nat) ≤ 9; omega⟩
        · exact ⟨by show (1 : Nat) ≤ 2; omega, by show (1 : Nat) ≤ 400; omega, by show (400 : Nat) ≤ 400; omega, h2⟩
section Cu
variable {n t o p w : Nat} {s : zS} {A : zA}
theorem kp_512 {T : zT} {S : zD} (hW : WT T) (h : wD T S) : S.2.2.2.1 < 512 := Nat.lt_of_lt_of_le h.2.1 (Nat.le_trans (Nat.pow_le_pow_right (by decide) hW.1.2.1) (by decide))
theorem c_asked (hn : 239 ≤ n) (hK : cK s t A) (hA : wfA A) {y z : Int32} : fX10_isAsked n (mk s) 1 y z = some (nI (askV (aT A) y z).toNat, mk s) := by
  unfold fX10_isAsked askV
  by_cases h0 : y = nI 0
  · simp (disch := first | omega | assumption | (simp only [wL_1, wL_22, wI_2, wA_2, wQ_1, wQ_21] <;> first | assumption | omega)) only [LIT, LITm, nI_add, n_mul, fa_or, n_31m, n_shl0, n_le, n_lt, n_eq, Option.bind_some, B_K hn, h0, ↓reduceIte, Bool.toNat_true]
  · by_cases h1 : y = nI 1
    · simp (disch := first | omega | assumption | (simp only [wL_1, wL_22, wI_2, wA_2, wQ_1, wQ_21] <;> first | assumption | omega)) only [LIT, LITm, nI_add, n_mul, fa_or, n_31m, n_shl0, n_le, n_lt, n_eq, Option.bind_some, B_K hn, h1, Nat.reduceEqDiff, Nat.reduceLeDiff, ↓reduceIte, Bool.toNat_true]
    · by_cases h2 : y = nI 2
      · simp (disch := first | omega | assumption | (simp only [wL_1, wL_22, wI_2, wA_2, wQ_1, wQ_21] <;> first | assumption | omega)) only [LIT, LITm, nI_add, n_mul, fa_or, n_31m, n_shl0, n_le, n_lt, n_eq, Option.bind_some, B_K hn, h2, Nat.reduceEqDiff, Nat.reduceLeDiff, ↓reduceIte, Bool.toNat_true]
      · by_cases h3 : y = nI 3
        · simp (disch := first | omega | assumption | (simp only [wL_1, wL_22, wI_2, wA_2, wQ_1, wQ_21] <;> first | assumption | omega)) only [LIT, LITm, nI_add, n_mul, fa_or, n_31m, n_shl0, n_le, n_lt, n_eq, Option.bind_some, B_K hn, h3, Nat.reduceEqDiff, Nat.reduceLeDiff, ↓reduceIte, c_isWalker hn hK hA, gz_b]
        · by_cases h4 : y = nI 4
          · simp (disch := first | omega | assumption | (simp only [wL_1, wL_22, wI_2, wA_2, wQ_1, wQ_21] <;> first | assumption | omega)) only [LIT, LITm, nI_add, n_mul, fa_or, n_31m, n_shl0, n_le, n_lt, n_eq, Option.bind_some, B_K hn, h4, Nat.reduceEqDiff, Nat.reduceLeDiff, ↓reduceIte, c_isPath hn hK hA, gz_b]
          · simp (disch := first | omega | assumption | (simp only [wL_1, wL_22, wI_2, wA_2, wQ_1, wQ_21] <;> first | assumption | omega)) only [LIT, LITm, nI_add, n_mul, fa_or, n_31m, n_shl0, n_le, n_lt, n_eq, Option.bind_some, B_K hn, h0, h1, h2, h3, h4, ↓reduceIte, Bool.toNat_false]
theorem c_ahead (hn : 239 ≤ n) (hK : cK s t A) (hA : wfA A) {x y z : Int32} : ∃ s' : zS, fX10_ahead n (mk s) 1 x y z = some (if wiV 0 x 400 = true ∧ askV (aT A) y z = true then aheadV (aS A) (dyN (aT A) (O0 (aT A) 1) x.toNatClampNeg (aS A)) y z else m1, mk s') ∧ frS s s' := by
  have ht := cK_t hK
  have hW := hA.1
  have h0 := hW.1
  by_cases hx : wiV 0 x 400 = true
  · by_cases hy : askV (aT A) y z = true
    · rw [if_pos ⟨hx, hy⟩]
      obtain ⟨j, -, hj, rfl⟩ := wiV_t (by omega) (by omega) hx
      rw [cl_n (by omega)]
      obtain ⟨sa, ea, fa, hO, hS⟩ := c_ahead0 hn hK hA
      have hTa : cTd sa.1 t (aT A) := cTd_fr hK.2.2.1 (fun a h1 h2 => funext fun j => fa.1 a j (by unfold scr; omega))
      have pre : fX10_ahead n (mk s) 1 (nI j) y z = fX10_ahead_29 n bi_K (mk sa) 1 (nI j) y z (nI 0) := by
        unfold fX10_ahead
        simp (disch := first | omega | assumption | (simp only [wL_1, wL_22, wI_2, wA_2, wQ_1, wQ_21] <;> first | assumption | omega)) only [LIT, LITm, nI_add, n_mul, fa_or, n_31m, n_shl0, n_le, n_lt, n_eq, Option.bind_some, B_K hn, c_within, wiV_n, c_asked hn hK hA, hy, ea, Bool.toNat_true, Nat.reduceEqDiff, Nat.reduceLeDiff, not_false_eq_true, ↓reduceIte]
      rw [pre]
      refine lp_up (F := fun k (s1 : zS) i => fX10_ahead_29 n k (mk s1) 1 (nI j) y z (nI i)) (N := j) (P := fun i s1 => frD t 57 sa s1 ∧ cSd s1.1 57 (aT A) (dyN (aT A) (O0 (aT A) 1) i (aS A))) (Q := fun r => ∃ s' : zS, r = some (aheadV (aS A) (dyN (aT A) (O0 (aT A) 1) j (aS A)) y z, mk s') ∧ frS s s') ?_ ?_ j bi_K sa 0 (by omega) (by unfold bi_K; omega) ⟨frD_r, hS⟩
      · intro k sy i hi hP
        obtain ⟨f, hSy⟩ := hP
        left
        obtain ⟨sz, ez, fz, hz⟩ := c_pass hn ht is_57 hW (cTd_D ht is_57 f hTa) (cOd_D is_57 f hO) hSy (O0_w hW (by omega)) (dyN_w hW hA.2.1 i)
        refine ⟨sz, ?_, frD_t f fz, hz⟩
        simp (disch := first | omega | assumption | (simp only [wL_1, wL_22, wI_2, wA_2, wQ_1, wQ_21] <;> first | assumption | omega)) only [fX10_ahead_29, fX10_ahead_29b, LIT, LITm, nI_add, n_mul, fa_or, n_31m, n_shl0, n_le, n_lt, n_eq, Option.bind_some, B_K hn, ez, show ¬ j ≤ i by omega, ↓reduceIte]
      · intro k sy hP
        obtain ⟨f, hSy⟩ := hP
        refine ⟨sy, ?_, frS_t fa (frD_S ht f)⟩
        have hwd := dyN_w (O := O0 (aT A) 1) hW hA.2.1 j
        have hK5 := kp_512 hW hwd
        revert hSy hwd hK5
        generalize dyN (aT A) (O0 (aT A) 1) j (aS A) = S'
        intro hSy hwd hK5
        obtain ⟨⟨s1, s2, s3, s4, s5⟩, s6, s7⟩ := hSy
        have hN : cSd sy.1 52 (aT A) (aS A) := cSd_fr hK.2.2.2.1 (fun a h1 h2 => by rw [f.1 a (by omega)]; exact funext fun j => fa.1 a j (by unfold scr; omega))
        obtain ⟨⟨n1, n2, n3, n4, n5⟩, -, -⟩ := hN
        unfold aheadV
        unfold askV at hy
        by_cases h0 : y = nI 0
        · simp (disch := first | omega | assumption | (simp only [wL_1, wL_22, wI_2, wA_2, wQ_1, wQ_21] <;> first | assumption | omega)) only [fX10_ahead_29, fX10_ahead_29b, LIT, LITm, nI_add, n_mul, fa_or, n_31m, n_shl0, n_le, n_lt, n_eq, Option.bind_some, B_K hn, B_s hn is_57, s5, c_bitCount, h0, Nat.le_refl, ↓reduceIte]
        · by_cases h1 : y = nI 1
          · simp (disch := first | omega | assumption | (simp only [wL_1, wL_22, wI_2, wA_2, wQ_1, wQ_21] <;> first | assumption | omega)) only [fX10_ahead_29, fX10_ahead_29b, LIT, LITm, nI_add, n_mul, fa_or, n_31m, n_shl0, n_le, n_lt, n_eq, Option.bind_some, B_K hn, B_s hn is_57, B_s hn is_52, s3, n3, h1, Nat.reduceEqDiff, Nat.reduceLeDiff, Nat.le_refl, ↓reduceIte]
          · by_cases h2 : y = nI 2
            · simp (disch := first | omega | assumption | (simp only [wL_1, wL_22, wI_2, wA_2, wQ_1, wQ_21] <;> first | assumption | omega)) only [fX10_ahead_29, fX10_ahead_29b, LIT, LITm, nI_add, n_mul, fa_or, n_31m, n_shl0, n_le, n_lt, n_eq, Option.bind_some, B_K hn, B_s hn is_57, B_s hn is_52, s4, n4, h2, Nat.reduceEqDiff, Nat.reduceLeDiff, Nat.le_refl, ↓reduceIte]
            · rw [if_neg h0, if_neg h1, if_neg h2] at hy
              by_cases h3 : y = nI 3
              · rw [if_pos h3] at hy
                obtain ⟨w, hw, rfl⟩ := inR_t (by omega) hy
                have hw4 : w < 4 := by omega
                have q := (s7 w hw).1
                simp (disch := first | omega | assumption | (simp only [wL_1, wL_22, wI_2, wA_2, wQ_1, wQ_21] <;> first | assumption | omega)) only [fX10_ahead_29, fX10_ahead_29b, LIT, LITm, nI_add, n_mul, fa_or, n_31m, n_shl0, n_le, n_lt, n_eq, Option.bind_some, B_K hn, B_s hn is_57, q, h3, Nat.reduceEqDiff, Nat.reduceLeDiff, Nat.le_refl, ↓reduceIte, cl_n]
              · rw [if_neg h3] at hy
                by_cases h4 : y = nI 4
                · rw [if_pos h4] at hy
                  obtain ⟨p, hp, rfl⟩ := inR_t (by omega) hy
                  have hp9 : p < 9 := by omega
                  have q := (s6 p hp).1
                  simp (disch := first | omega | assumption | (simp only [wL_1, wL_22, wI_2, wA_2, wQ_1, wQ_21] <;> first | assumption | omega)) only [fX10_ahead_29, fX10_ahead_29b, LIT, LITm, nI_add, n_mul, fa_or, n_31m, n_shl0, n_le, n_lt, n_eq, Option.bind_some, B_K hn, B_s hn is_57, q, h4, Nat.reduceEqDiff, Nat.reduceLeDiff, Nat.le_refl, ↓reduceIte, cl_n]
                · rw [if_neg h4] at hy
                  cases hy
    · rw [if_neg (fun h => hy h.2)]
      refine ⟨s, ?_, frS_r⟩
      unfold fX10_ahead
      simp (disch := first | omega | assumption | (simp only [wL_1, wL_22, wI_2, wA_2, wQ_1, wQ_21] <;> first | assumption | omega)) only [LIT, LITm, nI_add, n_mul, fa_or, n_31m, n_shl0, n_le, n_lt, n_eq, Option.bind_some, B_K hn, c_within, hx, c_asked hn hK hA, bF hy, Bool.toNat_true, Bool.toNat_false, Nat.reduceEqDiff, Nat.reduceLeDiff, not_true_eq_false, ↓reduceIte]
  · rw [if_neg (fun h => hx h.1)]
    refine ⟨s, ?_, frS_r⟩
    unfold fX10_ahead
    simp (disch := first | omega | assumption | (simp only [wL_1, wL_22, wI_2, wA_2, wQ_1, wQ_21] <;> first | assumption | omega)) only [LIT, LITm, nI_add, n_mul, fa_or, n_31m, n_shl0, n_le, n_lt, n_eq, Option.bind_some, B_K hn, c_within, bF hx, Bool.toNat_false, ↓reduceIte]
/-- in how many days it is grass: from i on, within m -/
def lapV (T : zT) (S : zD) (p : Nat) : Nat → Nat → Int32
  | 0, i => if (dyN T (O0 T 1) i S).2.2.2.1.testBit p = true then m2 else nI i
  | m + 1, i => if (dyN T (O0 T 1) i S).2.2.2.1.testBit p = true then lapV T S p m (i + 1) else nI i
theorem dayV_0 {T : zT} {O : zO} {S : zD} : (dayV T O S).1 0 = S.1 0 + 1 := by
  have hw' : ∀ sn m (S : zD), (lpF (wkV T O sn) m S).1 0 = S.1 0 := fun sn m S => lpF_i (P := fun X : zD => X.1 0 = S.1 0) (m := m) (fun k X _ hX => by
    unfold wkV
    split
    · split
      · simp (disch := omega) only [upd_ne, hX]
      · split
        · simp (disch := omega) only [goV, upd_ne, hX]
        · simp (disch := omega) only [upd_ne, hX]
    · exact hX) rfl
  have hg : ∀ m (S : zD), (lpF (grV T O) m S).1 0 = S.1 0 := fun m S => lpF_i (P := fun X : zD => X.1 0 = S.1 0) (m := m) (fun k X _ hX => by
    unfold grV
    split
    · split <;> exact hX
    · exact hX) rfl
  have hl : ∀ m (S : zD), (lpF (lfV T) m S).1 0 = S.1 0 := fun m S => lpF_i (P := fun X : zD => X.1 0 = S.1 0) (m := m) (fun k X _ hX => hX) rfl
  obtain ⟨b, m, e⟩ : ∃ (b : Bool) (m : Nat), snV T O S.2.2.2.2 = (b, m) := ⟨_, _, pr_eta _⟩
  simp only [dayV, e, upd_at, hl, hg, hw']
theorem dyN_0 {T : zT} {O : zO} {S : zD} : ∀ k, (dyN T O k S).1 0 = S.1 0 + nI k
  | 0 => by
    show S.1 0 = S.1 0 + nI 0
    rw [show nI 0 = 0 from rfl, Int32.add_zero]
  | k + 1 => by
    show (dayV T O (dyN T O k S)).1 0 = _
    rw [dayV_0, dyN_0 k, Int32.add_assoc]
    congr 1
    exact nI_1 k
theorem c_lapse (hn : 239 ≤ n) (hK : cK s t A) (hA : wfA A) {x : Int32} : ∃ s' : zS, fX10_lapse n (mk s) 1 x = some (if inR x (aT A 0 1) = true then lapV (aT A) (aS A) x.toNatClampNeg 399 0 else m1, mk s') ∧ frS s s' := by
  have ht := cK_t hK
  have hW := hA.1
  have h0 := hW.1
  by_cases hx : inR x (aT A 0 1) = true
  · rw [if_pos hx]
    obtain ⟨p, hp, rfl⟩ := inR_t (by omega) hx
    rw [cl_n (by omega)]
    obtain ⟨sa, ea, fa, hO, hS⟩ := c_ahead0 hn hK hA
    have hTa : cTd sa.1 t (aT A) := cTd_fr hK.2.2.1 (fun a h1 h2 => funext fun j => fa.1 a j (by unfold scr; omega))
    have pre : fX10_lapse n (mk s) 1 (nI p) = fX10_lapse_16 n bi_K (mk sa) 1 (nI p) (nI 0) := by
      unfold fX10_lapse
      simp (disch := first | omega | assumption | (simp only [wL_1, wL_22, wI_2, wA_2, wQ_1, wQ_21] <;> first | assumption | omega)) only [LIT, LITm, nI_add, n_mul, fa_or, n_31m, n_shl0, n_le, n_lt, n_eq, Option.bind_some, B_K hn, c_isPath hn hK hA, hx, ea, Bool.toNat_true, Nat.reduceEqDiff, Nat.reduceLeDiff, not_false_eq_true, ↓reduceIte]
    rw [pre]
    obtain ⟨R, hR⟩ : ∃ R, R = lapV (aT A) (aS A) p 399 0 := ⟨_, rfl⟩
    rw [← hR]
    have last : ∀ (sy : zS) (i : Nat), frD t 57 sa sy → cSd sy.1 57 (aT A) (dyN (aT A) (O0 (aT A) 1) i (aS A)) → fX10_lapse_47 n (mk sy) 1 (nI p) = some (if (dyN (aT A) (O0 (aT A) 1) i (aS A)).2.2.2.1.testBit p = true then m2 else nI i, mk sy) := by
      intro sy i f hSy
      have hwd := dyN_w (O := O0 (aT A) 1) hW hA.2.1 i
      have K := c_isKept (p := p) hn is_57 hSy.1.2.2.2.2 (wD_k hW hwd) (by omega)
      have d1 := hSy.1.1
      rw [dyN_0] at d1
      have n1 : sy.1 52 0 = (aS A).1 0 := by
        rw [f.1 52 (by omega), fa.1 52 0 (by unfold scr; omega)]
        exact hK.2.2.2.1.1.1
      unfold fX10_lapse_47
      cases g : (dyN (aT A) (O0 (aT A) 1) i (aS A)).2.2.2.1.testBit p with
      | true =>
        rw [g] at K
        simp (disch := first | omega | assumption | (simp only [wL_1, wL_22, wI_2, wA_2, wQ_1, wQ_21] <;> first | assumption | omega)) only [LIT, LITm, nI_add, n_mul, fa_or, n_31m, n_shl0, n_le, n_lt, n_eq, Option.bind_some, B_K hn, K, Bool.toNat_true, Nat.reduceEqDiff, Nat.reduceLeDiff, ↓reduceIte]
      | false =>
        rw [g] at K
        simp (disch := first | omega | assumption | (simp only [wL_1, wL_22, wI_2, wA_2, wQ_1, wQ_21] <;> first | assumption | omega)) only [LIT, LITm, nI_add, n_mul, fa_or, n_31m, n_shl0, n_le, n_lt, n_eq, Option.bind_some, B_K hn, B_s hn is_57, B_s hn is_52, K, d1, n1, Bool.toNat_false, Bool.false_eq_true, ↓reduceIte]
        rw [Int32.add_comm, Int32.add_sub_cancel]
    refine lp_up (F := fun k (s1 : zS) i => fX10_lapse_16 n k (mk s1) 1 (nI p) (nI i)) (N := 399) (P := fun i s1 => frD t 57 sa s1 ∧ cSd s1.1 57 (aT A) (dyN (aT A) (O0 (aT A) 1) i (aS A)) ∧ R = lapV (aT A) (aS A) p (399 - i) i) (Q := fun r => ∃ s' : zS, r = some (R, mk s') ∧ frS s s') ?_ ?_ 399 bi_K sa 0 (by omega) (by unfold bi_K; omega) ⟨frD_r, hS, hR⟩
    · intro k sy i hi hP
      obtain ⟨f, hSy, hl⟩ := hP
      have hwd := dyN_w (O := O0 (aT A) 1) hW hA.2.1 i
      have K := c_isKept (p := p) hn is_57 hSy.1.2.2.2.2 (wD_k hW hwd) (by omega)
      have L := last sy i f hSy
      rw [show 399 - i = (399 - (i + 1)) + 1 by omega, lapV] at hl
      cases g : (dyN (aT A) (O0 (aT A) 1) i (aS A)).2.2.2.1.testBit p with
      | true =>
        rw [g] at K hl
        rw [if_pos rfl] at hl
        left
        obtain ⟨sz, ez, fz, hz⟩ := c_pass hn ht is_57 hW (cTd_D ht is_57 f hTa) (cOd_D is_57 f hO) hSy (O0_w hW (by omega)) hwd
        refine ⟨sz, ?_, frD_t f fz, hz, hl⟩
        simp (disch := first | omega | assumption | (simp only [wL_1, wL_22, wI_2, wA_2, wQ_1, wQ_21] <;> first | assumption | omega)) only [fX10_lapse_16, fX10_lapse_16b, LIT, LITm, nI_add, n_mul, fa_or, n_31m, n_shl0, n_le, n_lt, n_eq, Option.bind_some, B_K hn, K, ez, Bool.toNat_true, Nat.reduceEqDiff, Nat.reduceLeDiff, show ¬ 399 ≤ i by omega, ↓reduceIte]
      | false =>
        rw [g] at K L hl
        rw [if_neg (by decide)] at hl L
        right
        refine ⟨sy, ?_, frS_t fa (frD_S ht f)⟩
        rw [hl]
        simp (disch := first | omega | assumption | (simp only [wL_1, wL_22, wI_2, wA_2, wQ_1, wQ_21] <;> first | assumption | omega)) only [fX10_lapse_16, fX10_lapse_16b, LIT, LITm, nI_add, n_mul, fa_or, n_31m, n_shl0, n_le, n_lt, n_eq, Option.bind_some, B_K hn, K, L, Bool.toNat_false, show ¬ 399 ≤ i by omega, ↓reduceIte]
    · intro k sy hP
      obtain ⟨f, hSy, hl⟩ := hP
      have L := last sy 399 f hSy
      refine ⟨sy, ?_, frS_t fa (frD_S ht f)⟩
      rw [hl, Nat.sub_self, lapV]
      simp (disch := first | omega | assumption | (simp only [wL_1, wL_22, wI_2, wA_2, wQ_1, wQ_21] <;> first | assumption | omega)) only [fX10_lapse_16, fX10_lapse_16b, LIT, LITm, nI_add, n_mul, fa_or, n_31m, n_shl0, n_le, n_lt, n_eq, Option.bind_some, L, Nat.le_refl, ↓reduceIte]
  · rw [if_neg hx]
    refine ⟨s, ?_, frS_r⟩
    unfold fX10_lapse
    simp (disch := first | omega | assumption | (simp only [wL_1, wL_22, wI_2, wA_2, wQ_1, wQ_21] <;> first | assumption | omega)) only [LIT, LITm, nI_add, n_mul, fa_or, n_31m, n_shl0, n_le, n_lt, n_eq, Option.bind_some, B_K hn, c_isPath hn hK hA, bF hx, Bool.toNat_false, not_true_eq_false, ↓reduceIte]
theorem c_fill9 (hn : 239 ≤ n) : ∃ s' : zS, fJ7_fill_53178 n (mk s) 69 (nI 9) = some ((), mk s') ∧ (∀ a, a ≠ 69 → s'.1 a = s.1 a) ∧ s'.2 = s.2 ∧ ∀ w, w < 4 → s'.1 69 w = nI 9 := by
  unfold fJ7_fill_53178
  simp (disch := first | omega | assumption | (simp only [wL_1, wL_22, wI_2, wA_2, wQ_1, wQ_21] <;> first | assumption | omega)) only [LIT, LITm, nI_add, n_mul, fa_or, n_31m, n_shl0, n_le, n_lt, n_eq, Option.bind_some, B_dy hn]
  refine lp_up (F := fun k (s1 : zS) i => fJ7_fill_53178_5 n k (mk s1) 69 (nI 9) (nI i) (nI 4)) (N := 4) (P := fun i s1 => (∀ a, a ≠ 69 → s1.1 a = s.1 a) ∧ s1.2 = s.2 ∧ ∀ w, w < i → s1.1 69 w = nI 9) (Q := fun r => ∃ s' : zS, r = some ((), mk s') ∧ (∀ a, a ≠ 69 → s'.1 a = s.1 a) ∧ s'.2 = s.2 ∧ ∀ w, w < 4 → s'.1 69 w = nI 9) ?_ ?_ 4 bi_K s 0 (by omega) (by unfold bi_K; omega) ⟨fun _ _ => rfl, rfl, fun w h => by omega⟩
  · intro k sy i hi hP
    obtain ⟨f, g, h⟩ := hP
    left
    refine ⟨wI sy 69 i (nI 9), ?_, fun a ha => by rw [wI_ne ha]; exact f a ha, g, fun w hw => ?_⟩
    · simp (disch := first | omega | assumption | (simp only [wL_1, wL_22, wI_2, wA_2, wQ_1, wQ_21] <;> first | assumption | omega)) only [fJ7_fill_53178_5, fJ7_fill_53178_5b, LIT, LITm, nI_add, n_mul, fa_or, n_31m, n_shl0, n_le, n_lt, n_eq, Option.bind_some, B_dy hn, show ¬ 4 ≤ i by omega, ↓reduceIte]
    · by_cases e : w = i
      · subst e
        rw [wI_at, upd_at]
      · rw [wI_at, upd_ne e]
        exact h w (by omega)
  · intro k sy hP
    obtain ⟨f, g, h⟩ := hP
    refine ⟨sy, ?_, f, g, h⟩
    simp (disch := first | omega | assumption | (simp only [wL_1, wL_22, wI_2, wA_2, wQ_1, wQ_21] <;> first | assumption | omega)) only [fJ7_fill_53178_5, fJ7_fill_53178_5b, LIT, LITm, nI_add, n_mul, fa_or, n_31m, n_shl0, n_le, n_lt, n_eq, Option.bind_some, Nat.le_refl, ↓reduceIte]
theorem c_try (hn : 239 ≤ n) {T : zT} (hW : WT T) (hO : cOd s t o T (O0 T 1)) {k : Nat} (hk : k ≤ 4) {z : Int32} : ∃ s' : zS, fX0_tryOtherwise n (mk s) 68 (nI k) z = some ((), mk s') ∧ frB s s' ∧ cOd s' t o T (tryV T k z) := by
  obtain ⟨o1, o2, o3, o4, o5, o6, o7, o8⟩ := hO
  have h0 := hW.1
  unfold fX0_tryOtherwise
  rcases (by omega : k = 0 ∨ k = 1 ∨ k = 2 ∨ k = 3 ∨ k = 4) with rfl | rfl | rfl | rfl | rfl
  · refine ⟨wI s 68 2 (nI 2), ?_, ⟨fun a h1 _ => wI_ne h1, rfl, fun _ _ => rfl⟩, o1, o2, ?_, ?_, ?_, ?_, ?_, fun w hw => ?_⟩
    · simp (disch := first | omega | assumption | (simp only [wL_1, wL_22, wI_2, wA_2, wQ_1, wQ_21] <;> first | assumption | omega)) only [LIT, LITm, nI_add, n_mul, fa_or, n_31m, n_shl0, n_le, n_lt, n_eq, Option.bind_some, B_dy hn, Nat.reduceEqDiff, Nat.reduceLeDiff, ↓reduceIte]
    · simp (disch := omega) only [wI_at, upd_at]; rfl
    · simp (disch := omega) only [wI_at, upd_ne]; exact o4
    · simp (disch := omega) only [wI_at, upd_ne]; exact o5
    · simp (disch := omega) only [wI_at, upd_ne]; exact o6
    · simp (disch := omega) only [wI_at, upd_ne]; exact o7
    · simp (disch := omega) only [wI_ne]; exact o8 w hw
  · refine ⟨wI s 68 3 (nI 0), ?_, ⟨fun a h1 _ => wI_ne h1, rfl, fun _ _ => rfl⟩, o1, o2, ?_, ?_, ?_, ?_, ?_, fun w hw => ?_⟩
    · simp (disch := first | omega | assumption | (simp only [wL_1, wL_22, wI_2, wA_2, wQ_1, wQ_21] <;> first | assumption | omega)) only [LIT, LITm, nI_add, n_mul, fa_or, n_31m, n_shl0, n_le, n_lt, n_eq, Option.bind_some, B_dy hn, B_d3 hn, Nat.reduceEqDiff, Nat.reduceLeDiff, ↓reduceIte]
    · simp (disch := omega) only [wI_at, upd_ne]; exact o3
    · simp (disch := omega) only [wI_at, upd_at]; rfl
    · simp (disch := omega) only [wI_at, upd_ne]; exact o5
    · simp (disch := omega) only [wI_at, upd_ne]; exact o6
    · simp (disch := omega) only [wI_at, upd_ne]; exact o7
    · simp (disch := omega) only [wI_ne]; exact o8 w hw
  · refine ⟨wI s 68 6 z, ?_, ⟨fun a h1 _ => wI_ne h1, rfl, fun _ _ => rfl⟩, o1, o2, ?_, ?_, ?_, ?_, ?_, fun w hw => ?_⟩
    · simp (disch := first | omega | assumption | (simp only [wL_1, wL_22, wI_2, wA_2, wQ_1, wQ_21] <;> first | assumption | omega)) only [LIT, LITm, nI_add, n_mul, fa_or, n_31m, n_shl0, n_le, n_lt, n_eq, Option.bind_some, B_dy hn, Nat.reduceEqDiff, Nat.reduceLeDiff, ↓reduceIte]
    · simp (disch := omega) only [wI_at, upd_ne]; exact o3
    · simp (disch := omega) only [wI_at, upd_ne]; exact o4
    · simp (disch := omega) only [wI_at, upd_ne]; exact o5
    · simp (disch := omega) only [wI_at, upd_ne]; exact o6
    · simp (disch := omega) only [wI_at, upd_at]; rfl
    · simp (disch := omega) only [wI_ne]; exact o8 w hw
  · obtain ⟨sa, ea, f, g, h⟩ := c_fill9 (s := s) hn
    refine ⟨sa, ?_, ⟨fun a _ h2 => f a h2, by rw [g], fun a _ => by rw [g]⟩, by rw [g]; exact o1, by rw [g]; exact o2, ?_, ?_, ?_, ?_, ?_, fun w hw => ?_⟩
    · simp (disch := first | omega | assumption | (simp only [wL_1, wL_22, wI_2, wA_2, wQ_1, wQ_21] <;> first | assumption | omega)) only [LIT, LITm, nI_add, n_mul, fa_or, n_31m, n_shl0, n_le, n_lt, n_eq, Option.bind_some, B_dy hn, ea, Nat.reduceEqDiff, Nat.reduceLeDiff, ↓reduceIte]
    · rw [f 68 (by omega)]; exact o3
    · rw [f 68 (by omega)]; exact o4
    · rw [f 68 (by omega)]; exact o5
    · rw [f 68 (by omega)]; exact o6
    · rw [f 68 (by omega)]; exact o7
    · exact h w (by omega)
  · refine ⟨wI (wI s 68 4 (nI 0)) 68 5 (nI 400), ?_, ⟨fun a h1 _ => ?_, rfl, fun _ _ => rfl⟩, o1, o2, ?_, ?_, ?_, ?_, ?_, fun w hw => ?_⟩
    · simp (disch := first | omega | assumption | (simp only [wL_1, wL_22, wI_2, wA_2, wQ_1, wQ_21] <;> first | assumption | omega)) only [LIT, LITm, nI_add, n_mul, fa_or, n_31m, n_shl0, n_le, n_lt, n_eq, Option.bind_some, B_dy hn, B_d3 hn, Nat.reduceEqDiff, Nat.reduceLeDiff, ↓reduceIte]
    · simp (disch := omega) only [wI_ne]
    · simp (disch := omega) only [wI_at, upd_ne]; exact o3
    · simp (disch := omega) only [wI_at, upd_ne]; exact o4
    · simp (disch := omega) only [wI_at, upd_ne, upd_at]; rfl
    · simp (disch := omega) only [wI_at, upd_at]; rfl
    · simp (disch := omega) only [wI_at, upd_ne]; exact o7
    · simp (disch := omega) only [wI_ne]; exact o8 w hw
def triedOk (T : zT) (x y z : Int32) : Prop := wiV 0 x 4 = true ∧ wiV 0 z 400 = true ∧ ((x = nI 2 ∧ inR y (T 0 2) = true) ∨ (x ≠ nI 2 ∧ y = nI 0))
theorem c_tried (hn : 239 ≤ n) (hK : cK s t A) (hA : wfA A) {x y z : Int32} : (triedOk (aT A) x y z → ∃ s' : zS, fX10_tried n (mk s) 1 x y z = some (nI (pcV (dyN (aT A) (tryV (aT A) x.toNatClampNeg y) z.toNatClampNeg (aS A)).2.2.2.1), mk s') ∧ frS s s') ∧ (¬ triedOk (aT A) x y z → fX10_tried n (mk s) 1 x y z = some (m1, mk s)) := by
  have ht := cK_t hK
  have hW := hA.1
  have h0 := hW.1
  refine ⟨fun h => ?_, fun h => ?_⟩
  · obtain ⟨hx, hz, hy⟩ := h
    obtain ⟨k, -, hk, rfl⟩ := wiV_t (by omega) (by omega) hx
    obtain ⟨j, -, hj, rfl⟩ := wiV_t (by omega) (by omega) hz
    rw [cl_n (by omega), cl_n (by omega)]
    obtain ⟨sa, ea, fa, hO, hS⟩ := c_ahead0 hn hK hA
    obtain ⟨sb, eb, fb, hOb⟩ := c_try (z := y) hn hW hO hk
    have hTa : cTd sa.1 t (aT A) := cTd_fr hK.2.2.1 (fun a h1 h2 => funext fun j => fa.1 a j (by unfold scr; omega))
    have hTb : cTd sb.1 t (aT A) := cTd_fr hTa (fun a h1 h2 => fb.1 a (by omega) (by omega))
    have hSb : cSd sb.1 57 (aT A) (aS A) := cSd_fr hS (fun a h1 h2 => fb.1 a (by omega) (by omega))
    have fab := frS_t fa (frB_S fb)
    have p2 : fX10_tried_44 n (mk s) 1 (nI k) y (nI j) = fX10_tried_60 n bi_K (mk sb) 1 (nI j) (nI 0) := by
      unfold fX10_tried_44
      simp (disch := first | omega | assumption | (simp only [wL_1, wL_22, wI_2, wA_2, wQ_1, wQ_21] <;> first | assumption | omega)) only [LIT, LITm, nI_add, n_mul, fa_or, n_31m, n_shl0, n_le, n_lt, n_eq, Option.bind_some, B_K hn, ea, eb]
    have pre : fX10_tried n (mk s) 1 (nI k) y (nI j) = fX10_tried_60 n bi_K (mk sb) 1 (nI j) (nI 0) := by
      rw [← p2]
      unfold fX10_tried
      rcases hy with ⟨h2, hy⟩ | ⟨h2, rfl⟩
      · have h2' : k = 2 := (nI_eq (by omega) (by omega)).mp h2
        subst h2'
        simp (disch := first | omega | assumption | (simp only [wL_1, wL_22, wI_2, wA_2, wQ_1, wQ_21] <;> first | assumption | omega)) only [LIT, LITm, nI_add, n_mul, fa_or, n_31m, n_shl0, n_le, n_lt, n_eq, Option.bind_some, B_K hn, c_within, wiV_n, c_isWalker hn hK hA, hy, Bool.toNat_true, Nat.reduceEqDiff, Nat.reduceLeDiff, not_false_eq_true, not_true_eq_false, ↓reduceIte]
      · have h2' : ¬ k = 2 := fun e => h2 (by rw [e])
        simp (disch := first | omega | assumption | (simp only [wL_1, wL_22, wI_2, wA_2, wQ_1, wQ_21] <;> first | assumption | omega)) only [LIT, LITm, nI_add, n_mul, fa_or, n_31m, n_shl0, n_le, n_lt, n_eq, Option.bind_some, B_K hn, c_within, wiV_n, h2', Bool.toNat_true, Nat.reduceEqDiff, Nat.reduceLeDiff, not_false_eq_true, ↓reduceIte]
    rw [pre]
    refine lp_up (F := fun k (s1 : zS) i => fX10_tried_60 n k (mk s1) 1 (nI j) (nI i)) (N := j) (P := fun i s1 => frD t 57 sb s1 ∧ cSd s1.1 57 (aT A) (dyN (aT A) (tryV (aT A) k y) i (aS A))) (Q := fun r => ∃ s' : zS, r = some (nI (pcV (dyN (aT A) (tryV (aT A) k y) j (aS A)).2.2.2.1), mk s') ∧ frS s s') ?_ ?_ j bi_K sb 0 (by omega) (by unfold bi_K; omega) ⟨frD_r, hSb⟩
    · intro k' sy i hi hP
      obtain ⟨f, hSy⟩ := hP
      left
      obtain ⟨sz, ez, fz, hz⟩ := c_pass hn ht is_57 hW (cTd_D ht is_57 f hTb) (cOd_D is_57 f hOb) hSy (tryV_w hW) (dyN_w hW hA.2.1 i)
      refine ⟨sz, ?_, frD_t f fz, hz⟩
      simp (disch := first | omega | assumption | (simp only [wL_1, wL_22, wI_2, wA_2, wQ_1, wQ_21] <;> first | assumption | omega)) only [fX10_tried_60, fX10_tried_60b, LIT, LITm, nI_add, n_mul, fa_or, n_31m, n_shl0, n_le, n_lt, n_eq, Option.bind_some, B_K hn, ez, show ¬ j ≤ i by omega, ↓reduceIte]
    · intro k' sy hP
      obtain ⟨f, hSy⟩ := hP
      have hK5 := kp_512 hW (dyN_w (O := tryV (aT A) k y) hW hA.2.1 j)
      have s5 := hSy.1.2.2.2.2
      refine ⟨sy, ?_, frS_t fab (frD_S ht f)⟩
      simp (disch := first | omega | assumption | (simp only [wL_1, wL_22, wI_2, wA_2, wQ_1, wQ_21] <;> first | assumption | omega)) only [fX10_tried_60, fX10_tried_60b, LIT, LITm, nI_add, n_mul, fa_or, n_31m, n_shl0, n_le, n_lt, n_eq, Option.bind_some, B_K hn, B_s hn is_57, s5, c_bitCount, Nat.le_refl, ↓reduceIte]
  · unfold fX10_tried
    by_cases hx : wiV 0 x 4 = true
    · by_cases hz : wiV 0 z 400 = true
      · by_cases h2 : x = nI 2
        · have hy : ¬ inR y (aT A 0 2) = true := fun g => h ⟨hx, hz, Or.inl ⟨h2, g⟩⟩
          rw [h2] at hx
          simp (disch := first | omega | assumption | (simp only [wL_1, wL_22, wI_2, wA_2, wQ_1, wQ_21] <;> first | assumption | omega)) only [LIT, LITm, nI_add, n_mul, fa_or, n_31m, n_shl0, n_le, n_lt, n_eq, Option.bind_some, B_K hn, c_within, hx, hz, h2, c_isWalker hn hK hA, bF hy, Bool.toNat_true, Bool.toNat_false, Nat.reduceEqDiff, Nat.reduceLeDiff, not_false_eq_true, not_true_eq_false, ↓reduceIte]
        · have hy : ¬ y = nI 0 := fun g => h ⟨hx, hz, Or.inr ⟨h2, g⟩⟩
          simp (disch := first | omega | assumption | (simp only [wL_1, wL_22, wI_2, wA_2, wQ_1, wQ_21] <;> first | assumption | omega)) only [LIT, LITm, nI_add, n_mul, fa_or, n_31m, n_shl0, n_le, n_lt, n_eq, Option.bind_some, B_K hn, c_within, hx, hz, h2, hy, Bool.toNat_true, Nat.reduceEqDiff, Nat.reduceLeDiff, not_false_eq_true, ↓reduceIte]
      · simp (disch := first | omega | assumption | (simp only [wL_1, wL_22, wI_2, wA_2, wQ_1, wQ_21] <;> first | assumption | omega)) only [LIT, LITm, nI_add, n_mul, fa_or, n_31m, n_shl0, n_le, n_lt, n_eq, Option.bind_some, B_K hn, c_within, hx, bF hz, Bool.toNat_true, Bool.toNat_false, Nat.reduceEqDiff, Nat.reduceLeDiff, not_true_eq_false, ↓reduceIte]
    · simp (disch := first | omega | assumption | (simp only [wL_1, wL_22, wI_2, wA_2, wQ_1, wQ_21] <;> first | assumption | omega)) only [LIT, LITm, nI_add, n_mul, fa_or, n_31m, n_shl0, n_le, n_lt, n_eq, Option.bind_some, B_K hn, c_within, bF hx, Bool.toNat_false, ↓reduceIte]
/-- times drawn: from a number on, k of them -/
def chcV (T : zT) (S : zD) (j p : Nat) (a : Int32) : Nat → Nat × Nat → Nat × Nat
  | 0, q => q
  | k + 1, q => chcV T S j p a k (q.1 + (if (dyN T (O0 T 0) j (S.1, S.2.1, S.2.2.1, S.2.2.2.1, q.2)).2.1 p ≤ a then 1 else 0), (dyN T (O0 T 0) j (S.1, S.2.1, S.2.2.1, S.2.2.2.1, q.2)).2.2.2.2)
def chcOk (T : zT) (x y z a : Int32) : Prop := ¬ x < nI 0 ∧ wiV 1 y 99 = true ∧ inR z (T 0 1) = true ∧ wiV 0 a 999 = true
theorem c_chance (hn : 239 ≤ n) (hK : cK s t A) (hA : wfA A) {x y z a : Int32} : (chcOk (aT A) x y z a → ∃ s' : zS, fX10_chance n (mk s) 1 x y z a = some (nI (chcV (aT A) (aS A) y.toNatClampNeg z.toNatClampNeg a 10 (0, x.toNatClampNeg)).1, mk s') ∧ frS s s') ∧ (¬ chcOk (aT A) x y z a → fX10_chance n (mk s) 1 x y z a = some (m1, mk s)) := by
  have ht := cK_t hK
  have hW := hA.1
  have h0 := hW.1
  refine ⟨fun h => ?_, fun h => ?_⟩
  · obtain ⟨hx, hy, hz, ha⟩ := h
    obtain ⟨d, hd, rfl⟩ := nI_of (show ¬ x < 0 from hx)
    obtain ⟨j, hj1, hj, rfl⟩ := wiV_t (by omega) (by omega) hy
    obtain ⟨p, hp, rfl⟩ := inR_t (by omega) hz
    rw [cl_n hd, cl_n (by omega), cl_n (by omega)]
    have pre : fX10_chance n (mk s) 1 (nI d) (nI j) (nI p) a = fX10_chance_45 n bi_K (mk s) 1 (nI j) (nI p) a (nI 0) (nI d) (nI 0) := by
      unfold fX10_chance
      simp (disch := first | omega | assumption | (simp only [wL_1, wL_22, wI_2, wA_2, wQ_1, wQ_21] <;> first | assumption | omega)) only [LIT, LITm, nI_add, n_mul, fa_or, n_31m, n_shl0, n_le, n_lt, n_eq, Option.bind_some, B_K hn, c_within, wiV_n, c_isPath hn hK hA, hz, ha, Nat.not_lt_zero, Bool.toNat_true, Nat.reduceEqDiff, Nat.reduceLeDiff, not_false_eq_true, ↓reduceIte]
    rw [pre]
    obtain ⟨R, hR⟩ : ∃ R, R = chcV (aT A) (aS A) j p a 10 (0, d) := ⟨_, rfl⟩
    rw [← hR]
    refine lp_up (F := fun k (q : zS × Nat × Nat) i => fX10_chance_45 n k (mk q.1) 1 (nI j) (nI p) a (nI q.2.1) (nI q.2.2) (nI i)) (N := 10) (P := fun i q => frS s q.1 ∧ q.2.2 < 2147483648 ∧ R = chcV (aT A) (aS A) j p a (10 - i) q.2) (Q := fun r => ∃ s' : zS, r = some (nI R.1, mk s') ∧ frS s s') ?_ ?_ 10 bi_K (s, 0, d) 0 (by omega) (by unfold bi_K; omega) ⟨frS_r, hd, hR⟩
    · intro k q i hi hP
      obtain ⟨sy, c, m⟩ := q
      obtain ⟨f, hm, hr⟩ := hP
      simp only at f hm hr ⊢
      left
      have hKy := cK_S hK f
      have e3 := hKy.2.1
      obtain ⟨sa, ea, fa, hSa⟩ := c_copy hn is_57 is_52 (by omega) hW hKy.2.2.2.1
      have fb : frO 57 sa (wI sa 57 1 (nI m)) := ⟨fun a ha => wI_ne (by omega), rfl⟩
      have hSb : cSd (wI sa 57 1 (nI m)).1 57 (aT A) ((aS A).1, (aS A).2.1, (aS A).2.2.1, (aS A).2.2.2.1, m) := by
        obtain ⟨⟨s1, s2, s3, s4, s5⟩, s6, s7⟩ := hSa
        refine ⟨⟨?_, ?_, ?_, ?_, ?_⟩, fun q hq => ?_, fun v hv => ?_⟩
        · simp (disch := omega) only [wI_at, upd_ne, s1]
        · simp (disch := omega) only [wI_at, upd_at]
        · simp (disch := omega) only [wI_at, upd_ne, s3]
        · simp (disch := omega) only [wI_at, upd_ne, s4]
        · simp (disch := omega) only [wI_at, upd_ne, s5]
        · simp (disch := omega) only [wI_ne]
          exact s6 q hq
        · simp (disch := omega) only [wI_ne]
          exact s7 v hv
      have hDb : wD (aT A) ((aS A).1, (aS A).2.1, (aS A).2.2.1, (aS A).2.2.2.1, m) := ⟨hm, hA.2.1.2⟩
      have hTb : cTd (wI sa 57 1 (nI m)).1 t (aT A) := cTd_fr hKy.2.2.1 (fun a h1 h2 => by rw [fb.1 a (by omega), fa.1 a (by omega)])
      obtain ⟨sc, ec, fc, hOc⟩ := c_begin (b := 0) hn ht is_57 hW hTb
      have hSc : cSd sc.1 57 (aT A) ((aS A).1, (aS A).2.1, (aS A).2.2.1, (aS A).2.2.2.1, m) := cSd_fr hSb (fun a h1 h2 => fc.1 a (by omega) (by omega))
      have hTc : cTd sc.1 t (aT A) := cTd_fr hTb (fun a h1 h2 => fc.1 a (by omega) (by omega))
      have fS : frS s sc := frS_t f (frS_t (frD_S ht (frO_D fa)) (frS_t (frD_S ht (frO_D fb)) (frB_S fc)))
      have e3a : sa.2.2 1 3 = t := by rw [fa.2]; exact e3
      have st : fX10_chance_45 n (k + 1) (mk sy) 1 (nI j) (nI p) a (nI c) (nI m) (nI i) = fX10_chance_91 n (fX10_chance_45 n k) bi_K (mk sc) 1 (nI j) (nI p) a (nI c) (nI i) (nI 0) := by
        simp (disch := first | omega | assumption | (simp only [wL_1, wL_22, wI_2, wA_2, wQ_1, wQ_21] <;> first | assumption | omega)) only [fX10_chance_45, fX10_chance_45b, LIT, LITm, nI_add, n_mul, fa_or, n_31m, n_shl0, n_le, n_lt, n_eq, Option.bind_some, B_K hn, B_s hn is_57, ea, wI_2, e3a, ec, show ¬ 10 ≤ i by omega, ↓reduceIte]
      rw [st]
      rw [show 10 - i = (10 - (i + 1)) + 1 by omega, chcV] at hr
      simp only at hr
      revert hr
      generalize ((aS A).1, (aS A).2.1, (aS A).2.2.1, (aS A).2.2.2.1, m) = Sm at hSc hDb
      intro hr
      refine lp_up (F := fun k2 (s1 : zS) i2 => fX10_chance_91 n (fX10_chance_45 n k) k2 (mk s1) 1 (nI j) (nI p) a (nI c) (nI i) (nI i2)) (N := j) (P := fun i2 s1 => frD t 57 sc s1 ∧ cSd s1.1 57 (aT A) (dyN (aT A) (O0 (aT A) 0) i2 Sm)) (Q := fun r => ∃ q' : zS × Nat × Nat, r = fX10_chance_45 n k (mk q'.1) 1 (nI j) (nI p) a (nI q'.2.1) (nI q'.2.2) (nI (i + 1)) ∧ frS s q'.1 ∧ q'.2.2 < 2147483648 ∧ R = chcV (aT A) (aS A) j p a (10 - (i + 1)) q'.2) ?_ ?_ j bi_K sc 0 (by omega) (by unfold bi_K; omega) ⟨frD_r, hSc⟩
      · intro k2 sz i2 hi2 hP2
        obtain ⟨f2, hS2⟩ := hP2
        left
        obtain ⟨sw, ew, fw, hw⟩ := c_pass hn ht is_57 hW (cTd_D ht is_57 f2 hTc) (cOd_D is_57 f2 hOc) hS2 (O0_w hW (by omega)) (dyN_w hW hDb i2)
        refine ⟨sw, ?_, frD_t f2 fw, hw⟩
        simp (disch := first | omega | assumption | (simp only [wL_1, wL_22, wI_2, wA_2, wQ_1, wQ_21] <;> first | assumption | omega)) only [fX10_chance_91, fX10_chance_91b, LIT, LITm, nI_add, n_mul, fa_or, n_31m, n_shl0, n_le, n_lt, n_eq, Option.bind_some, B_K hn, ew, show ¬ j ≤ i2 by omega, ↓reduceIte]
      · intro k2 sz hP2
        obtain ⟨f2, hS2⟩ := hP2
        have hwd := dyN_w (O := O0 (aT A) 0) hW hDb j
        have q1 := hS2.1.2.1
        have q2 := (hS2.2.1 p hp).1
        have hp9 : p < 9 := by omega
        have lel : ∀ y : Int32, (a < y) = ¬ (y ≤ a) := fun y => propext ⟨fun h => by rw [fa_le]; rw [fa_lt] at h; omega, fun h => by rw [fa_lt]; rw [fa_le] at h; omega⟩
        by_cases g : (dyN (aT A) (O0 (aT A) 0) j Sm).2.1 p ≤ a
        · rw [if_pos g] at hr
          refine ⟨(sz, c + 1, (dyN (aT A) (O0 (aT A) 0) j Sm).2.2.2.2), ?_, frS_t fS (frD_S ht f2), hwd.1, hr⟩
          simp (disch := first | omega | assumption | (simp only [wL_1, wL_22, wI_2, wA_2, wQ_1, wQ_21] <;> first | assumption | omega)) only [fX10_chance_91, fX10_chance_91b, fX10_chance_136, LIT, LITm, nI_add, n_mul, fa_or, n_31m, n_shl0, n_le, n_lt, n_eq, Option.bind_some, B_K hn, B_s hn is_57, q1, q2, lel, g, Nat.le_refl, not_true_eq_false, ↓reduceIte]
        · rw [if_neg g] at hr
          refine ⟨(sz, c, (dyN (aT A) (O0 (aT A) 0) j Sm).2.2.2.2), ?_, frS_t fS (frD_S ht f2), hwd.1, hr⟩
          simp (disch := first | omega | assumption | (simp only [wL_1, wL_22, wI_2, wA_2, wQ_1, wQ_21] <;> first | assumption | omega)) only [fX10_chance_91, fX10_chance_91b, fX10_chance_136, LIT, LITm, nI_add, n_mul, fa_or, n_31m, n_shl0, n_le, n_lt, n_eq, Option.bind_some, B_K hn, B_s hn is_57, q1, q2, lel, g, Nat.le_refl, not_false_eq_true, ↓reduceIte]
    · intro k q hP
      obtain ⟨sy, c, m⟩ := q
      obtain ⟨f, hm, hr⟩ := hP
      simp only at f hm hr ⊢
      refine ⟨sy, ?_, f⟩
      rw [hr]
      simp (disch := first | omega | assumption | (simp only [wL_1, wL_22, wI_2, wA_2, wQ_1, wQ_21] <;> first | assumption | omega)) only [fX10_chance_45, fX10_chance_45b, LIT, LITm, nI_add, n_mul, fa_or, n_31m, n_shl0, n_le, n_lt, n_eq, Option.bind_some, Nat.le_refl, ↓reduceIte, Nat.sub_self, chcV]
  · unfold fX10_chance
    by_cases hx : x < nI 0
    · simp (disch := first | omega | assumption | (simp only [wL_1, wL_22, wI_2, wA_2, wQ_1, wQ_21] <;> first | assumption | omega)) only [LIT, LITm, nI_add, n_mul, fa_or, n_31m, n_shl0, n_le, n_lt, n_eq, Option.bind_some, B_K hn, hx, ↓reduceIte]
    · by_cases hy : wiV 1 y 99 = true
      · by_cases hz : inR z (aT A 0 1) = true
        · have ha : ¬ wiV 0 a 999 = true := fun g => h ⟨hx, hy, hz, g⟩
          simp (disch := first | omega | assumption | (simp only [wL_1, wL_22, wI_2, wA_2, wQ_1, wQ_21] <;> first | assumption | omega)) only [LIT, LITm, nI_add, n_mul, fa_or, n_31m, n_shl0, n_le, n_lt, n_eq, Option.bind_some, B_K hn, hx, c_within, hy, c_isPath hn hK hA, hz, bF ha, Bool.toNat_true, Bool.toNat_false, Nat.reduceEqDiff, Nat.reduceLeDiff, not_true_eq_false, ↓reduceIte]
        · simp (disch := first | omega | assumption | (simp only [wL_1, wL_22, wI_2, wA_2, wQ_1, wQ_21] <;> first | assumption | omega)) only [LIT, LITm, nI_add, n_mul, fa_or, n_31m, n_shl0, n_le, n_lt, n_eq, Option.bind_some, B_K hn, hx, c_within, hy, c_isPath hn hK hA, bF hz, Bool.toNat_true, Bool.toNat_false, Nat.reduceEqDiff, Nat.reduceLeDiff, ↓reduceIte]
      · simp (disch := first | omega | assumption | (simp only [wL_1, wL_22, wI_2, wA_2, wQ_1, wQ_21] <;> first | assumption | omega)) only [LIT, LITm, nI_add, n_mul, fa_or, n_31m, n_shl0, n_le, n_lt, n_eq, Option.bind_some, B_K hn, hx, c_within, bF hy, Bool.toNat_false, ↓reduceIte]
end Cu
