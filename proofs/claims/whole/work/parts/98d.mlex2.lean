/-! ===== the text's tokens: the reference, all of them ===== -/
section Mx2
variable {n N i j e k v kd pl : Nat} {s : zS} {B D : Nat → Nat}
theorem m_sign (hn : 239 ≤ n) (hT : mtT s B N) (hi : s.1 187 7 = nI i) (hN : i < N) (hl : ¬ ltB (B i) = true) (hd : ¬ dtB (B i) = true) : ∃ s' : zS, fX11_signToken n (mk s) 187 = some ((), mk s') ∧ frR s s' ∧ s'.1 187 10 = s.1 187 10 ∧ tkR (s'.1 187 8) (s'.1 187 9) (sgV B N i).1 0 ∧ s'.1 187 7 = nI (sgV B N i).2 := by
  obtain ⟨t1, t2, t3, t4, t5⟩ := hT
  have b := t3 i hN
  have b5 := t4 i
  obtain ⟨s1, es1⟩ : ∃ s1 : zS, s1 = wI (wI s 187 9 (nI (B i))) 187 7 (nI (i + 1)) := ⟨_, rfl⟩
  have f1 : frR s s1 := by rw [es1]; exact frR_t (frR_w (by omega)) (frR_w (by omega))
  have c7 : s1.1 187 7 = nI (i + 1) := by rw [es1, wI_at, upd_at]
  have c9 : s1.1 187 9 = nI (B i) := by rw [es1, wI_at, upd_ne (by omega), wI_at, upd_at]
  have c10 : s1.1 187 10 = s.1 187 10 := by rw [es1, wI_at, upd_ne (by omega), wI_at, upd_ne (by omega)]
  have c6 : s1.1 187 6 = nI N := by rw [f1.2.2 6 (by omega) (by omega) (by omega) (by omega)]; exact t1
  have st : fX11_signToken n (mk s) 187 = (if B i = 60 ∨ B i = 62 ∨ B i = 61 then fX11_signToken_50 n (mk s1) 187 else fX11_signToken_275 n (mk s1) 187 (nI (decide (B i = 59 ∨ B i = 40 ∨ B i = 41 ∨ B i = 43 ∨ B i = 45 ∨ B i = 42 ∨ B i = 47 ∨ B i = 37)).toNat)) := by
    have w1 : sF n (mk s) 187 11 9 .int (.int (nI (B i))) = some (mk (wI s 187 9 (nI (B i)))) := by simp only [B_m hn]
    have w2 : sF n (mk (wI s 187 9 (nI (B i)))) 187 11 7 .int (.int (nI i + 1)) = some (mk s1) := by
      rw [show (1 : Int32) = nI 1 from rfl, nI_add, es1]
      simp only [B_m hn]
    have g9 : pI n (mk s1) 187 11 9 = some (nI (B i)) := by simp only [B_m hn, c9]
    have ce : ∀ k, k < 256 → (nI (B i) = nI k) = (B i = k) := fun k hk => n_eq (by omega) (by omega)
    unfold fX11_signToken fX11_signToken_270
    rw [bnd_s (v := ()) (by simp only [B_m hn]), bnd_s (v := 188) (by simp only [B_m hn]), bnd_s (v := nI i) (by simp only [B_m hn, hi]), bnd_s (v := nI (B i)) (by rw [← b]; simp (disch := omega) only [B_ma hn]), bnd_s w1, bnd_s (v := nI i) (by simp (disch := omega) only [B_m hn, wI_at, upd_ne, hi]), bnd_s w2, bnd_s g9]
    simp only [bnd_s g9]
    rw [show (60 : Int32) = nI 60 from rfl, show (61 : Int32) = nI 61 from rfl, show (62 : Int32) = nI 62 from rfl, show (59 : Int32) = nI 59 from rfl, show (40 : Int32) = nI 40 from rfl, show (41 : Int32) = nI 41 from rfl, show (43 : Int32) = nI 43 from rfl, show (45 : Int32) = nI 45 from rfl, show (42 : Int32) = nI 42 from rfl, show (47 : Int32) = nI 47 from rfl, show (37 : Int32) = nI 37 from rfl]
    by_cases g : B i = 60
    · rw [if_pos (by rw [ce 60 (by omega)]; exact g), if_pos (Or.inl g)]
    rw [if_neg (by rw [ce 60 (by omega)]; exact g)]
    by_cases g2 : B i = 62
    · rw [if_pos (by rw [ce 62 (by omega)]; exact g2), if_pos (Or.inr (Or.inl g2))]
    rw [if_neg (by rw [ce 62 (by omega)]; exact g2)]
    by_cases g3 : B i = 61
    · rw [if_neg (show ¬ ¬ nI (B i) = nI 61 by rw [ce 61 (by omega)]; exact fun h => h g3), if_pos (Or.inr (Or.inr g3))]
    rw [if_pos (show ¬ nI (B i) = nI 61 by rw [ce 61 (by omega)]; exact g3), if_neg (show ¬ (B i = 60 ∨ B i = 62 ∨ B i = 61) by omega)]
    by_cases q1 : B i = 59
    · rw [if_pos (by rw [ce 59 (by omega)]; exact q1), decide_eq_true (Or.inl q1)]; rfl
    rw [if_neg (by rw [ce 59 (by omega)]; exact q1)]
    by_cases q2 : B i = 40
    · rw [if_pos (by rw [ce 40 (by omega)]; exact q2), decide_eq_true (by omega)]; rfl
    rw [if_neg (by rw [ce 40 (by omega)]; exact q2)]
    by_cases q3 : B i = 41
    · rw [if_pos (by rw [ce 41 (by omega)]; exact q3), decide_eq_true (by omega)]; rfl
    rw [if_neg (by rw [ce 41 (by omega)]; exact q3)]
    by_cases q4 : B i = 43
    · rw [if_pos (by rw [ce 43 (by omega)]; exact q4), decide_eq_true (by omega)]; rfl
    rw [if_neg (by rw [ce 43 (by omega)]; exact q4)]
    by_cases q5 : B i = 45
    · rw [if_pos (by rw [ce 45 (by omega)]; exact q5), decide_eq_true (by omega)]; rfl
    rw [if_neg (by rw [ce 45 (by omega)]; exact q5)]
    by_cases q6 : B i = 42
    · rw [if_pos (by rw [ce 42 (by omega)]; exact q6), decide_eq_true (by omega)]; rfl
    rw [if_neg (by rw [ce 42 (by omega)]; exact q6)]
    by_cases q7 : B i = 47
    · rw [if_pos (by rw [ce 47 (by omega)]; exact q7), decide_eq_true (by omega)]; rfl
    rw [if_neg (by rw [ce 47 (by omega)]; exact q7)]
    by_cases q8 : B i = 37
    · rw [if_neg (show ¬ ¬ nI (B i) = nI 37 by rw [ce 37 (by omega)]; exact fun h => h q8), decide_eq_true (by omega)]; rfl
    rw [if_pos (show ¬ nI (B i) = nI 37 by rw [ce 37 (by omega)]; exact q8), decide_eq_false (by omega)]; rfl
  rw [st]
  have fr8 : ∀ K : Nat, frR s (wI s1 187 8 (nI K)) ∧ (wI s1 187 8 (nI K)).1 187 10 = s.1 187 10 ∧ (wI s1 187 8 (nI K)).1 187 7 = nI (i + 1) := fun K => ⟨frR_t f1 (frR_w (by omega)), by rw [wI_at, upd_ne (by omega)]; exact c10, by rw [wI_at, upd_ne (by omega)]; exact c7⟩
  have t4' : ∀ kk, sgV B N i = (kk, i + 1) → tkR (nI 4) (nI (B i)) kk 0 → ∃ s' : zS, fX11_signToken_275 n (mk s1) 187 (nI true.toNat) = some ((), mk s') ∧ frR s s' ∧ s'.1 187 10 = s.1 187 10 ∧ tkR (s'.1 187 8) (s'.1 187 9) (sgV B N i).1 0 ∧ s'.1 187 7 = nI (sgV B N i).2 := by
    intro kk hsg hk
    rw [hsg]
    refine ⟨wI s1 187 8 (nI 4), ?_, (fr8 4).1, (fr8 4).2.1, ?_, (fr8 4).2.2⟩
    · unfold fX11_signToken_275
      simp (disch := first | omega | assumption | (simp only [wL_1, wL_22, wI_2, wA_2, wQ_1, wQ_21] <;> first | assumption | omega)) only [LIT, LITm, nI_add, n_mul, fa_or, n_31m, n_shl0, n_le, n_lt, n_eq, Option.bind_some, B_m hn, Bool.toNat_true, Nat.reduceEqDiff, Nat.reduceLeDiff, ↓reduceIte]
    · rw [wI_at, upd_at, upd_ne (by omega), c9]
      exact hk
  have sR : ∀ kk, sgC kk ≠ 0 → B i = sgC kk → tkR (nI 4) (nI (B i)) kk 0 := fun kk h1 h2 => Or.inr (Or.inr (Or.inr (Or.inr (Or.inr (Or.inl ⟨h1, rfl, by rw [h2]⟩)))))
  have fin0 : ∀ W kk, kk = 27 + W → W ≤ 5 → sgV B N i = (kk, i + 1) → ∃ s' : zS, some ((), mk (wI (wI s1 187 8 (nI 5)) 187 9 (nI W))) = some ((), mk s') ∧ frR s s' ∧ s'.1 187 10 = s.1 187 10 ∧ tkR (s'.1 187 8) (s'.1 187 9) (sgV B N i).1 0 ∧ s'.1 187 7 = nI (sgV B N i).2 := by
    intro W kk hk hW hsg
    rw [hsg]
    refine ⟨_, rfl, frR_t f1 (frR_t (frR_w (by omega)) (frR_w (by omega))), ?_, ?_, ?_⟩
    · rw [wI_at, upd_ne (by omega), wI_at, upd_ne (by omega)]; exact c10
    · rw [wI_at, upd_ne (by omega), upd_at, wI_at, upd_at]
      exact Or.inr (Or.inr (Or.inr (Or.inr (Or.inl ⟨by omega, by omega, rfl, by congr 1; omega⟩))))
    · rw [wI_at, upd_ne (by omega), wI_at, upd_ne (by omega)]; exact c7
  have fin1 : ∀ W kk, kk = 27 + W → W ≤ 5 → sgV B N i = (kk, i + 2) → ∃ s' : zS, some ((), mk (wI (wI (wI s1 187 7 (nI (i + 1 + 1))) 187 8 (nI 5)) 187 9 (nI W))) = some ((), mk s') ∧ frR s s' ∧ s'.1 187 10 = s.1 187 10 ∧ tkR (s'.1 187 8) (s'.1 187 9) (sgV B N i).1 0 ∧ s'.1 187 7 = nI (sgV B N i).2 := by
    intro W kk hk hW hsg
    rw [hsg]
    refine ⟨_, rfl, frR_t f1 (frR_t (frR_w (by omega)) (frR_t (frR_w (by omega)) (frR_w (by omega)))), ?_, ?_, ?_⟩
    · rw [wI_at, upd_ne (by omega), wI_at, upd_ne (by omega), wI_at, upd_ne (by omega)]; exact c10
    · rw [wI_at, upd_ne (by omega), upd_at, wI_at, upd_at]
      exact Or.inr (Or.inr (Or.inr (Or.inr (Or.inl ⟨by omega, by omega, rfl, by congr 1; omega⟩))))
    · rw [wI_at, upd_ne (by omega), wI_at, upd_ne (by omega), wI_at, upd_at]
  -- what comes behind it
  obtain ⟨d, ed⟩ : ∃ d, d = if i + 1 < N then B (i + 1) else 0 := ⟨_, rfl⟩
  have d5 : d < 256 := by rw [ed]; have := t4 (i + 1); split <;> omega
  have s50 : fX11_signToken_50 n (mk s1) 187 = fX11_signToken_74 n (mk s1) 187 (nI d) := by
    unfold fX11_signToken_50
    by_cases q : i + 1 < N
    · rw [if_pos q] at ed
      have b1 : s1.1 188 (i + 1) = nI d := by rw [f1.2.1 188 (by omega), t3 (i + 1) q, ed]
      simp (disch := first | omega | assumption | (simp only [wL_1, wL_22, wI_2, wA_2, wQ_1, wQ_21] <;> first | assumption | omega)) only [LIT, LITm, nI_add, n_mul, fa_or, n_31m, n_shl0, n_le, n_lt, n_eq, Option.bind_some, B_m hn, B_ma hn, c6, c7, b1, show ¬ N ≤ i + 1 by omega, ↓reduceIte]
    · rw [if_neg q] at ed
      rw [ed]
      simp (disch := first | omega | assumption | (simp only [wL_1, wL_22, wI_2, wA_2, wQ_1, wQ_21] <;> first | assumption | omega)) only [LIT, LITm, nI_add, n_mul, fa_or, n_31m, n_shl0, n_le, n_lt, n_eq, Option.bind_some, B_m hn, c6, c7, show N ≤ i + 1 by omega, ↓reduceIte]
  have nd1 : ∀ c, c ≠ 0 → (i + 1 < N ∧ B (i + 1) = c ↔ d = c) := fun c hc => by
    rw [ed]
    by_cases q : i + 1 < N
    · rw [if_pos q]; exact ⟨fun h => h.2, fun h => ⟨q, h⟩⟩
    · rw [if_neg q]; exact ⟨fun h => absurd h.1 q, fun h => absurd h.symm hc⟩
  have sx : ∀ c k2 : Nat, c < 256 → k2 < 256 → (nI c = nI k2) = (c = k2) := fun c k2 h1 h2 => n_eq (by omega) (by omega)
  by_cases h60 : B i = 60
  · rw [if_pos (Or.inl h60), s50]
    rw [h60] at c9
    have g1 : sgV B N i = if d = 61 then (28, i + 2) else if d = 62 then (30, i + 2) else (27, i + 1) := by
      unfold sgV
      rw [h60]
      show (if i + 1 < N ∧ B (i + 1) = 61 then (28, i + 2) else if i + 1 < N ∧ B (i + 1) = 62 then (30, i + 2) else (27, i + 1)) = _
      simp only [nd1 61 (by omega), nd1 62 (by omega)]
    unfold fX11_signToken_74 fX11_signToken_94 fX11_signToken_95 fX11_signToken_115 fX11_signToken_116 fX11_signToken_125 fX11_signToken_135 fX11_signToken_192
    rw [show (61 : Int32) = nI 61 from rfl, show (60 : Int32) = nI 60 from rfl, show (62 : Int32) = nI 62 from rfl]
    by_cases q1 : d = 61
    · rw [if_pos q1] at g1
      simp (disch := first | omega | assumption | (simp only [wL_1, wL_22, wI_2, wA_2, wQ_1, wQ_21] <;> first | assumption | omega)) only [LIT, LITm, nI_add, n_mul, fa_or, n_31m, n_shl0, n_le, n_lt, n_eq, Option.bind_some, B_m hn, c7, c9, q1, wI_at, upd_at, upd_ne, Nat.reduceEqDiff, Nat.reduceLeDiff, not_true_eq_false, not_false_eq_true, ↓reduceIte]
      exact fin1 1 28 rfl (by omega) g1
    · rw [if_neg q1] at g1
      by_cases q2 : d = 62
      · rw [if_pos q2] at g1
        simp (disch := first | omega | assumption | (simp only [wL_1, wL_22, wI_2, wA_2, wQ_1, wQ_21] <;> first | assumption | omega)) only [LIT, LITm, nI_add, n_mul, fa_or, n_31m, n_shl0, n_le, n_lt, n_eq, Option.bind_some, B_m hn, c7, c9, q2, wI_at, upd_at, upd_ne, Nat.reduceEqDiff, Nat.reduceLeDiff, not_true_eq_false, not_false_eq_true, ↓reduceIte]
        exact fin1 3 30 rfl (by omega) g1
      · rw [if_neg q2] at g1
        simp (disch := first | omega | assumption | (simp only [wL_1, wL_22, wI_2, wA_2, wQ_1, wQ_21] <;> first | assumption | omega)) only [LIT, LITm, nI_add, n_mul, fa_or, n_31m, n_shl0, n_le, n_lt, n_eq, Option.bind_some, B_m hn, c7, c9, q1, q2, wI_at, upd_at, upd_ne, Nat.reduceEqDiff, Nat.reduceLeDiff, not_true_eq_false, not_false_eq_true, ↓reduceIte]
        exact fin0 0 27 rfl (by omega) g1
  by_cases h62 : B i = 62
  · rw [if_pos (Or.inr (Or.inl h62)), s50]
    rw [h62] at c9
    have g1 : sgV B N i = if d = 61 then (31, i + 2) else (32, i + 1) := by
      unfold sgV
      rw [h62]
      show (if i + 1 < N ∧ B (i + 1) = 61 then (31, i + 2) else (32, i + 1)) = _
      simp only [nd1 61 (by omega)]
    unfold fX11_signToken_74 fX11_signToken_94 fX11_signToken_95 fX11_signToken_115 fX11_signToken_116 fX11_signToken_125 fX11_signToken_135 fX11_signToken_192
    rw [show (61 : Int32) = nI 61 from rfl, show (60 : Int32) = nI 60 from rfl, show (62 : Int32) = nI 62 from rfl]
    by_cases q1 : d = 61
    · rw [if_pos q1] at g1
      simp (disch := first | omega | assumption | (simp only [wL_1, wL_22, wI_2, wA_2, wQ_1, wQ_21] <;> first | assumption | omega)) only [LIT, LITm, nI_add, n_mul, fa_or, n_31m, n_shl0, n_le, n_lt, n_eq, Option.bind_some, B_m hn, c7, c9, q1, wI_at, upd_at, upd_ne, Nat.reduceEqDiff, Nat.reduceLeDiff, not_true_eq_false, not_false_eq_true, ↓reduceIte]
      exact fin1 4 31 rfl (by omega) g1
    · rw [if_neg q1] at g1
      simp (disch := first | omega | assumption | (simp only [wL_1, wL_22, wI_2, wA_2, wQ_1, wQ_21] <;> first | assumption | omega)) only [LIT, LITm, nI_add, n_mul, fa_or, n_31m, n_shl0, n_le, n_lt, n_eq, Option.bind_some, B_m hn, c7, c9, q1, wI_at, upd_at, upd_ne, Nat.reduceEqDiff, Nat.reduceLeDiff, not_true_eq_false, not_false_eq_true, ↓reduceIte]
      exact fin0 5 32 rfl (by omega) g1
  by_cases h61 : B i = 61
  · rw [if_pos (Or.inr (Or.inr h61)), s50]
    rw [h61] at c9
    have g1 : sgV B N i = (29, i + 1) := by
      unfold sgV
      rw [h61]
      rfl
    unfold fX11_signToken_74 fX11_signToken_94 fX11_signToken_95 fX11_signToken_115 fX11_signToken_116 fX11_signToken_125 fX11_signToken_135 fX11_signToken_192
    rw [show (61 : Int32) = nI 61 from rfl, show (60 : Int32) = nI 60 from rfl, show (62 : Int32) = nI 62 from rfl]
    simp (disch := first | omega | assumption | (simp only [wL_1, wL_22, wI_2, wA_2, wQ_1, wQ_21] <;> first | assumption | omega)) only [LIT, LITm, nI_add, n_mul, fa_or, n_31m, n_shl0, n_le, n_lt, n_eq, Option.bind_some, B_m hn, c7, c9, wI_at, upd_at, upd_ne, Nat.reduceEqDiff, Nat.reduceLeDiff, not_true_eq_false, not_false_eq_true, ↓reduceIte]
    exact fin0 2 29 rfl (by omega) g1
  rw [if_neg (by omega)]
  by_cases q1 : B i = 59
  · rw [decide_eq_true (by omega)]
    exact t4' 24 (by unfold sgV; rw [q1]; rfl) (sR 24 (by decide) q1)
  by_cases q2 : B i = 40
  · rw [decide_eq_true (by omega)]
    exact t4' 25 (by unfold sgV; rw [q2]; rfl) (sR 25 (by decide) q2)
  by_cases q3 : B i = 41
  · rw [decide_eq_true (by omega)]
    exact t4' 26 (by unfold sgV; rw [q3]; rfl) (sR 26 (by decide) q3)
  by_cases q4 : B i = 43
  · rw [decide_eq_true (by omega)]
    exact t4' 33 (by unfold sgV; rw [q4]; rfl) (sR 33 (by decide) q4)
  by_cases q5 : B i = 45
  · rw [decide_eq_true (by omega)]
    exact t4' 34 (by unfold sgV; rw [q5]; rfl) (sR 34 (by decide) q5)
  by_cases q6 : B i = 42
  · rw [decide_eq_true (by omega)]
    exact t4' 35 (by unfold sgV; rw [q6]; rfl) (sR 35 (by decide) q6)
  by_cases q7 : B i = 47
  · rw [decide_eq_true (by omega)]
    exact t4' 36 (by unfold sgV; rw [q7]; rfl) (sR 36 (by decide) q7)
  have g38 : sgV B N i = (38, i + 1) := by
    unfold sgV
    rw [if_neg q2, if_neg q3, if_neg q6, if_neg q4, if_neg q5, if_neg q7, if_neg q1, if_neg h60, if_neg h61, if_neg h62]
  by_cases q8 : B i = 37
  · rw [decide_eq_true (by omega)]
    exact t4' 38 g38 (Or.inr (Or.inr (Or.inr (Or.inr (Or.inr (Or.inr ⟨rfl, Or.inr ⟨rfl, by rw [q8]⟩⟩))))))
  rw [decide_eq_false (by omega), g38]
  refine ⟨wI s1 187 8 (nI 6), ?_, (fr8 6).1, (fr8 6).2.1, ?_, (fr8 6).2.2⟩
  · unfold fX11_signToken_275
    simp (disch := first | omega | assumption | (simp only [wL_1, wL_22, wI_2, wA_2, wQ_1, wQ_21] <;> first | assumption | omega)) only [LIT, LITm, nI_add, n_mul, fa_or, n_31m, n_shl0, n_le, n_lt, n_eq, Option.bind_some, B_m hn, Bool.toNat_false, ↓reduceIte]
  · rw [wI_at, upd_at]
    exact Or.inr (Or.inr (Or.inr (Or.inr (Or.inr (Or.inr ⟨rfl, Or.inl rfl⟩)))))
end Mx2
