/-! ===== expressions on the class: parts, and all of it ===== -/
section Ck
variable {n t i N k l op : Nat} {B : Nat → Nat} {s s' s1 s2 : zS} {q q' : zQ}
theorem c_nm (hk : k ≤ 38) : fX7_isName n (mk s) (nI k) = some (nI (decide (15 ≤ k ∧ k ≤ 21)).toNat, mk s) := by
  unfold fX7_isName
  by_cases a : k < 15
  · rw [decide_eq_false (by omega)]
    simp (disch := first | omega | assumption | (simp only [wL_1, wL_22, wI_2, wA_2, wQ_1, wQ_21] <;> first | assumption | omega)) only [LIT, LITm, nI_add, n_mul, fa_or, n_31m, n_shl0, n_le, n_lt, n_eq, Option.bind_some, a, ↓reduceIte, Bool.toNat_false]
  · by_cases b : 21 < k
    · rw [decide_eq_false (by omega)]
      simp (disch := first | omega | assumption | (simp only [wL_1, wL_22, wI_2, wA_2, wQ_1, wQ_21] <;> first | assumption | omega)) only [LIT, LITm, nI_add, n_mul, fa_or, n_31m, n_shl0, n_le, n_lt, n_eq, Option.bind_some, a, b, ↓reduceIte, Bool.toNat_false]
    · rw [decide_eq_true (by omega)]
      simp (disch := first | omega | assumption | (simp only [wL_1, wL_22, wI_2, wA_2, wQ_1, wQ_21] <;> first | assumption | omega)) only [LIT, LITm, nI_add, n_mul, fa_or, n_31m, n_shl0, n_le, n_lt, n_eq, Option.bind_some, a, b, ↓reduceIte, Bool.toNat_true]
theorem c_pt91 {c1 c2 : ai_H → Nat → Int32 → Option ((Unit ⊕ Nat) × ai_H)} {c3 : ai_H → Nat → Int32 → Int32 → Option ((Unit ⊕ Nat) × ai_H)} {r : Except (Nat × Nat) zQ} (hn : 239 ≤ n) (ht : t = 6 ∨ t = 29) (h64 : q.2.2 ≤ 64) (hlen : q.2.1.length ≤ q.2.2) (hX : cX B N t s q) (h : tkQ B N q (fun q1 => some (.ok (emQ (q.1.1, q.1.2.1) q1))) = some r) : rdX B N t s (fX3_readPart_91 n c1 c2 c3 (mk s) 3 (nI q.1.1) (nI q.1.2.1)) r := by
  unfold fX3_readPart_91
  have tk := c_tkn hn ht hX h64
  rcases tkQ_ok h with ⟨c6, g⟩ | ⟨c6, g⟩
  · rw [g]
    exact bt_er (tk.1 c6)
  · obtain ⟨s1, e1, f1, X1⟩ := tk.2 c6
    rw [bt_ok e1]
    cases g
    have ln1 : (kcQ B N q).2.1 = q.2.1 := rfl
    obtain ⟨s3, e3, f3, X3⟩ := c_put (x := q.1.1) (y := q.1.2.1) hn ht X1 (by rw [ln1]; omega)
    have r31 := B_31 hn ht X1.2.1
    refine rdX_t f1 ⟨s3, ?_, f3, X3⟩
    simp (disch := first | omega | assumption | (simp only [wL_1, wL_22, wI_2, wA_2, wQ_1, wQ_21] <;> first | assumption | omega)) only [LIT, LITm, nI_add, n_mul, fa_or, n_31m, n_shl0, n_le, n_lt, n_eq, Option.bind_some, r31, B_t hn ht, e3]
theorem c_pt {f : Nat} {r : Except (Nat × Nat) zQ} (hn : 239 ≤ n) (ht : t = 6 ∨ t = 29) (ih : CC n B N t k) (hf : 2 * k ≤ f) (hop : op ≤ 8) (h : ptQ B N (plv B N k 0 (op + 1)) op q = some r) (h64 : q.2.2 ≤ 64) (hlen : q.2.1.length ≤ q.2.2) (hX : cX B N t s q) :
    rdX B N t s (fX3_readPart n (fs1 n f).1 (fs1 n f).2.1 (fs1 n f).2.2 (mk s) 3 (nI op)) r := by
  obtain ⟨w1, w2, w3, w4⟩ := hX.2.2.2.1
  have k4 := hX.2.2.1.1
  have k6 := hX.2.2.1.2.1
  unfold ptQ at h
  unfold fX3_readPart
  have fl1 : ∀ g : Unit → ai_H → Option ((Unit ⊕ Nat) × ai_H), erC t s (bt (fX3_fail n (mk s) 3 (nI 1)) g) (1, q.1.2.2.1) := fun g => bt_er (c_fail (k := 1) hn hX.2.2.1)
  have fl2 : ∀ g : Unit → ai_H → Option ((Unit ⊕ Nat) × ai_H), erC t s (bt (fX3_fail n (mk s) 3 (nI 2)) g) (2, q.1.2.2.1) := fun g => bt_er (c_fail (k := 2) hn hX.2.2.1)
  by_cases e : q.1.1 = 25
  · rw [if_pos e] at h
    by_cases c : 8 ≤ op
    · rw [if_pos c] at h
      cases h
      simp (disch := first | omega | assumption | (simp only [wL_1, wL_22, wI_2, wA_2, wQ_1, wQ_21] <;> first | assumption | omega)) only [LIT, LITm, nI_add, n_mul, fa_or, n_31m, n_shl0, n_le, n_lt, n_eq, Option.bind_some, B_rd hn, k4, k6, e, not_true_eq_false, show ¬ op < 8 by omega, ↓reduceIte]
      exact fl2 _
    · rw [if_neg c] at h
      simp (disch := first | omega | assumption | (simp only [wL_1, wL_22, wI_2, wA_2, wQ_1, wQ_21] <;> first | assumption | omega)) only [LIT, LITm, nI_add, n_mul, fa_or, n_31m, n_shl0, n_le, n_lt, n_eq, Option.bind_some, B_rd hn, k4, k6, e, not_true_eq_false, show op < 8 by omega, ↓reduceIte]
      unfold fX3_readPart_33
      obtain ⟨s1, e1, f1, X1⟩ := c_kadv hn ht hX
      obtain ⟨r1, g1, g2, g3⟩ := bdQ_s h
      simp (disch := first | omega | assumption | (simp only [wL_1, wL_22, wI_2, wA_2, wQ_1, wQ_21] <;> first | assumption | omega)) only [LIT, LITm, nI_add, n_mul, fa_or, n_31m, n_shl0, n_le, n_lt, n_eq, Option.bind_some, B_rd hn, e1]
      refine rdX_t (frK_X f1) (rdX_bt (ih 0 (op + 1) (adQ B N q) s1 r1 g1 (by omega) (by omega) h64 hlen X1 f hf) g2 ?_)
      intro q2 s2 e2 f2 X2
      have g4 := g3 q2 e2
      have ex := c_exp (k := 26) hn ht X2 (by omega)
      by_cases g : q2.1.1 = 26
      · rw [if_pos g] at g4
        cases g4
        obtain ⟨s3, e3, f3, X3⟩ := ex.1 g
        refine ⟨s3, ?_, frK_X f3, X3⟩
        rw [bt_ok e3]
      · rw [if_neg g] at g4
        cases g4
        exact bt_er (ex.2 g)
  · rw [if_neg e] at h
    have nm := c_nm (n := n) (s := s) w1
    have tail73 : isLf q.1.1 = true → rdX B N t s (fX3_readPart_73 n (fs1 n f).1 (fs1 n f).2.1 (fs1 n f).2.2 (mk s) 3 (nI q.1.1) (nI q.1.2.1)) r := by
      intro lf
      rw [if_pos lf] at h
      unfold fX3_readPart_73
      by_cases b : q.1.1 = 23 ∧ 9999 < q.1.2.1
      · rw [if_pos b] at h
        cases h
        simp (disch := first | omega | assumption | (simp only [wL_1, wL_22, wI_2, wA_2, wQ_1, wQ_21] <;> first | assumption | omega)) only [LIT, LITm, nI_add, n_mul, fa_or, n_31m, n_shl0, n_le, n_lt, n_eq, Option.bind_some, b.1, not_true_eq_false, show ¬ q.1.2.1 ≤ 9999 by omega, ↓reduceIte]
        exact fl2 _
      · rw [if_neg b] at h
        have t91 := c_pt91 (c1 := (fs1 n f).1) (c2 := (fs1 n f).2.1) (c3 := (fs1 n f).2.2) hn ht h64 hlen hX h
        by_cases b1 : q.1.1 = 23
        · rw [b1] at t91
          simp (disch := first | omega | assumption | (simp only [wL_1, wL_22, wI_2, wA_2, wQ_1, wQ_21] <;> first | assumption | omega)) only [LIT, LITm, nI_add, n_mul, fa_or, n_31m, n_shl0, n_le, n_lt, n_eq, Option.bind_some, b1, not_true_eq_false, show q.1.2.1 ≤ 9999 by omega, ↓reduceIte]
          exact t91
        · simp (disch := first | omega | assumption | (simp only [wL_1, wL_22, wI_2, wA_2, wQ_1, wQ_21] <;> first | assumption | omega)) only [LIT, LITm, nI_add, n_mul, fa_or, n_31m, n_shl0, n_le, n_lt, n_eq, Option.bind_some, b1, not_false_eq_true, ↓reduceIte]
          exact t91
    by_cases lf : isLf q.1.1 = true
    · have t73 := tail73 lf
      by_cases b1 : q.1.1 = 23
      · rw [b1] at t73
        simp (disch := first | omega | assumption | (simp only [wL_1, wL_22, wI_2, wA_2, wQ_1, wQ_21] <;> first | assumption | omega)) only [LIT, LITm, nI_add, n_mul, fa_or, n_31m, n_shl0, n_le, n_lt, n_eq, Option.bind_some, B_rd hn, k4, k6, b1, not_false_eq_true, Nat.reduceEqDiff, ↓reduceIte]
        exact t73
      · have l2 : 15 ≤ q.1.1 ∧ q.1.1 ≤ 21 := by
          rcases of_decide_eq_true lf with x | x
          · exact absurd x b1
          · exact x
        have d1 : decide (15 ≤ q.1.1 ∧ q.1.1 ≤ 21) = true := decide_eq_true l2
        simp (disch := first | omega | assumption | (simp only [wL_1, wL_22, wI_2, wA_2, wQ_1, wQ_21] <;> first | assumption | omega)) only [LIT, LITm, nI_add, n_mul, fa_or, n_31m, n_shl0, n_le, n_lt, n_eq, Option.bind_some, B_rd hn, k4, k6, b1, e, nm, d1, Bool.toNat_true, not_false_eq_true, Nat.reduceEqDiff, ↓reduceIte]
        exact t73
    · rw [if_neg lf] at h
      cases h
      have lf' : ¬ (q.1.1 = 23 ∨ (15 ≤ q.1.1 ∧ q.1.1 ≤ 21)) := fun g => lf (decide_eq_true g)
      have b1 : q.1.1 ≠ 23 := fun g => lf' (Or.inl g)
      have d1 : decide (15 ≤ q.1.1 ∧ q.1.1 ≤ 21) = false := decide_eq_false (fun g => lf' (Or.inr g))
      simp (disch := first | omega | assumption | (simp only [wL_1, wL_22, wI_2, wA_2, wQ_1, wQ_21] <;> first | assumption | omega)) only [LIT, LITm, nI_add, n_mul, fa_or, n_31m, n_shl0, n_le, n_lt, n_eq, Option.bind_some, B_rd hn, k4, k6, b1, e, nm, d1, Bool.toNat_false, not_false_eq_true, not_true_eq_false, Nat.reduceEqDiff, ↓reduceIte]
      exact fl1 _
theorem c_lv (hn : 239 ≤ n) (ht : t = 6 ∨ t = 29) : ∀ k, CC n B N t k
  | 0 => by
    intro l op q s r h
    cases h
  | k + 1 => by
    have ih : CC n B N t k := c_lv hn ht k
    intro l op q s r h hl hop h64 hlen hX f hf
    obtain ⟨f', rfl⟩ : ∃ f', f = f' + 2 := ⟨f - 2, by omega⟩
    have h' : (if 6 ≤ l then ptQ B N (plv B N k 0 (op + 1)) op q else if l = 2 then ntQ B N (plv B N k 3 op) 66 0 q else bdQ (plv B N k (l + 1) op q) (fun q1 => if l = 3 then l1Q B N (plv B N k 4 op) q1 else loQ B N (plv B N k (l + 1) op) l 66 q1)) = some r := h
    show rdX B N t s (fX3_readLevel n (fs1 n (f' + 1)).1 (fs1 n (f' + 1)).2.1 (fs1 n (f' + 1)).2.2 (mk s) 3 (nI l) (nI op)) r
    unfold fX3_readLevel
    have fin : ∀ (c : Option ((Unit ⊕ Nat) × ai_H)), rdX B N t s c r → rdX B N t s (bt c fun _ h6 => some (.inl (), h6)) r := fun c hc => by
      refine rdX_bt hc (fun e he => he) ?_
      intro q' s' e _ X
      rw [e]
      exact ⟨s', rfl, frX_r, X⟩
    by_cases c6 : 6 ≤ l
    · rw [if_pos c6] at h'
      simp (disch := first | omega | assumption | (simp only [wL_1, wL_22, wI_2, wA_2, wQ_1, wQ_21] <;> first | assumption | omega)) only [LIT, LITm, nI_add, n_mul, fa_or, n_31m, n_shl0, n_le, n_lt, n_eq, Option.bind_some, B_rd hn, show ¬ l < 6 by omega, ↓reduceIte]
      exact fin _ (c_pt (f := f') hn ht ih (by omega) hop h' h64 hlen hX)
    · rw [if_neg c6] at h'
      by_cases c2 : l = 2
      · rw [if_pos c2] at h'
        simp (disch := first | omega | assumption | (simp only [wL_1, wL_22, wI_2, wA_2, wQ_1, wQ_21] <;> first | assumption | omega)) only [LIT, LITm, nI_add, n_mul, fa_or, n_31m, n_shl0, n_le, n_lt, n_eq, Option.bind_some, B_rd hn, c2, not_true_eq_false, Nat.reduceLT, ↓reduceIte]
        refine fin _ ?_
        show rdX B N t s (fX3_readNots n (fs1 n f').1 (fs1 n f').2.1 (fs1 n f').2.2 (mk s) 3 (nI op)) r
        unfold fX3_readNots
        simp (disch := first | omega | assumption | (simp only [wL_1, wL_22, wI_2, wA_2, wQ_1, wQ_21] <;> first | assumption | omega)) only [LIT, LITm, nI_add, n_mul, fa_or, n_31m, n_shl0, n_le, n_lt, n_eq, Option.bind_some, B_rd hn]
        exact c_nt hn ht ih (by omega) hop 66 q s r 0 bi_K h' (by unfold bi_K; omega) (by omega) h64 hX
      · rw [if_neg c2] at h'
        simp (disch := first | omega | assumption | (simp only [wL_1, wL_22, wI_2, wA_2, wQ_1, wQ_21] <;> first | assumption | omega)) only [LIT, LITm, nI_add, n_mul, fa_or, n_31m, n_shl0, n_le, n_lt, n_eq, Option.bind_some, B_rd hn, c2, not_false_eq_true, show l < 6 by omega, ↓reduceIte]
        obtain ⟨r1, g1, g2, g3⟩ := bdQ_s h'
        refine rdX_bt (ih (l + 1) op q s r1 g1 (by omega) hop h64 hlen hX (f' + 1) (by omega)) g2 ?_
        intro q2 s2 e2 f2 X2
        have b := bl_all k (l + 1) op _ q2 (by rw [g1, e2]) h64
        have b1 := b.1
        have b3 := b.2.2
        have b2 := b.2.1
        have g4 := g3 q2 e2
        unfold fX3_readLevel_42
        by_cases c3 : l = 3
        · rw [if_pos c3] at g4
          simp (disch := first | omega | assumption | (simp only [wL_1, wL_22, wI_2, wA_2, wQ_1, wQ_21] <;> first | assumption | omega)) only [LIT, LITm, nI_add, n_mul, fa_or, n_31m, n_shl0, n_le, n_lt, n_eq, Option.bind_some, c3, not_true_eq_false, ↓reduceIte]
          exact c_l1 hn ht ih (by omega) hop g4 (by unfold bi_K; omega) b2 (by omega) X2
        · rw [if_neg c3] at g4
          simp (disch := first | omega | assumption | (simp only [wL_1, wL_22, wI_2, wA_2, wQ_1, wQ_21] <;> first | assumption | omega)) only [LIT, LITm, nI_add, n_mul, fa_or, n_31m, n_shl0, n_le, n_lt, n_eq, Option.bind_some, c3, not_false_eq_true, ↓reduceIte]
          exact c_lo hn ht ih (by omega) (by omega) hop 66 q2 s2 r 0 bi_K g4 (by unfold bi_K; omega) (by omega) b2 (by omega) X2
/-- the whole expression, read by levels -/
def plE (B : Nat → Nat) (N : Nat) (q : zQ) : zF := plv B N 63 0 0 q
theorem plE_t (h64 : q.2.2 ≤ 64) : ∃ r, plE B N q = some r := tot_all 63 0 0 q (by omega) (by omega) h64 (by omega)
theorem c_expr {r : Except (Nat × Nat) zQ} (hn : 239 ≤ n) (ht : t = 6 ∨ t = 29) (h64 : q.2.2 ≤ 64) (hlen : q.2.1.length ≤ q.2.2) (hX : cX B N t s q) (h : plE B N q = some r) : rdX B N t s (FX3_readLevel n (mk s) 3 (nI 0) (nI 0)) r := by
  unfold FX3_readLevel
  exact c_lv hn ht 63 0 0 q s r h (by omega) (by omega) h64 hlen hX bi_N (by unfold bi_N; omega)
end Ck
