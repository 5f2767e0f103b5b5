/-! ===== law, see, strike, known: both ===== -/
section La
variable {n t o p w : Nat} {s : zS} {A : zA} {x y z : Int32}
theorem c_law (hn : 239 ≤ n) (hK : cK s t A) (hA : wfA A) : (lawOk (aT A) x y z → ∃ s' : zS, fX10_law n (mk s) 1 x y z = some (lawR (aT A) (aS A) x y z, mk s') ∧ frS s s') ∧ (¬ lawOk (aT A) x y z → fX10_law n (mk s) 1 x y z = some (-9223372036854775808, mk s)) := by
  have ht := cK_t hK
  have hW := hA.1
  have h0 := hW.1
  have e3 := hK.2.1
  refine ⟨fun h => ?_, fun h => ?_⟩
  · obtain ⟨hx, hy, hz⟩ := h
    obtain ⟨k, -, hk, rfl⟩ := wiV_t (by omega) (by omega) hx
    obtain ⟨p, hp, rfl⟩ := inR_t (by omega) hy
    obtain ⟨sa, ea, fa, ha⟩ := c_begin (b := 0) hn ht is_52 hW hK.2.2.1
    have hTa : cTd sa.1 t (aT A) := cTd_fr hK.2.2.1 (fun a h1 h2 => fa.1 a (by omega) (by omega))
    have hSa : cSd sa.1 52 (aT A) (aS A) := cSd_fr hK.2.2.2.1 (fun a h1 h2 => fa.1 a (by omega) (by omega))
    unfold lawR
    rw [cl_n (by omega), cl_n (by omega)]
    have fin : ∀ (x0 : Int32) (nm : Nat → Int64) (sb : zS), fX0_lookAt n (mk sa) 68 (nI p) x0 = some ((), mk sb) → frL t sa sb → (∀ j, j < 7 → sb.2.1 (t + 21) j = nm j) → (∀ j, j < 7 → bdd (nm j)) → ∃ s' : zS, fX10_law_67 n (mk sa) 1 (nI k) x0 (nI p) 68 = some ((lawV (aT A) k nm).getD (-9223372036854775808), mk s') ∧ frS s s' := by
      intro x0 nm sb eb fb hN hB
      have hTb : cTd sb.1 t (aT A) := by rw [fb.1]; exact hTa
      have e3b : sb.2.2 1 3 = t := by rw [fb.2.1, fa.2.2 1 (by omega)]; exact e3
      obtain ⟨sc, ec, f1, f2, f3⟩ := c_value (x := -9223372036854775808) hn ht hW hTb (show k < 3 by omega) hN hB
      refine ⟨sc, ?_, frS_t (frB_S fa) (frS_t (frL_S ht fb) ⟨fun a j _ => by rw [f1], fun a _ => by rw [f2], fun a h => f3 a (by omega)⟩)⟩
      unfold fX10_law_67
      simp (disch := first | omega | assumption | (simp only [wL_1, wL_22, wI_2, wA_2, wQ_1, wQ_21] <;> first | assumption | omega)) only [LIT, LITm, nI_add, n_mul, fa_or, n_31m, n_shl0, n_le, n_lt, n_eq, Option.bind_some, B_K hn, eb, e3b, B_t hn ht, ec]
    by_cases hk0 : k = 0
    · subst hk0
      rw [if_pos rfl, if_pos rfl]
      obtain ⟨sb, eb, fb, hN⟩ := c_lookN hn ht is_52 hW hTa ha hSa hA.2.1 hp
      obtain ⟨sc, ec, fc⟩ := fin m1 _ sb eb fb hN (nmV_b hW hA.2.1 hp (by omega) (by omega))
      refine ⟨sc, ?_, fc⟩
      unfold fX10_law fX10_law_37
      simp (disch := first | omega | assumption | (simp only [wL_1, wL_22, wI_2, wA_2, wQ_1, wQ_21] <;> first | assumption | omega)) only [LIT, LITm, nI_add, n_mul, fa_or, n_31m, n_shl0, n_le, n_lt, n_eq, Option.bind_some, B_K hn, c_within, wiV_n, c_isPath hn hK hA, hy, e3, ea, ec, Bool.toNat_true, Nat.reduceEqDiff, Nat.reduceLeDiff, not_true_eq_false, not_false_eq_true, ↓reduceIte]
    · have hz' : inR z (aT A 0 2) = true := hz.resolve_left (fun e => hk0 ((nI_eq (by omega) (by omega)).mp e))
      obtain ⟨w, hw, rfl⟩ := inR_t (by omega) hz'
      have hne : ¬ nI k = nI 0 := fun e => hk0 ((nI_eq (by omega) (by omega)).mp e)
      rw [if_neg hne, if_neg hne, cl_n (by omega)]
      obtain ⟨sb, eb, fb, hN⟩ := c_look hn ht is_52 hW hTa ha hSa (O0_w hW (by omega)) hA.2.1 hp hw
      obtain ⟨sc, ec, fc⟩ := fin (nI w) _ sb eb fb hN (nmV_b hW hA.2.1 hp ((O0_w (T := aT A) hW (b := 0) (by omega)).2.2.2 w hw) (hA.2.1.2.2.1 w hw).2)
      refine ⟨sc, ?_, fc⟩
      unfold fX10_law fX10_law_37
      simp (disch := first | omega | assumption | (simp only [wL_1, wL_22, wI_2, wA_2, wQ_1, wQ_21] <;> first | assumption | omega)) only [LIT, LITm, nI_add, n_mul, fa_or, n_31m, n_shl0, n_le, n_lt, n_eq, Option.bind_some, B_K hn, c_within, wiV_n, c_isPath hn hK hA, c_isWalker hn hK hA, hy, hz', e3, ea, ec, hk0, Bool.toNat_true, Nat.reduceEqDiff, Nat.reduceLeDiff, not_false_eq_true, ↓reduceIte]
      rfl
  · unfold fX10_law
    by_cases hx : wiV 0 x 2 = true
    · by_cases hy : inR y (aT A 0 1) = true
      · have h0' : ¬ x = nI 0 := fun e => h ⟨hx, hy, Or.inl e⟩
        have hz : ¬ inR z (aT A 0 2) = true := fun e => h ⟨hx, hy, Or.inr e⟩
        simp (disch := first | omega | assumption | (simp only [wL_1, wL_22, wI_2, wA_2, wQ_1, wQ_21] <;> first | assumption | omega)) only [LIT, LITm, nI_add, n_mul, fa_or, n_31m, n_shl0, n_le, n_lt, n_eq, Option.bind_some, B_K hn, c_within, hx, c_isPath hn hK hA, c_isWalker hn hK hA, hy, bF hz, h0', Bool.toNat_true, Bool.toNat_false, Nat.reduceEqDiff, Nat.reduceLeDiff, not_true_eq_false, not_false_eq_true, ↓reduceIte]
      · simp (disch := first | omega | assumption | (simp only [wL_1, wL_22, wI_2, wA_2, wQ_1, wQ_21] <;> first | assumption | omega)) only [LIT, LITm, nI_add, n_mul, fa_or, n_31m, n_shl0, n_le, n_lt, n_eq, Option.bind_some, B_K hn, c_within, hx, c_isPath hn hK hA, bF hy, Bool.toNat_true, Bool.toNat_false, Nat.reduceEqDiff, Nat.reduceLeDiff, not_true_eq_false, ↓reduceIte]
    · simp (disch := first | omega | assumption | (simp only [wL_1, wL_22, wI_2, wA_2, wQ_1, wQ_21] <;> first | assumption | omega)) only [LIT, LITm, nI_add, n_mul, fa_or, n_31m, n_shl0, n_le, n_lt, n_eq, Option.bind_some, B_K hn, c_within, bF hx, Bool.toNat_false, ↓reduceIte]
theorem m_law (hn : 239 ≤ n) (hK : mK s A) (hA : wfA A) : (lawOk (aT A) x y z → ∃ s' : zS, fX11_law n (mk s) 187 x y z = some (lawR (aT A) (aS A) x y z, mk s') ∧ frT s s') ∧ (¬ lawOk (aT A) x y z → ∃ s' : zS, fX11_law n (mk s) 187 x y z = some (-9223372036854775808, mk s') ∧ frT s s') := by
  have hW := hA.1
  have h0 := hW.1
  have ft := m_th s
  have hT := mTd_T ft.1 hK.1
  refine ⟨fun h => ?_, fun h => ?_⟩
  · obtain ⟨hx, hy, hz⟩ := h
    obtain ⟨k, -, hk, rfl⟩ := wiV_t (by omega) (by omega) hx
    obtain ⟨p, hp, rfl⟩ := inR_t (by omega) hy
    unfold lawR
    rw [cl_n (by omega), cl_n (by omega)]
    have kt := m_told hT (show k < 3 by omega)
    by_cases h18 : aT A 18 k = 0
    · rw [decide_eq_false (fun g => g h18)] at kt
      refine ⟨wI s 187 2 (nI 0), ?_, ft⟩
      unfold lawV fX11_law
      rw [if_pos h18]
      simp (disch := first | omega | assumption | (simp only [wL_1, wL_22, wI_2, wA_2, wQ_1, wQ_21] <;> first | assumption | omega)) only [LIT, LITm, nI_add, n_mul, fa_or, n_31m, n_shl0, n_le, n_lt, n_eq, Option.bind_some, B_m hn, B_ma hn, m_within, wiV_n, kt, Bool.toNat_true, Bool.toNat_false, Nat.reduceEqDiff, Nat.reduceLeDiff, ↓reduceIte, Option.getD_none]
    · rw [decide_eq_true h18] at kt
      obtain ⟨sa, ea, fa, ga, ca, oa, pl⟩ := m_plain (T := aT A) (s := wI s 187 2 (nI 0)) hn hW
      have fall := frT_t ft fa
      have hKa := mK_T hW hK fall
      have hSa : mSd sa 0 (aT A) (O0 (aT A) 1) (aS A) := mSd_O hKa.2.1
      have fin : ∀ (nm : Nat → Int64) (sb : zS), sb.1 = sa.1 → frQ sa sb → (∀ j, j < 7 → sb.2.1 217 j = nm j) → (∀ j, j < 7 → bdd (nm j)) → ∃ s' : zS, fX11_law_71 n (mk sb) 187 (nI k) = some ((lawV (aT A) k nm).getD (-9223372036854775808), mk s') ∧ frT s s' := by
        intro nm sb hb1 fb hN hB
        have hTb : mTd sb.1 (aT A) := by rw [hb1]; exact hKa.1
        obtain ⟨sc, ec, fc, hE⟩ := m_lawOf hn hW hTb (show k < 3 by omega) h18 hN hB
        refine ⟨sc, ?_, frT_t fall (frT_t (frQ_T fb) (frQ_T fc))⟩
        unfold fX11_law_71
        cases hv : lawV (aT A) k nm with
        | none =>
          rw [hv] at ec hE
          simp (disch := first | omega | assumption | (simp only [wL_1, wL_22, wI_2, wA_2, wQ_1, wQ_21] <;> first | assumption | omega)) only [LIT, LITm, nI_add, n_mul, fa_or, n_31m, n_shl0, n_le, n_lt, n_eq, Option.bind_some, B_m hn, ec, hE, Option.isSome_none, Bool.not_false, Bool.toNat_true, Nat.reduceEqDiff, Nat.reduceLeDiff, ↓reduceIte, Option.getD_none]
        | some v =>
          rw [hv] at ec hE
          simp (disch := first | omega | assumption | (simp only [wL_1, wL_22, wI_2, wA_2, wQ_1, wQ_21] <;> first | assumption | omega)) only [LIT, LITm, nI_add, n_mul, fa_or, n_31m, n_shl0, n_le, n_lt, n_eq, Option.bind_some, B_m hn, ec, hE, Option.isSome_some, Bool.not_true, Bool.toNat_false, ↓reduceIte, Option.getD_some]
      by_cases hk0 : k = 0
      · subst hk0
        rw [if_pos rfl, if_pos rfl]
        obtain ⟨sb, eb, hb1, fb, hN⟩ := m_layPath hn hW hKa.1 hSa hA.2.1 (by omega) hp
        obtain ⟨sc, ec, fc⟩ := fin _ sb hb1 fb hN (nmV_b hW hA.2.1 hp (by omega) (by omega))
        refine ⟨sc, ?_, fc⟩
        unfold fX11_law fX11_law_47
        simp (disch := first | omega | assumption | (simp only [wL_1, wL_22, wI_2, wA_2, wQ_1, wQ_21] <;> first | assumption | omega)) only [LIT, LITm, nI_add, n_mul, fa_or, n_31m, n_shl0, n_le, n_lt, n_eq, Option.bind_some, B_m hn, B_ma hn, m_within, wiV_n, kt, m_isPath hn hT, hy, ea, eb, ec, Bool.toNat_true, Nat.le_refl, Nat.reduceEqDiff, Nat.reduceLeDiff, not_true_eq_false, ↓reduceIte]
      · have hz' : inR z (aT A 0 2) = true := hz.resolve_left (fun e => hk0 ((nI_eq (by omega) (by omega)).mp e))
        obtain ⟨w, hw, rfl⟩ := inR_t (by omega) hz'
        have hne : ¬ nI k = nI 0 := fun e => hk0 ((nI_eq (by omega) (by omega)).mp e)
        rw [if_neg hne, if_neg hne, cl_n (by omega)]
        obtain ⟨sb, eb, hb1, fb, hN⟩ := m_layBoth hn hW hKa.1 oa hSa (O0_w hW (by omega)) hA.2.1 (by omega) hp hw
        obtain ⟨sc, ec, fc⟩ := fin _ sb hb1 fb hN (nmV_b hW hA.2.1 hp ((O0_w (T := aT A) hW (b := 1) (by omega)).2.2.2 w hw) (hA.2.1.2.2.1 w hw).2)
        refine ⟨sc, ?_, fc⟩
        unfold fX11_law fX11_law_47
        simp (disch := first | omega | assumption | (simp only [wL_1, wL_22, wI_2, wA_2, wQ_1, wQ_21] <;> first | assumption | omega)) only [LIT, LITm, nI_add, n_mul, fa_or, n_31m, n_shl0, n_le, n_lt, n_eq, Option.bind_some, B_m hn, B_ma hn, m_within, wiV_n, kt, m_isPath hn hT, m_isWalker hn hT, hy, hz', ea, eb, ec, hk0, show ¬ k ≤ 0 by omega, Bool.toNat_true, Nat.reduceEqDiff, Nat.reduceLeDiff, not_false_eq_true, ↓reduceIte]
        rfl
  · refine ⟨wI s 187 2 (nI 0), ?_, ft⟩
    unfold fX11_law
    by_cases hx : wiV 0 x 2 = true
    · obtain ⟨k, -, hk, rfl⟩ := wiV_t (by omega) (by omega) hx
      have kt := m_told hT (show k < 3 by omega)
      by_cases h18 : aT A 18 k = 0
      · rw [decide_eq_false (fun g => g h18)] at kt
        simp (disch := first | omega | assumption | (simp only [wL_1, wL_22, wI_2, wA_2, wQ_1, wQ_21] <;> first | assumption | omega)) only [LIT, LITm, nI_add, n_mul, fa_or, n_31m, n_shl0, n_le, n_lt, n_eq, Option.bind_some, B_m hn, B_ma hn, m_within, wiV_n, kt, Bool.toNat_true, Bool.toNat_false, Nat.reduceEqDiff, Nat.reduceLeDiff, ↓reduceIte]
      · rw [decide_eq_true h18] at kt
        by_cases hy : inR y (aT A 0 1) = true
        · have h0' : ¬ k = 0 := fun e => h ⟨hx, hy, Or.inl (by rw [e])⟩
          have hz : ¬ inR z (aT A 0 2) = true := fun e => h ⟨hx, hy, Or.inr e⟩
          simp (disch := first | omega | assumption | (simp only [wL_1, wL_22, wI_2, wA_2, wQ_1, wQ_21] <;> first | assumption | omega)) only [LIT, LITm, nI_add, n_mul, fa_or, n_31m, n_shl0, n_le, n_lt, n_eq, Option.bind_some, B_m hn, B_ma hn, m_within, wiV_n, kt, m_isPath hn hT, m_isWalker hn hT, hy, bF hz, show ¬ k ≤ 0 by omega, Bool.toNat_true, Bool.toNat_false, Nat.reduceEqDiff, Nat.reduceLeDiff, not_true_eq_false, ↓reduceIte]
        · simp (disch := first | omega | assumption | (simp only [wL_1, wL_22, wI_2, wA_2, wQ_1, wQ_21] <;> first | assumption | omega)) only [LIT, LITm, nI_add, n_mul, fa_or, n_31m, n_shl0, n_le, n_lt, n_eq, Option.bind_some, B_m hn, B_ma hn, m_within, wiV_n, kt, m_isPath hn hT, bF hy, Bool.toNat_true, Bool.toNat_false, Nat.reduceEqDiff, Nat.reduceLeDiff, ↓reduceIte]
    · simp (disch := first | omega | assumption | (simp only [wL_1, wL_22, wI_2, wA_2, wQ_1, wQ_21] <;> first | assumption | omega)) only [LIT, LITm, nI_add, n_mul, fa_or, n_31m, n_shl0, n_le, n_lt, n_eq, Option.bind_some, B_m hn, m_within, bF hx, Bool.toNat_false, ↓reduceIte]
/-- one more seen -/
def adE (E : Nat × Int32 × (Nat → Nat → Nat)) (k d w p : Nat) : Nat × Int32 × (Nat → Nat → Nat) := (E.1 + 1, E.2.1, up2 (up2 (up2 (up2 E.2.2 0 E.1 k) 1 E.1 d) 2 E.1 w) 3 E.1 p)
def wtE (A : zA) (E : Nat × Int32 × (Nat → Nat → Nat)) : zA := (A.1, A.2.1, A.2.2.1, A.2.2.2.1, A.2.2.2.2.1, A.2.2.2.2.2.1, E)
/-- what was seen has changed -/
theorem cK_E {s' : zS} {E : Nat × Int32 × (Nat → Nat → Nat)} (h : cK s t A) (e1 : ∀ a, a < 70 ∨ 74 < a → s'.1 a = s.1 a) (e2 : s'.2.2 = s.2.2) (hE : cSn s' E) : cK s' t (wtE A E) := by
  obtain ⟨h1, h2, h3, h4, h5, h6, h7, h8, h9⟩ := h
  have ht : t = 6 ∨ t = 29 := by rcases h1 with h | h <;> omega
  refine ⟨by rw [e2]; exact h1, by rw [e2]; exact h2, cTd_fr h3 (fun a g1 g2 => e1 a (by omega)), cSd_fr h4 (fun a g1 g2 => e1 a (by omega)), ⟨by rw [e1 1 (by omega)]; exact h5.1, fun g => cSd_fr (h5.2 g) (fun a g1 g2 => e1 a (by omega))⟩, ⟨by rw [e1 1 (by omega)]; exact h6.1, h6.2.1, by rw [e2]; exact h6.2.2.1, by rw [e2]; exact h6.2.2.2.1, fun i hi => ?_⟩, ⟨by rw [e1 1 (by omega)]; exact h7.1, fun i hi => by rw [e1 2 (by omega)]; exact h7.2 i hi⟩, ⟨by rw [e1 3 (by omega)]; exact h8.1, by rw [e1 3 (by omega)]; exact h8.2⟩, hE⟩
  rw [e2]
  obtain ⟨k, hk, e⟩ := h6.2.2.1 i (by have := h6.2.1; have : i < (aP A).1 := hi; omega)
  exact cSd_fr (h6.2.2.2.2 i hi) (fun a g1 g2 => e1 a (by omega))
theorem mK_E {s' : zS} {E : Nat × Int32 × (Nat → Nat → Nat)} (h : mK s A) (e1 : ∀ a, a ≠ 187 → a ≠ 233 → s'.1 a = s.1 a) (e0 : ∀ j, j ≠ 2 → j ≠ 84 → j ≠ 85 → s'.1 187 j = s.1 187 j) (e2 : s'.2 = s.2) (hE : mSn s' E) : mK s' (wtE A E) := by
  obtain ⟨h1, h2, h3, h4, h5, h6, h7⟩ := h
  refine ⟨mTd_fr h1 (fun a j ha => by rcases ha with ⟨rfl, h⟩ | h; exact e0 j (by omega) (by omega) (by omega); rw [e1 a (by omega) (by omega)]), ?_, ?_, ?_, ?_, ?_, hE⟩
  · show mSd s' 0 (aT A) O00 (aS A)
    unfold mSd
    rw [e1 219 (by omega) (by omega), e1 220 (by omega) (by omega), e1 221 (by omega) (by omega), e1 222 (by omega) (by omega), e1 223 (by omega) (by omega), e1 224 (by omega) (by omega), e1 225 (by omega) (by omega), e1 226 (by omega) (by omega), e2]
    exact h2
  · show mIm s' (aT A) (aI A)
    unfold mIm
    rw [e0 91 (by omega) (by omega) (by omega), e0 93 (by omega) (by omega) (by omega), e0 94 (by omega) (by omega) (by omega), e1 237 (by omega) (by omega), e2]
    exact h3
  · show mPs s' (aT A) (aP A)
    unfold mPs
    rw [e0 89 (by omega) (by omega) (by omega), e1 236 (by omega) (by omega)]
    exact h4
  · show mBt s' (aB A)
    unfold mBt
    rw [e0 1 (by omega) (by omega) (by omega), e1 188 (by omega) (by omega)]
    exact h5
  · show mFt s' (aF A)
    unfold mFt
    rw [e0 4 (by omega) (by omega) (by omega), e0 5 (by omega) (by omega) (by omega)]
    exact h6
theorem up2_0 {f : Nat → Nat → Nat} {i j k d w p : Nat} (ne : j ≠ i) : ∀ c, (up2 (up2 (up2 (up2 f 0 i k) 1 i d) 2 i w) 3 i p) c j = f c j := by
  intro c
  simp only [up2_g, ne, and_false, ↓reduceIte]
theorem c_add (hn : 239 ≤ n) (hK : cK s t A) (hA : wfA A) {k d w p : Nat} : ((aE A).1 < 24 → ∃ s' : zS, fX4_add n (mk s) 70 (nI k) (nI d) (nI w) (nI p) = some (nI (aE A).1, mk s') ∧ frC s s' ∧ cK s' t (wtE A (adE (aE A) k d w p))) ∧ (¬ (aE A).1 < 24 → fX4_add n (mk s) 70 (nI k) (nI d) (nI w) (nI p) = some (m1, mk s)) := by
  have h24 := hA.2.2.2.2.2.1
  obtain ⟨q1, q2, q3⟩ := hK.2.2.2.2.2.2.2.2
  unfold fX4_add
  refine ⟨fun h => ?_, fun h => ?_⟩
  · refine ⟨wI (wI (wI (wI (wI s 71 (aE A).1 (nI k)) 72 (aE A).1 (nI d)) 73 (aE A).1 (nI w)) 74 (aE A).1 (nI p)) 70 5 (nI ((aE A).1 + 1)), ?_, ⟨fun a ha => ⟨?_, rfl, rfl⟩, rfl⟩, cK_E hK (fun a ha => ?_) rfl ⟨?_, ?_, fun i hi => ?_⟩⟩
    · simp (disch := first | omega | assumption | (simp only [wL_1, wL_22, wI_2, wA_2, wQ_1, wQ_21] <;> first | assumption | omega)) only [LIT, LITm, nI_add, n_mul, fa_or, n_31m, n_shl0, n_le, n_lt, n_eq, Option.bind_some, B_sn hn, wI_ne, wI_at, upd_at, q1, n_sub, h, Nat.add_sub_cancel, ↓reduceIte]
    · simp (disch := omega) only [wI_ne]
    · simp (disch := omega) only [wI_ne]
    · simp (disch := omega) only [wI_at, upd_at, adE]
    · simp (disch := omega) only [wI_at, wI_ne, upd_ne, adE, q2]
    · by_cases e : i = (aE A).1
      · subst e
        simp (disch := omega) only [wI_at, wI_ne, upd_at, adE, up2_g, and_self, false_and, Nat.reduceEqDiff, Nat.reduceLeDiff, ↓reduceIte]
      · have hi' : i < (aE A).1 := by unfold adE at hi; simp only at hi; omega
        simp (disch := omega) only [wI_at, wI_ne, upd_ne, adE, up2_g, e, and_false, ↓reduceIte]
        exact q3 i hi'
  · simp (disch := first | omega | assumption | (simp only [wL_1, wL_22, wI_2, wA_2, wQ_1, wQ_21] <;> first | assumption | omega)) only [LIT, LITm, nI_add, n_mul, fa_or, n_31m, n_shl0, n_le, n_lt, n_eq, Option.bind_some, B_sn hn, q1, h, ↓reduceIte]
theorem m_noted (hn : 239 ≤ n) (hK : mK s A) (hA : wfA A) (h24 : (aE A).1 < 24) {k d w p : Nat} {vd : Int32} (hvd : vd = if k = 2 then m1 else nI d) : ∃ s' : zS, fX11_noted n (mk s) 187 vd (nI w) (nI p) (nI (if k = 0 then 1 else 0)) = some (nI (aE A).1, mk s') ∧ frM s s' ∧ mK s' (wtE A (adE (aE A) k d w p)) := by
  obtain ⟨q1, q2, q3⟩ := hK.2.2.2.2.2.2
  refine ⟨wI (wI (wI (wI (wI s 233 (4 * (aE A).1) vd) 233 (4 * (aE A).1 + 1) (nI w)) 233 (4 * (aE A).1 + 2) (nI p)) 233 (4 * (aE A).1 + 3) (nI (if k = 0 then 1 else 0))) 187 84 (nI ((aE A).1 + 1)), ?_, ⟨rfl, fun a ha => ⟨?_, rfl⟩⟩, mK_E hK (fun a h1 h2 => ?_) (fun j h1 h2 h3 => ?_) rfl ⟨?_, ?_, fun i hi => ?_⟩⟩
  · unfold fX11_noted
    simp (disch := first | omega | assumption | (simp only [wL_1, wL_22, wI_2, wA_2, wQ_1, wQ_21] <;> first | assumption | omega)) only [LIT, LITm, nI_add, n_mul, fa_or, n_31m, n_shl0, n_le, n_lt, n_eq, Option.bind_some, B_m hn, B_mc hn, wI_ne, wI_at, upd_at, q1, n_sub, Nat.add_sub_cancel]
  · simp (disch := omega) only [wI_ne]
  · simp (disch := omega) only [wI_ne]
  · simp (disch := omega) only [wI_ne, wI_at, upd_ne]
  · simp (disch := omega) only [wI_at, upd_at, adE]
  · simp (disch := omega) only [wI_at, wI_ne, upd_ne, adE, q2]
  · by_cases e : i = (aE A).1
    · subst e
      simp (disch := omega) only [wI_at, wI_ne, upd_at, upd_ne, adE, up2_g, and_self, false_and, Nat.reduceEqDiff, Nat.reduceLeDiff, ↓reduceIte, hvd]
    · have hi' : i < (aE A).1 := by unfold adE at hi; simp only at hi; omega
      simp (disch := omega) only [wI_at, wI_ne, upd_ne, adE, up2_g, e, and_false, ↓reduceIte]
      exact q3 i hi'
def seeOk (A : zA) (x y z : Int32) : Prop := (aE A).1 < 24 ∧ wiV 1 x 60 = true ∧ inR y (aT A 0 2) = true ∧ inR z (aT A 0 0) = true
theorem c_see (hn : 239 ≤ n) (hK : cK s t A) (hA : wfA A) {b : Int32} : (seeOk A x y z → ∃ s' : zS, fX10_see n (mk s) 1 x y z b = some (nI (aE A).1, mk s') ∧ frC s s' ∧ cK s' t (wtE A (adE (aE A) (if b = nI 0 then 1 else 0) x.toNatClampNeg y.toNatClampNeg z.toNatClampNeg))) ∧ (¬ seeOk A x y z → fX10_see n (mk s) 1 x y z b = some (m1, mk s)) := by
  have h0 := hA.1.1
  unfold fX10_see fX10_see_42
  refine ⟨fun h => ?_, fun h => ?_⟩
  · obtain ⟨h1, h2, h3, h4⟩ := h
    obtain ⟨d, -, hd, rfl⟩ := wiV_t (by omega) (by omega) h2
    obtain ⟨w, hw, rfl⟩ := inR_t (by omega) h3
    obtain ⟨p, hp, rfl⟩ := inR_t (by omega) h4
    rw [cl_n (by omega), cl_n (by omega), cl_n (by omega)]
    obtain ⟨sa, ea, fa, ka⟩ := (c_add (k := if b = nI 0 then 1 else 0) (d := d) (w := w) (p := p) hn hK hA).1 h1
    refine ⟨sa, ?_, fa, ka⟩
    by_cases hb : b = nI 0
    · rw [if_pos hb] at ea
      simp (disch := first | omega | assumption | (simp only [wL_1, wL_22, wI_2, wA_2, wQ_1, wQ_21] <;> first | assumption | omega)) only [LIT, LITm, nI_add, n_mul, fa_or, n_31m, n_shl0, n_le, n_lt, n_eq, Option.bind_some, B_K hn, c_within, h2, c_isWalker hn hK hA, h3, c_isPlace hn hK hA, h4, ea, hb, Bool.toNat_true, Nat.reduceEqDiff, Nat.reduceLeDiff, not_false_eq_true, ↓reduceIte]
    · rw [if_neg hb] at ea
      simp (disch := first | omega | assumption | (simp only [wL_1, wL_22, wI_2, wA_2, wQ_1, wQ_21] <;> first | assumption | omega)) only [LIT, LITm, nI_add, n_mul, fa_or, n_31m, n_shl0, n_le, n_lt, n_eq, Option.bind_some, B_K hn, c_within, h2, c_isWalker hn hK hA, h3, c_isPlace hn hK hA, h4, ea, hb, Bool.toNat_true, Nat.reduceEqDiff, Nat.reduceLeDiff, not_false_eq_true, ↓reduceIte]
  · by_cases h2 : wiV 1 x 60 = true
    · by_cases h3 : inR y (aT A 0 2) = true
      · by_cases h4 : inR z (aT A 0 0) = true
        · have h1 : ¬ (aE A).1 < 24 := fun g => h ⟨g, h2, h3, h4⟩
          obtain ⟨d, -, hd, rfl⟩ := wiV_t (by omega) (by omega) h2
          obtain ⟨w, hw, rfl⟩ := inR_t (by omega) h3
          obtain ⟨p, hp, rfl⟩ := inR_t (by omega) h4
          have e1 := (c_add (k := 1) (d := d) (w := w) (p := p) hn hK hA).2 h1
          have e0 := (c_add (k := 0) (d := d) (w := w) (p := p) hn hK hA).2 h1
          by_cases hb : b = nI 0
          · simp (disch := first | omega | assumption | (simp only [wL_1, wL_22, wI_2, wA_2, wQ_1, wQ_21] <;> first | assumption | omega)) only [LIT, LITm, nI_add, n_mul, fa_or, n_31m, n_shl0, n_le, n_lt, n_eq, Option.bind_some, B_K hn, c_within, h2, c_isWalker hn hK hA, h3, c_isPlace hn hK hA, h4, e1, hb, Bool.toNat_true, Nat.reduceEqDiff, Nat.reduceLeDiff, not_false_eq_true, ↓reduceIte]
          · simp (disch := first | omega | assumption | (simp only [wL_1, wL_22, wI_2, wA_2, wQ_1, wQ_21] <;> first | assumption | omega)) only [LIT, LITm, nI_add, n_mul, fa_or, n_31m, n_shl0, n_le, n_lt, n_eq, Option.bind_some, B_K hn, c_within, h2, c_isWalker hn hK hA, h3, c_isPlace hn hK hA, h4, e0, hb, Bool.toNat_true, Nat.reduceEqDiff, Nat.reduceLeDiff, not_false_eq_true, ↓reduceIte]
        · simp (disch := first | omega | assumption | (simp only [wL_1, wL_22, wI_2, wA_2, wQ_1, wQ_21] <;> first | assumption | omega)) only [LIT, LITm, nI_add, n_mul, fa_or, n_31m, n_shl0, n_le, n_lt, n_eq, Option.bind_some, B_K hn, c_within, h2, c_isWalker hn hK hA, h3, c_isPlace hn hK hA, bF h4, Bool.toNat_true, Bool.toNat_false, Nat.reduceEqDiff, Nat.reduceLeDiff, not_true_eq_false, ↓reduceIte]
      · simp (disch := first | omega | assumption | (simp only [wL_1, wL_22, wI_2, wA_2, wQ_1, wQ_21] <;> first | assumption | omega)) only [LIT, LITm, nI_add, n_mul, fa_or, n_31m, n_shl0, n_le, n_lt, n_eq, Option.bind_some, B_K hn, c_within, h2, c_isWalker hn hK hA, bF h3, Bool.toNat_true, Bool.toNat_false, Nat.reduceEqDiff, Nat.reduceLeDiff, ↓reduceIte]
    · simp (disch := first | omega | assumption | (simp only [wL_1, wL_22, wI_2, wA_2, wQ_1, wQ_21] <;> first | assumption | omega)) only [LIT, LITm, nI_add, n_mul, fa_or, n_31m, n_shl0, n_le, n_lt, n_eq, Option.bind_some, B_K hn, c_within, bF h2, Bool.toNat_false, ↓reduceIte]
theorem m_see (hn : 239 ≤ n) (hK : mK s A) (hA : wfA A) {b : Int32} : (seeOk A x y z → ∃ s' : zS, fX11_see n (mk s) 187 x y z b = some (nI (aE A).1, mk s') ∧ frM s s' ∧ mK s' (wtE A (adE (aE A) (if b = nI 0 then 1 else 0) x.toNatClampNeg y.toNatClampNeg z.toNatClampNeg))) ∧ (¬ seeOk A x y z → ∃ s' : zS, fX11_see n (mk s) 187 x y z b = some (m1, mk s') ∧ frT s s') := by
  have hW := hA.1
  have h0 := hW.1
  have h24 := hA.2.2.2.2.2.1
  have ft := m_th s
  have hKt := mK_T hW hK ft
  have hT := hKt.1
  have q1 := hKt.2.2.2.2.2.2.1
  unfold fX11_see fX11_see_40 fX11_see_58
  refine ⟨fun h => ?_, fun h => ?_⟩
  · obtain ⟨h1, h2, h3, h4⟩ := h
    obtain ⟨d, -, hd, rfl⟩ := wiV_t (by omega) (by omega) h2
    obtain ⟨w, hw, rfl⟩ := inR_t (by omega) h3
    obtain ⟨p, hp, rfl⟩ := inR_t (by omega) h4
    rw [cl_n (by omega), cl_n (by omega), cl_n (by omega)]
    obtain ⟨sa, ea, fa, ka⟩ := m_noted (k := if b = nI 0 then 1 else 0) (d := d) (w := w) (p := p) (vd := nI d) hn hKt hA h1 (by split <;> simp)
    refine ⟨sa, ?_, frM_t (frT_M ft) fa, ka⟩
    by_cases hb : b = nI 0
    · rw [if_pos hb] at ea
      simp (disch := first | omega | assumption | (simp only [wL_1, wL_22, wI_2, wA_2, wQ_1, wQ_21] <;> first | assumption | omega)) only [LIT, LITm, nI_add, n_mul, fa_or, n_31m, n_shl0, n_le, n_lt, n_eq, Option.bind_some, B_m hn, q1, m_within, h2, m_isWalker hn hT, h3, m_isPlace hn hT, h4, ea, hb, show ¬ (aE A).1 = 24 by omega, Bool.toNat_true, Nat.reduceEqDiff, Nat.reduceLeDiff, not_false_eq_true, ↓reduceIte]
      simp only [Nat.reduceEqDiff, Nat.reduceLeDiff, ↓reduceIte] at ea
      simp only [ea, Option.bind_some]
    · rw [if_neg hb] at ea
      simp only [↓reduceIte] at ea
      simp (disch := first | omega | assumption | (simp only [wL_1, wL_22, wI_2, wA_2, wQ_1, wQ_21] <;> first | assumption | omega)) only [LIT, LITm, nI_add, n_mul, fa_or, n_31m, n_shl0, n_le, n_lt, n_eq, Option.bind_some, B_m hn, q1, m_within, h2, m_isWalker hn hT, h3, m_isPlace hn hT, h4, ea, hb, show ¬ (aE A).1 = 24 by omega, Bool.toNat_true, Nat.reduceEqDiff, Nat.reduceLeDiff, not_false_eq_true, ↓reduceIte]
  · refine ⟨wI s 187 2 (nI 0), ?_, ft⟩
    by_cases h1 : (aE A).1 = 24
    · simp (disch := first | omega | assumption | (simp only [wL_1, wL_22, wI_2, wA_2, wQ_1, wQ_21] <;> first | assumption | omega)) only [LIT, LITm, nI_add, n_mul, fa_or, n_31m, n_shl0, n_le, n_lt, n_eq, Option.bind_some, B_m hn, q1, h1, ↓reduceIte]
    · by_cases h2 : wiV 1 x 60 = true
      · by_cases h3 : inR y (aT A 0 2) = true
        · have h4 : ¬ inR z (aT A 0 0) = true := fun g => h ⟨by omega, h2, h3, g⟩
          simp (disch := first | omega | assumption | (simp only [wL_1, wL_22, wI_2, wA_2, wQ_1, wQ_21] <;> first | assumption | omega)) only [LIT, LITm, nI_add, n_mul, fa_or, n_31m, n_shl0, n_le, n_lt, n_eq, Option.bind_some, B_m hn, q1, h1, m_within, h2, m_isWalker hn hT, h3, m_isPlace hn hT, bF h4, Bool.toNat_true, Bool.toNat_false, Nat.reduceEqDiff, Nat.reduceLeDiff, not_true_eq_false, ↓reduceIte]
        · simp (disch := first | omega | assumption | (simp only [wL_1, wL_22, wI_2, wA_2, wQ_1, wQ_21] <;> first | assumption | omega)) only [LIT, LITm, nI_add, n_mul, fa_or, n_31m, n_shl0, n_le, n_lt, n_eq, Option.bind_some, B_m hn, q1, h1, m_within, h2, m_isWalker hn hT, bF h3, Bool.toNat_true, Bool.toNat_false, Nat.reduceEqDiff, Nat.reduceLeDiff, ↓reduceIte]
      · simp (disch := first | omega | assumption | (simp only [wL_1, wL_22, wI_2, wA_2, wQ_1, wQ_21] <;> first | assumption | omega)) only [LIT, LITm, nI_add, n_mul, fa_or, n_31m, n_shl0, n_le, n_lt, n_eq, Option.bind_some, B_m hn, q1, h1, m_within, bF h2, Bool.toNat_false, ↓reduceIte]
def strOk (A : zA) (x : Int32) : Prop := (aE A).1 < 24 ∧ inR x (aE A).1 = true
theorem nltle (x y : Int32) : (x < y) = ¬ (y ≤ x) := propext ⟨fun h => by rw [fa_le]; rw [fa_lt] at h; omega, fun h => by rw [fa_lt]; rw [fa_le] at h; omega⟩
theorem c_strike (hn : 239 ≤ n) (hK : cK s t A) (hA : wfA A) : (strOk A x → ∃ s' : zS, fX10_strike n (mk s) 1 x = some (nI (aE A).1, mk s') ∧ frC s s' ∧ cK s' t (wtE A (adE (aE A) 2 0 x.toNatClampNeg 0))) ∧ (¬ strOk A x → fX10_strike n (mk s) 1 x = some (m1, mk s)) := by
  have h24 := hA.2.2.2.2.2.1
  have q1 := hK.2.2.2.2.2.2.2.2.1
  unfold fX10_strike
  refine ⟨fun h => ?_, fun h => ?_⟩
  · obtain ⟨h1, h2⟩ := h
    obtain ⟨k, hk, rfl⟩ := inR_t (by omega) h2
    rw [cl_n (by omega)]
    obtain ⟨sa, ea, fa, ka⟩ := (c_add (k := 2) (d := 0) (w := k) (p := 0) hn hK hA).1 h1
    refine ⟨sa, ?_, fa, ka⟩
    simp (disch := first | omega | assumption | (simp only [wL_1, wL_22, wI_2, wA_2, wQ_1, wQ_21] <;> first | assumption | omega)) only [LIT, LITm, nI_add, n_mul, fa_or, n_31m, n_shl0, n_le, n_lt, n_eq, Option.bind_some, B_K hn, B_sn hn, q1, ea, Nat.not_lt_zero, hk, ↓reduceIte]
  · by_cases hx : x < nI 0
    · simp (disch := first | omega | assumption | (simp only [wL_1, wL_22, wI_2, wA_2, wQ_1, wQ_21] <;> first | assumption | omega)) only [LIT, LITm, nI_add, n_mul, fa_or, n_31m, n_shl0, n_le, n_lt, n_eq, Option.bind_some, B_K hn, hx, ↓reduceIte]
    · by_cases hy : x < nI (aE A).1
      · have h2 : inR x (aE A).1 = true := decide_eq_true ⟨hx, by rw [nltle] at hy; exact hy⟩
        have h1 : ¬ (aE A).1 < 24 := fun g => h ⟨g, h2⟩
        obtain ⟨k, hk, rfl⟩ := inR_t (by omega) h2
        have e1 := (c_add (k := 2) (d := 0) (w := k) (p := 0) hn hK hA).2 h1
        simp (disch := first | omega | assumption | (simp only [wL_1, wL_22, wI_2, wA_2, wQ_1, wQ_21] <;> first | assumption | omega)) only [LIT, LITm, nI_add, n_mul, fa_or, n_31m, n_shl0, n_le, n_lt, n_eq, Option.bind_some, B_K hn, B_sn hn, q1, e1, Nat.not_lt_zero, hk, ↓reduceIte]
      · simp (disch := first | omega | assumption | (simp only [wL_1, wL_22, wI_2, wA_2, wQ_1, wQ_21] <;> first | assumption | omega)) only [LIT, LITm, nI_add, n_mul, fa_or, n_31m, n_shl0, n_le, n_lt, n_eq, Option.bind_some, B_K hn, B_sn hn, q1, hx, hy, ↓reduceIte]
theorem m_strike (hn : 239 ≤ n) (hK : mK s A) (hA : wfA A) : (strOk A x → ∃ s' : zS, fX11_strike n (mk s) 187 x = some (nI (aE A).1, mk s') ∧ frM s s' ∧ mK s' (wtE A (adE (aE A) 2 0 x.toNatClampNeg 0))) ∧ (¬ strOk A x → ∃ s' : zS, fX11_strike n (mk s) 187 x = some (m1, mk s') ∧ frT s s') := by
  have hW := hA.1
  have h24 := hA.2.2.2.2.2.1
  have ft := m_th s
  have hKt := mK_T hW hK ft
  have q1 := hKt.2.2.2.2.2.2.1
  unfold fX11_strike fX11_strike_26
  refine ⟨fun h => ?_, fun h => ?_⟩
  · obtain ⟨h1, h2⟩ := h
    obtain ⟨k, hk, rfl⟩ := inR_t (by omega) h2
    rw [cl_n (by omega)]
    obtain ⟨sa, ea, fa, ka⟩ := m_noted (k := 2) (d := 0) (w := k) (p := 0) (vd := m1) hn hKt hA h1 rfl
    refine ⟨sa, ?_, frM_t (frT_M ft) fa, ka⟩
    simp only [Nat.reduceEqDiff, Nat.reduceLeDiff, ↓reduceIte] at ea
    simp (disch := first | omega | assumption | (simp only [wL_1, wL_22, wI_2, wA_2, wQ_1, wQ_21] <;> first | assumption | omega)) only [LIT, LITm, nI_add, n_mul, fa_or, n_31m, n_shl0, n_le, n_lt, n_eq, Option.bind_some, B_m hn, q1, ea, Nat.not_lt_zero, hk, show ¬ (aE A).1 = 24 by omega, ↓reduceIte]
  · refine ⟨wI s 187 2 (nI 0), ?_, ft⟩
    by_cases h1 : (aE A).1 = 24
    · simp (disch := first | omega | assumption | (simp only [wL_1, wL_22, wI_2, wA_2, wQ_1, wQ_21] <;> first | assumption | omega)) only [LIT, LITm, nI_add, n_mul, fa_or, n_31m, n_shl0, n_le, n_lt, n_eq, Option.bind_some, B_m hn, q1, h1, ↓reduceIte]
    · by_cases hx : x < nI 0
      · simp (disch := first | omega | assumption | (simp only [wL_1, wL_22, wI_2, wA_2, wQ_1, wQ_21] <;> first | assumption | omega)) only [LIT, LITm, nI_add, n_mul, fa_or, n_31m, n_shl0, n_le, n_lt, n_eq, Option.bind_some, B_m hn, q1, h1, hx, ↓reduceIte]
      · have hy : ¬ x < nI (aE A).1 := fun hy => h ⟨by omega, decide_eq_true ⟨hx, by rw [nltle] at hy; exact hy⟩⟩
        simp (disch := first | omega | assumption | (simp only [wL_1, wL_22, wI_2, wA_2, wQ_1, wQ_21] <;> first | assumption | omega)) only [LIT, LITm, nI_add, n_mul, fa_or, n_31m, n_shl0, n_le, n_lt, n_eq, Option.bind_some, B_m hn, q1, h1, hx, hy, ↓reduceIte]
def knOk (A : zA) (x : Int32) : Prop := m1 ≤ x ∧ x ≤ nI (aE A).1
theorem c_known (hn : 239 ≤ n) (hK : cK s t A) : (knOk A x → ∃ s' : zS, fX10_known n (mk s) 1 x = some (nI 1, mk s') ∧ frC s s' ∧ cK s' t (wtE A ((aE A).1, x, (aE A).2.2))) ∧ (¬ knOk A x → fX10_known n (mk s) 1 x = some (nI 0, mk s)) := by
  obtain ⟨q1, q2, q3⟩ := hK.2.2.2.2.2.2.2.2
  unfold fX10_known
  refine ⟨fun h => ?_, fun h => ?_⟩
  · refine ⟨wI s 70 6 x, ?_, ⟨fun a ha => ⟨wI_ne (by omega), rfl, rfl⟩, rfl⟩, cK_E hK (fun a ha => wI_ne (by omega)) rfl ⟨?_, ?_, fun i hi => ?_⟩⟩
    · have h' : m1 ≤ x ∧ x ≤ nI (aE A).1 := h
      simp (disch := first | omega | assumption | (simp only [wL_1, wL_22, wI_2, wA_2, wQ_1, wQ_21] <;> first | assumption | omega)) only [LIT, LITm, nI_add, n_mul, fa_or, n_31m, n_shl0, n_le, n_lt, n_eq, Option.bind_some, B_K hn, B_sn hn, q1, c_isWithin, h', and_self, Nat.reduceEqDiff, Nat.reduceLeDiff, not_false_eq_true, ↓reduceIte]
    · simp (disch := omega) only [wI_at, upd_ne]; exact q1
    · simp only [wI_at, upd_at]
    · simp (disch := omega) only [wI_ne]; exact q3 i hi
  · have h' : ¬ (m1 ≤ x ∧ x ≤ nI (aE A).1) := h
    simp (disch := first | omega | assumption | (simp only [wL_1, wL_22, wI_2, wA_2, wQ_1, wQ_21] <;> first | assumption | omega)) only [LIT, LITm, nI_add, n_mul, fa_or, n_31m, n_shl0, n_le, n_lt, n_eq, Option.bind_some, B_K hn, B_sn hn, q1, c_isWithin, h', not_true_eq_false, ↓reduceIte]
theorem m_known (hn : 239 ≤ n) (hK : mK s A) (hA : wfA A) : (knOk A x → ∃ s' : zS, fX11_known n (mk s) 187 x = some (nI 1, mk s') ∧ frM s s' ∧ mK s' (wtE A ((aE A).1, x, (aE A).2.2))) ∧ (¬ knOk A x → ∃ s' : zS, fX11_known n (mk s) 187 x = some (nI 0, mk s') ∧ frT s s') := by
  have hW := hA.1
  have ft := m_th s
  have hKt := mK_T hW hK ft
  obtain ⟨q1, q2, q3⟩ := hKt.2.2.2.2.2.2
  unfold fX11_known
  refine ⟨fun h => ?_, fun h => ?_⟩
  · refine ⟨wI (wI s 187 2 (nI 0)) 187 85 x, ?_, frM_t (frT_M ft) ⟨rfl, fun a ha => ⟨wI_ne (by omega), rfl⟩⟩, mK_E hKt (fun a h1 _ => wI_ne h1) (fun j h1 h2 h3 => by rw [wI_at, upd_ne h3]) rfl ⟨?_, ?_, fun i hi => ?_⟩⟩
    · have h' : m1 ≤ x ∧ x ≤ nI (aE A).1 := h
      simp (disch := first | omega | assumption | (simp only [wL_1, wL_22, wI_2, wA_2, wQ_1, wQ_21] <;> first | assumption | omega)) only [LIT, LITm, nI_add, n_mul, fa_or, n_31m, n_shl0, n_le, n_lt, n_eq, Option.bind_some, B_m hn, q1, m_isIn, h', and_self, Nat.reduceEqDiff, Nat.reduceLeDiff, not_false_eq_true, ↓reduceIte]
    · rw [wI_at, upd_ne (by omega)]; exact q1
    · rw [wI_at, upd_at]
    · rw [wI_ne (by omega)]; exact q3 i hi
  · refine ⟨wI s 187 2 (nI 0), ?_, ft⟩
    have h' : ¬ (m1 ≤ x ∧ x ≤ nI (aE A).1) := h
    simp (disch := first | omega | assumption | (simp only [wL_1, wL_22, wI_2, wA_2, wQ_1, wQ_21] <;> first | assumption | omega)) only [LIT, LITm, nI_add, n_mul, fa_or, n_31m, n_shl0, n_le, n_lt, n_eq, Option.bind_some, B_m hn, q1, m_isIn, h', not_true_eq_false, ↓reduceIte]
theorem kn_b (h : knOk A x) (h24 : (aE A).1 ≤ 24) : x = m1 ∨ ∃ k, k ≤ (aE A).1 ∧ x = nI k := by
  obtain ⟨h1, h2⟩ := h
  rw [fa_le, show m1.toInt = -1 by decide] at h1
  rw [fa_le, nI_toInt (by omega)] at h2
  by_cases g : x.toInt = -1
  · exact Or.inl (Int32.toInt_inj.mp (by rw [g]; decide))
  · have h3 : ¬ x < 0 := by
      rw [fa_lt, show (0 : Int32).toInt = 0 by decide]
      omega
    obtain ⟨j, hj, rfl⟩ := nI_of h3
    rw [nI_toInt hj] at h2
    exact Or.inr ⟨j, by omega, rfl⟩
theorem wfE_known (hA : wfA A) (h : knOk A x) : wfA (wtE A ((aE A).1, x, (aE A).2.2)) := by
  obtain ⟨h1, h2, h3, h4, h5, h6, h7, h8⟩ := hA
  exact ⟨h1, h2, h3, h4, h5, h6, kn_b h h6, h8⟩
theorem wfE_ad (hA : wfA A) {k d w p : Nat} (h : (aE A).1 < 24) (hr : (k ≤ 1 ∧ 1 ≤ d ∧ d ≤ 60 ∧ w < aT A 0 2 ∧ p < aT A 0 0) ∨ (k = 2 ∧ d = 0 ∧ w < (aE A).1 ∧ p = 0)) : wfA (wtE A (adE (aE A) k d w p)) := by
  obtain ⟨h1, h2, h3, h4, h5, h6, h7, h8⟩ := hA
  refine ⟨h1, h2, h3, h4, h5, ?_, ?_, fun i hi => ?_⟩
  · show (aE A).1 + 1 ≤ 24
    omega
  · rcases h7 with e | ⟨j, hj, e⟩
    · exact Or.inl e
    · exact Or.inr ⟨j, Nat.le_trans hj (Nat.le_succ _), e⟩
  · have hi' : i < (aE A).1 + 1 := hi
    show ((up2 (up2 (up2 (up2 (aE A).2.2 0 (aE A).1 k) 1 (aE A).1 d) 2 (aE A).1 w) 3 (aE A).1 p) 0 i ≤ 1 ∧ _) ∨ _
    by_cases e : i = (aE A).1
    · subst e
      show _ ∨ ((up2 (up2 (up2 (up2 (aE A).2.2 0 (aE A).1 k) 1 (aE A).1 d) 2 (aE A).1 w) 3 (aE A).1 p) 0 (aE A).1 = 2 ∧ _)
      simp only [wtE, adE, up2_g, and_self, false_and, Nat.reduceEqDiff, Nat.reduceLeDiff, ↓reduceIte]
      exact hr
    · have := h8 i (by omega)
      simp only [wtE, adE, up2_g, e, and_false, ↓reduceIte]
      exact this
end La
