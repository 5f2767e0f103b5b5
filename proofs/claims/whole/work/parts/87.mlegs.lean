/-! ===== legs by what was seen: the reference ===== -/
section Ml
variable {n w l d k b : Nat} {s : zS} {T : zT} {E : zE} {A : zA} {S : zD} {O : zO} {x : Int32}
theorem mSn_fr {s' : zS} (h : mSn s E) (e1 : s'.1 187 84 = s.1 187 84) (e2 : s'.1 187 85 = s.1 187 85) (e3 : s'.1 233 = s.1 233) : mSn s' E := by
  unfold mSn
  rw [e1, e2, e3]
  exact h
theorem m_layCounts (hn : 239 ≤ n) (hS : mSn s E) (hE : wE T E) : ∃ s' : zS, fX11_layCounts n (mk s) 187 = some ((), mk s') ∧ (∀ a, a ≠ 234 → s'.1 a = s.1 a) ∧ s'.2 = s.2 ∧ ∀ j, j < knV E → s'.1 234 j = nI (CV E j).toNat := by
  have h24 := hE.1
  have hle := (knV_c hE).1
  have kb : ∀ s1 : zS, (∀ a, a ≠ 234 → s1.1 a = s.1 a) → fX11_knownBy n (mk s1) 187 = some (nI (knV E), mk s1) := fun s1 h => m_knownBy hn (mSn_fr hS (by rw [h 187 (by omega)]) (by rw [h 187 (by omega)]) (h 233 (by omega))) hE
  unfold fX11_layCounts
  simp only [B_m hn, Option.bind_some, LIT]
  refine lp_up (F := fun f (s1 : zS) i => fX11_layCounts_2 n f (mk s1) 187 (nI i)) (N := knV E) (P := fun i s1 => (∀ a, a ≠ 234 → s1.1 a = s.1 a) ∧ s1.2 = s.2 ∧ ∀ j, j < i → s1.1 234 j = nI 1) (Q := fun r => ∃ s' : zS, r = some ((), mk s') ∧ (∀ a, a ≠ 234 → s'.1 a = s.1 a) ∧ s'.2 = s.2 ∧ ∀ j, j < knV E → s'.1 234 j = nI (CV E j).toNat) ?_ ?_ (knV E) bi_K s 0 (by omega) (by unfold bi_K; omega) ⟨fun _ _ => rfl, rfl, fun j h => absurd h (Nat.not_lt_zero j)⟩
  · intro f s1 i hi hP
    left
    refine ⟨wI s1 234 i (nI 1), ?_, fun a ha => by rw [wI_ne ha]; exact hP.1 a ha, hP.2.1, fun j hj => ?_⟩
    · show fX11_layCounts_2b n (fX11_layCounts_2 n f) (mk s1) 187 (nI i) = _
      unfold fX11_layCounts_2b
      simp (disch := first | omega | assumption | (simp only [wL_1, wL_22, wI_2, wA_2, wQ_1, wQ_21] <;> first | assumption | omega)) only [LIT, LITm, nI_add, n_mul, fa_or, n_31m, n_shl0, n_le, n_lt, n_eq, Option.bind_some, B_m hn, B_mc hn, kb s1 hP.1, nar_b (show 1 ≤ 1 by omega), show ¬ knV E ≤ i by omega, ↓reduceIte]
    · by_cases q : j = i
      · rw [q, wI_at, upd_at]
      · rw [wI_at, upd_ne q]
        exact hP.2.2 j (by omega)
  · intro f s1 hP
    have e0 : fX11_layCounts_2 n (f + 1) (mk s1) 187 (nI (knV E)) = fX11_layCounts_30 n bi_K (mk s1) 187 (idV (knV E) 0) := by
      show fX11_layCounts_2b n (fX11_layCounts_2 n f) (mk s1) 187 (nI (knV E)) = _
      unfold fX11_layCounts_2b
      simp (disch := first | omega | assumption | (simp only [wL_1, wL_22, wI_2, wA_2, wQ_1, wQ_21] <;> first | assumption | omega)) only [LIT, LITm, nI_add, n_mul, fa_or, n_31m, n_shl0, n_le, n_lt, n_eq, Option.bind_some, kb s1 hP.1, id_0, Nat.le_refl, ↓reduceIte]
    show ∃ s' : zS, fX11_layCounts_2 n (f + 1) (mk s1) 187 (nI (knV E)) = some ((), mk s') ∧ _
    rw [e0]
    refine lp_up (F := fun f (s2 : zS) i => fX11_layCounts_30 n f (mk s2) 187 (idV (knV E) i)) (N := knV E) (P := fun i s2 => (∀ a, a ≠ 234 → s2.1 a = s.1 a) ∧ s2.2 = s.2 ∧ ∀ j, j < knV E → s2.1 234 j = nI (cuV E i j).toNat) (Q := fun r => ∃ s' : zS, r = some ((), mk s') ∧ (∀ a, a ≠ 234 → s'.1 a = s.1 a) ∧ s'.2 = s.2 ∧ ∀ j, j < knV E → s'.1 234 j = nI (CV E j).toNat) ?_ ?_ (knV E) bi_K s1 0 (by omega) (by unfold bi_K; omega) ⟨hP.1, hP.2.1, fun j hj => by rw [hP.2.2 j hj, show cuV E 0 j = true from decide_eq_true hj]; rfl⟩
    · rintro f s2 k hk ⟨g1, g2, g3⟩
      left
      obtain ⟨i, ei⟩ : ∃ i, i = knV E - 1 - k := ⟨_, rfl⟩
      have hi : i < E.1 := by omega
      have c := g3 i (by omega)
      obtain ⟨r1, r2, r3, r4⟩ := hS.2.2 i hi
      rw [← g1 233 (by omega)] at r1 r2 r3 r4
      have is := id_s hk
      rw [← ei] at is
      have lt0 : (nI i < nI 0) = False := n_lt0 (by omega)
      have up : cuV E (k + 1) = fun j => if cuV E k i = true ∧ E.2.2 0 i = 2 ∧ j = E.2.2 2 i then false else cuV E k j := by
        funext j
        rw [ei]
        rfl
      show ∃ q : zS, fX11_layCounts_30 n (f + 1) (mk s2) 187 (idV (knV E) k) = _ ∧ _
      have e1 : fX11_layCounts_30 n (f + 1) (mk s2) 187 (idV (knV E) k) = fX11_layCounts_30b n (fX11_layCounts_30 n f) (mk s2) 187 (nI i) := by
        unfold idV
        rw [if_pos hk, ← ei]
        rfl
      rw [e1]
      unfold fX11_layCounts_30b fX11_layCounts_70
      cases ec : cuV E k i with
      | false =>
        rw [ec] at c
        refine ⟨s2, ?_, g1, g2, fun j hj => ?_⟩
        · simp (disch := first | omega | assumption | (simp only [wL_1, wL_22, wI_2, wA_2, wQ_1, wQ_21] <;> first | assumption | omega)) only [LIT, LITm, nI_add, n_mul, fa_or, n_31m, n_shl0, n_le, n_lt, n_eq, Option.bind_some, B_m hn, B_mc hn, c, lt0, is, Bool.toNat_false, if_false, ↓reduceIte]
        · rw [g3 j hj, up, ec]
          simp only [Bool.false_eq_true, false_and, if_false]
      | true =>
        rw [ec] at c
        by_cases q : E.2.2 0 i = 2
        · rcases hE.2.2 i hi with h | ⟨-, -, h, -⟩
          · omega
          rw [if_pos q] at r1
          refine ⟨wI s2 234 (E.2.2 2 i) (nI 0), ?_, fun a ha => by rw [wI_ne ha]; exact g1 a ha, g2, fun j hj => ?_⟩
          · simp (disch := first | omega | assumption | (simp only [wL_1, wL_22, wI_2, wA_2, wQ_1, wQ_21] <;> first | assumption | omega)) only [LIT, LITm, nI_add, n_mul, fa_or, n_31m, n_shl0, n_le, n_lt, n_eq, Option.bind_some, B_m hn, B_mc hn, c, lt0, is, r1, r2, n_m1le0, nar_b (show 0 ≤ 1 by omega), Bool.toNat_true, Nat.reduceEqDiff, Nat.reduceLeDiff, if_false, ↓reduceIte]
          · rw [up, ec, q]
            by_cases e : j = E.2.2 2 i
            · rw [e, wI_at, upd_at]
              simp only [true_and, if_true, Bool.toNat_false]
            · rw [wI_at, upd_ne e, g3 j hj]
              simp only [e, and_false, if_false]
        · rw [if_neg q] at r1
          refine ⟨s2, ?_, g1, g2, fun j hj => ?_⟩
          · have : E.2.2 1 i ≤ 60 := by
              rcases hE.2.2 i hi with h | ⟨h, -⟩
              · exact h.2.2.1
              · exact absurd h q
            simp (disch := first | omega | assumption | (simp only [wL_1, wL_22, wI_2, wA_2, wQ_1, wQ_21] <;> first | assumption | omega)) only [LIT, LITm, nI_add, n_mul, fa_or, n_31m, n_shl0, n_le, n_lt, n_eq, Option.bind_some, B_m hn, B_mc hn, c, lt0, is, r1, Nat.zero_le, Bool.toNat_true, Nat.reduceEqDiff, Nat.reduceLeDiff, if_false, ↓reduceIte]
          · rw [g3 j hj, up]
            simp only [q, false_and, and_false, if_false]
    · rintro f s2 ⟨g1, g2, g3⟩
      refine ⟨s2, ?_, g1, g2, g3⟩
      show fX11_layCounts_30b n (fX11_layCounts_30 n f) (mk s2) 187 (idV (knV E) (knV E)) = _
      unfold fX11_layCounts_30b idV
      rw [if_neg (Nat.lt_irrefl _)]
      simp (disch := first | omega | assumption | (simp only [wL_1, wL_22, wI_2, wA_2, wQ_1, wQ_21] <;> first | assumption | omega)) only [LIT, LITm, nI_add, n_mul, fa_or, n_31m, n_shl0, n_le, n_lt, n_eq, Option.bind_some, n_m1lt, if_true, ↓reduceIte]
/-- half b is as a text tells it at first -/
def mS0 (s : zS) (b : Nat) (T : zT) : Prop := (s.1 226 b = nI 0 ∧ s.1 224 b = nI 0 ∧ s.1 225 b = nI 0) ∧ (∀ p, p < T 0 1 → s.1 221 (9 * b + p) = nI (T 7 p) ∧ s.1 222 (9 * b + p) = nI 1 ∧ s.1 223 (9 * b + p) = nI 0) ∧ ∀ w, w < T 0 2 → s.1 219 (4 * b + w) = nI (T 9 w) ∧ s.1 220 (4 * b + w) = nI (T 11 w)
theorem m_first (hn : 239 ≤ n) (hW : WT T) (hT : mTd s.1 T) (hb : b ≤ 1) : ∃ s' : zS, fX11_atFirst n (mk s) 187 (nI b) = some ((), mk s') ∧ s'.2 = s.2 ∧ (∀ a j, ¬ hfM b a j → s'.1 a j = s.1 a j) ∧ mS0 s' b T := by
  have h0 := hW.1
  unfold fX11_atFirst
  simp only [B_m hn, Option.bind_some, LIT]
  refine lp_up (F := fun f (s1 : zS) i => fX11_atFirst_2 n f (mk s1) 187 (nI b) (nI i)) (N := 4) (P := fun i s1 => s1.2 = s.2 ∧ (∀ a j, ¬ hfM b a j → s1.1 a j = s.1 a j) ∧ ∀ w, w < i → s1.1 219 (4 * b + w) = s.1 200 w ∧ s1.1 220 (4 * b + w) = s.1 202 w) (Q := fun r => ∃ s' : zS, r = some ((), mk s') ∧ s'.2 = s.2 ∧ (∀ a j, ¬ hfM b a j → s'.1 a j = s.1 a j) ∧ mS0 s' b T) ?_ ?_ 4 bi_K s 0 (by omega) (by unfold bi_K; omega) ⟨rfl, fun _ _ _ => rfl, fun j h => absurd h (Nat.not_lt_zero j)⟩
  · rintro f s1 i hi ⟨g1, g2, g3⟩
    left
    have e1 : s1.1 200 i = s.1 200 i := g2 200 i (by unfold hfM; omega)
    have e2 : s1.1 202 i = s.1 202 i := g2 202 i (by unfold hfM; omega)
    refine ⟨wI (wI s1 219 (4 * b + i) (s.1 200 i)) 220 (4 * b + i) (s.1 202 i), ?_, g1, fun a j h => ?_, fun w hw => ?_⟩
    · show fX11_atFirst_2b n (fX11_atFirst_2 n f) (mk s1) 187 (nI b) (nI i) = _
      unfold fX11_atFirst_2b
      simp (disch := first | omega | assumption | (simp only [wL_1, wL_22, wI_2, wA_2, wQ_1, wQ_21] <;> first | assumption | omega)) only [LIT, LITm, nI_add, n_mul, fa_or, n_31m, n_shl0, n_le, n_lt, n_eq, Option.bind_some, B_m hn, B_ma hn, B_mb hn, B_mc hn, wI_ne, e1, e2, show ¬ 4 ≤ i by omega, ↓reduceIte]
    · rw [wI_g, if_neg (fun q => h (by unfold hfM; omega)), wI_g, if_neg (fun q => h (by unfold hfM; omega))]
      exact g2 a j h
    · rw [wI_ne (show (219 : Nat) ≠ 220 by omega), wI_at, wI_at, wI_ne (show (220 : Nat) ≠ 219 by omega)]
      by_cases q : w = i
      · rw [q, upd_at, upd_at]
        exact ⟨rfl, rfl⟩
      · rw [upd_ne (by omega), upd_ne (by omega)]
        exact g3 w (by omega)
  · rintro f s1 ⟨g1, g2, g3⟩
    have e0 : fX11_atFirst_2 n (f + 1) (mk s1) 187 (nI b) (nI 4) = fX11_atFirst_47 n bi_K (mk s1) 187 (nI b) (nI 0) := by
      show fX11_atFirst_2b n (fX11_atFirst_2 n f) (mk s1) 187 (nI b) (nI 4) = _
      unfold fX11_atFirst_2b
      simp (disch := first | omega | assumption | (simp only [wL_1, wL_22, wI_2, wA_2, wQ_1, wQ_21] <;> first | assumption | omega)) only [LIT, LITm, nI_add, n_mul, fa_or, n_31m, n_shl0, n_le, n_lt, n_eq, Option.bind_some, Nat.le_refl, ↓reduceIte]
    show ∃ s' : zS, fX11_atFirst_2 n (f + 1) (mk s1) 187 (nI b) (nI 4) = some ((), mk s') ∧ _
    rw [e0]
    refine lp_up (F := fun f (s2 : zS) i => fX11_atFirst_47 n f (mk s2) 187 (nI b) (nI i)) (N := 9) (P := fun i s2 => s2.2 = s.2 ∧ (∀ a j, ¬ hfM b a j → s2.1 a j = s.1 a j) ∧ (s2.1 219 = s1.1 219 ∧ s2.1 220 = s1.1 220) ∧ ∀ p, p < i → s2.1 221 (9 * b + p) = s.1 198 p ∧ s2.1 222 (9 * b + p) = nI 1 ∧ s2.1 223 (9 * b + p) = nI 0) (Q := fun r => ∃ s' : zS, r = some ((), mk s') ∧ s'.2 = s.2 ∧ (∀ a j, ¬ hfM b a j → s'.1 a j = s.1 a j) ∧ mS0 s' b T) ?_ ?_ 9 bi_K s1 0 (by omega) (by unfold bi_K; omega) ⟨g1, g2, ⟨rfl, rfl⟩, fun j h => absurd h (Nat.not_lt_zero j)⟩
    · rintro f s2 i hi ⟨q1, q2, q3, q4⟩
      left
      have e1 : s2.1 198 i = s.1 198 i := q2 198 i (by unfold hfM; omega)
      refine ⟨wI (wI (wI s2 221 (9 * b + i) (s.1 198 i)) 222 (9 * b + i) (nI 1)) 223 (9 * b + i) (nI 0), ?_, q1, fun a j h => ?_, ⟨?_, ?_⟩, fun p hp => ?_⟩
      · show fX11_atFirst_47b n (fX11_atFirst_47 n f) (mk s2) 187 (nI b) (nI i) = _
        unfold fX11_atFirst_47b
        simp (disch := first | omega | assumption | (simp only [wL_1, wL_22, wI_2, wA_2, wQ_1, wQ_21] <;> first | assumption | omega)) only [LIT, LITm, nI_add, n_mul, fa_or, n_31m, n_shl0, n_le, n_lt, n_eq, Option.bind_some, B_m hn, B_ma hn, B_mb hn, B_mc hn, e1, nar_b (show 1 ≤ 1 by omega), show ¬ 9 ≤ i by omega, ↓reduceIte]
      · rw [wI_g, if_neg (fun q => h (by unfold hfM; omega)), wI_g, if_neg (fun q => h (by unfold hfM; omega)), wI_g, if_neg (fun q => h (by unfold hfM; omega))]
        exact q2 a j h
      · simp (disch := omega) only [wI_ne]; exact q3.1
      · simp (disch := omega) only [wI_ne]; exact q3.2
      · by_cases q : p = i
        · rw [q]
          simp (disch := omega) only [wI_at, wI_ne, upd_at, and_self]
        · simp (disch := omega) only [wI_at, wI_ne, upd_ne]
          exact q4 p (by omega)
    · rintro f s2 ⟨q1, q2, q3, q4⟩
      refine ⟨wI (wI (wI s2 224 b (nI 0)) 225 b (nI 0)) 226 b (nI 0), ?_, q1, fun a j h => ?_, ⟨⟨?_, ?_, ?_⟩, fun p hp => ?_, fun w hw => ?_⟩⟩
      · show fX11_atFirst_47b n (fX11_atFirst_47 n f) (mk s2) 187 (nI b) (nI 9) = _
        unfold fX11_atFirst_47b
        simp (disch := first | omega | assumption | (simp only [wL_1, wL_22, wI_2, wA_2, wQ_1, wQ_21] <;> first | assumption | omega)) only [LIT, LITm, nI_add, n_mul, fa_or, n_31m, n_shl0, n_le, n_lt, n_eq, Option.bind_some, B_m hn, B_mb hn, B_mc hn, Nat.le_refl, ↓reduceIte]
      · rw [wI_g, if_neg (fun q => h (by unfold hfM; omega)), wI_g, if_neg (fun q => h (by unfold hfM; omega)), wI_g, if_neg (fun q => h (by unfold hfM; omega))]
        exact q2 a j h
      · simp (disch := omega) only [wI_at, wI_ne, upd_at]
      · simp (disch := omega) only [wI_at, wI_ne, upd_at]
      · simp (disch := omega) only [wI_at, wI_ne, upd_at]
      · simp (disch := omega) only [wI_ne]
        obtain ⟨a1, a2, a3⟩ := q4 p (by omega)
        exact ⟨by rw [a1]; exact (hT.2.2.2.1 p hp).2.2.2.2.2, a2, a3⟩
      · simp (disch := omega) only [wI_ne]
        rw [q3.1, q3.2]
        obtain ⟨a1, a2⟩ := g3 w (by omega)
        have := hT.2.2.2.2.1 w hw
        exact ⟨by rw [a1]; exact this.2.1, by rw [a2]; exact this.2.2.2⟩
theorem S0_m (h : mS0 s b T) (hO : O.1 ≠ 0) : mSd s b T O (S0 T) := by
  obtain ⟨⟨h1, h2, h3⟩, h4, h5⟩ := h
  refine ⟨⟨h1, h2, fun _ => h3, fun g => absurd g hO⟩, fun p hp => ?_, fun w hw => ?_⟩
  · obtain ⟨a1, a2, a3⟩ := h4 p hp
    refine ⟨a1, ?_, a3⟩
    rw [a2]
    show nI 1 = nI ((2 ^ T 0 1 - 1).testBit p).toNat
    rw [Nat.testBit_two_pow_sub_one, decide_eq_true hp]
    rfl
  · exact h5 w hw
/-- one walker has other legs -/
def OL (T : zT) (w l : Nat) : zO := (1, true, decide (T 18 0 ≠ 0), T 0 6, m1, fun v => if v = w then l else T 10 v)
theorem OL_w (hW : WT T) (hl : l ≤ 9) : wO T (OL T w l) := ⟨by show 1 ≤ 2; omega, hW.2.1.2.1, hW.2.1.2.2.1, fun v hv => by
  show (if v = w then l else T 10 v) ≤ 9
  have := (hW.2.2.2.1 v hv).2.1
  split <;> omega⟩
theorem m_layLegs (hn : 239 ≤ n) (hW : WT T) (hT : mTd s.1 T) (hw : w < T 0 2) (hl : l ≤ 9) : ∃ s' : zS, fX11_layLegs n (mk s) 187 (nI w) (nI l) = some ((), mk s') ∧ frT s s' ∧ s'.2 = s.2 ∧ (∀ a, 227 ≤ a → s'.1 a = s.1 a) ∧ mSd s' 1 T (OL T w l) (S0 T) ∧ mOd s'.1 T (OL T w l) := by
  have h0 := hW.1
  obtain ⟨sa, ea, za, oa, ka⟩ := m_first (b := 1) hn hW hT (by omega)
  have fa : frT s sa := ⟨⟨by rw [za], fun a j h => oa a j (fun q => h (Or.inl q)), fun a j _ _ _ => by rw [za]⟩, by rw [za]⟩
  obtain ⟨sb, eb, fb, zb, ob, hO, b72, b75, b76⟩ := m_plain (s := sa) (T := T) hn hW
  have fc : frT sb (wI (wI sb 187 75 (nI w)) 187 76 (nI l)) := frT_t (frT_w (by unfold scM; omega)) (frT_w (by unfold scM; omega))
  refine ⟨wI (wI sb 187 75 (nI w)) 187 76 (nI l), ?_, frT_t fa (frT_t fb fc), by show sb.2 = s.2; rw [zb, za], fun a ha => ?_, ?_, ?_⟩
  · unfold fX11_layLegs
    have ea' : fX11_atFirst n (mk s) 187 (nI 1) = some ((), mk sa) := ea
    simp (disch := first | omega | assumption | (simp only [wL_1, wL_22, wI_2, wA_2, wQ_1, wQ_21] <;> first | assumption | omega)) only [LIT, LITm, nI_add, n_mul, fa_or, n_31m, n_shl0, n_le, n_lt, n_eq, Option.bind_some, B_m hn, ea', eb]
  · rw [wI_ne (by omega), wI_ne (by omega), ob a (by omega)]
    exact funext fun j => oa a j (by unfold hfM; omega)
  · have hs := S0_m (O := OL T w l) ka (show (1 : Nat) ≠ 0 by omega)
    unfold mSd at hs ⊢
    simp (disch := omega) only [wI_ne]
    rw [ob 226 (by omega), ob 224 (by omega), ob 225 (by omega), ob 221 (by omega), ob 222 (by omega), ob 223 (by omega), ob 219 (by omega), ob 220 (by omega)]
    refine ⟨⟨hs.1.1, hs.1.2.1, hs.1.2.2.1, fun g => absurd g (show (1 : Nat) ≠ 0 by omega)⟩, hs.2⟩
  · obtain ⟨⟨q1, q2, q3, q4⟩, q5, q6⟩ := hO
    refine ⟨⟨?_, ?_, ?_, ?_⟩, ?_, Or.inr ⟨?_, fun v hv => ⟨fun h => ?_, fun h => ?_⟩⟩⟩
    · simp (disch := omega) only [wI_at, upd_ne]; exact q1
    · simp (disch := omega) only [wI_at, upd_ne]; exact q2
    · simp (disch := omega) only [wI_at, upd_ne]; exact q3
    · simp (disch := omega) only [wI_at, upd_ne]; exact q4
    · simp (disch := omega) only [wI_at, upd_ne]; exact q5
    · simp (disch := omega) only [wI_at, upd_ne]; exact b72
    · simp (disch := omega) only [wI_at, upd_at, upd_ne] at h
      rw [n_eq (by omega) (by omega)] at h
      simp (disch := omega) only [wI_at, upd_at]
      show nI l = nI (if v = w then l else T 10 v)
      rw [if_pos h]
    · simp (disch := omega) only [wI_at, upd_at, upd_ne] at h
      show (if v = w then l else T 10 v) = T 10 v
      rw [if_neg (fun q => h (by rw [q]))]
/-- where all are behind so many days -/
def plD (T : zT) (w l d : Nat) (v : Nat) : Nat := (dyN T (OL T w l) d (S0 T)).2.2.1 0 v
def fitP (T : zT) (E : zE) (w l : Nat) : Prop := ∀ d, 1 ≤ d → d ≤ 60 → soP E d (plD T w l d)
theorem plD_lt (hW : WT T) {v : Nat} (hv : v < T 0 2) : plD T w l d v < T 0 0 := ((dyN_w (O := OL T w l) hW (S0_w hW) d).2.2.1 v hv).1
theorem m_fits (hn : 239 ≤ n) (hW : WT T) (hT : mTd s.1 T) (hE : wE T E) (hS : mSn s E) (hC : ∀ j, j < knV E → s.1 234 j = nI (CV E j).toNat) (hw : w < T 0 2) (hl : l ≤ 9) : ∃ (s' : zS) (b : Bool), (b = true ↔ fitP T E w l) ∧ fX11_fits n (mk s) 187 (nI w) (nI l) = some (nI b.toNat, mk s') ∧ frT s s' ∧ ∀ a, 227 ≤ a → s'.1 a = s.1 a := by
  have h0 := hW.1
  have n60 : (60 : Int32) = nI 60 := rfl
  obtain ⟨sa, ea, fa, za, oa, ka, qa⟩ := m_layLegs hn hW hT hw hl
  have wOL := OL_w (w := w) hW hl
  have toS : ∀ s1 : zS, frT s s1 → (∀ a, 227 ≤ a → s1.1 a = s.1 a) → mSn s1 E := fun s1 f o => mSn_fr hS (f.1.2.1 187 84 (by unfold scM hfM; omega)) (f.1.2.1 187 85 (by unfold scM hfM; omega)) (o 233 (by omega))
  unfold fX11_fits
  simp only [B_m hn, Option.bind_some, LIT, ea]
  refine lp_up (F := fun f (s1 : zS) i => fX11_fits_8 n f (mk s1) 187 (nI (i + 1))) (N := 60) (P := fun i s1 => frT s s1 ∧ (∀ a, 227 ≤ a → s1.1 a = s.1 a) ∧ mSd s1 1 T (OL T w l) (dyN T (OL T w l) i (S0 T)) ∧ mOd s1.1 T (OL T w l) ∧ ∀ d, 1 ≤ d → d ≤ i → soP E d (plD T w l d)) (Q := fun r => ∃ (s' : zS) (b : Bool), (b = true ↔ fitP T E w l) ∧ r = some (nI b.toNat, mk s') ∧ frT s s' ∧ ∀ a, 227 ≤ a → s'.1 a = s.1 a) ?_ ?_ 60 bi_K sa 0 (by omega) (by unfold bi_K; omega) ⟨fa, oa, ka, qa, fun d h1 h2 => by omega⟩
  · rintro f s1 i hi ⟨g1, g2, g3, g4, g5⟩
    have hT1 : mTd s1.1 T := mTd_T g1.1 hT
    obtain ⟨s2, e2, f2, k2⟩ := m_day (b := 1) hn hW hT1 g4 g3 wOL (dyN_w hW (S0_w hW) i) (by omega)
    have f2t : frT s1 s2 := frY_T (show (1 : Nat) ≠ 0 by omega) f2
    have o2 : ∀ a, 227 ≤ a → s2.1 a = s.1 a := fun a ha => by rw [← g2 a ha]; exact funext fun j => f2.2.1 a j (by unfold hfM; omega) (by omega)
    have fs2 := frT_t g1 f2t
    have hS2 := toS s2 fs2 o2
    obtain ⟨b, hb, eb⟩ := m_isSo (d := i + 1) (pl := plD T w l (i + 1)) hn hS2 hE hW (fun j hj => by rw [o2 234 (by omega)]; exact hC j hj) (fun v hv => ⟨(k2.2.2 v hv).1, Nat.lt_of_lt_of_le (plD_lt hW hv) h0.1⟩) (by omega)
    have e2' : fX11_dayGoes n (mk s1) 187 (nI 1) = some ((), mk s2) := e2
    cases b with
    | true =>
      left
      refine ⟨s2, ?_, fs2, o2, k2, mOd_Y f2 g4, fun d h1 h2 => ?_⟩
      · show fX11_fits_8b n (fX11_fits_8 n f) (mk s1) 187 (nI (i + 1)) = _
        unfold fX11_fits_8b
        rw [n60]
        simp (disch := first | omega | assumption | (simp only [wL_1, wL_22, wI_2, wA_2, wQ_1, wQ_21] <;> first | assumption | omega)) only [LIT, LITm, nI_add, n_mul, fa_or, n_31m, n_shl0, n_le, n_lt, n_eq, Option.bind_some, e2', eb, Bool.toNat_true, Nat.reduceEqDiff, Nat.reduceLeDiff, not_false_eq_true, show ¬ 60 < i + 1 by omega, ↓reduceIte]
      · by_cases q : d = i + 1
        · rw [q]; exact hb.mp rfl
        · exact g5 d h1 (by omega)
    | false =>
      right
      refine ⟨s2, false, ⟨fun h => (by cases h), fun h => hb.mpr (h (i + 1) (by omega) (by omega))⟩, ?_, fs2, o2⟩
      show fX11_fits_8b n (fX11_fits_8 n f) (mk s1) 187 (nI (i + 1)) = _
      unfold fX11_fits_8b
      rw [n60]
      simp (disch := first | omega | assumption | (simp only [wL_1, wL_22, wI_2, wA_2, wQ_1, wQ_21] <;> first | assumption | omega)) only [LIT, LITm, nI_add, n_mul, fa_or, n_31m, n_shl0, n_le, n_lt, n_eq, Option.bind_some, e2', eb, Bool.toNat_false, not_true_eq_false, show ¬ 60 < i + 1 by omega, ↓reduceIte]
  · rintro f s1 ⟨g1, g2, g3, g4, g5⟩
    refine ⟨s1, true, ⟨fun _ d h1 h2 => g5 d h1 h2, fun _ => rfl⟩, ?_, g1, g2⟩
    show fX11_fits_8b n (fX11_fits_8 n f) (mk s1) 187 (nI (60 + 1)) = _
    unfold fX11_fits_8b
    rw [n60]
    simp (disch := first | omega | assumption | (simp only [wL_1, wL_22, wI_2, wA_2, wQ_1, wQ_21] <;> first | assumption | omega)) only [LIT, LITm, nI_add, n_mul, fa_or, n_31m, n_shl0, n_le, n_lt, n_eq, Option.bind_some, show 60 < 60 + 1 by omega, Bool.toNat_true, ↓reduceIte]
theorem goB_cong {f g : Nat → Bool} : ∀ {m : Nat}, (∀ i, i < m → f i = g i) → goB f m = goB g m
  | 0, _ => rfl
  | m + 1, h => by
    show goB f m ||| (if f m = true then 2 ^ m else 0) = goB g m ||| (if g m = true then 2 ^ m else 0)
    rw [goB_cong (m := m) (fun i hi => h i (by omega)), h m (by omega)]
theorem m_legsBits (hn : 239 ≤ n) (hW : WT T) (hT : mTd s.1 T) (hE : wE T E) (hS : mSn s E) (hw : w < T 0 2) : ∃ (s' : zS) (F : Nat → Bool), (∀ l, l < 10 → (F l = true ↔ fitP T E w l)) ∧ fX11_legsBits n (mk s) 187 (nI w) = some (nI (goB F 10), mk s') ∧ frT s s' ∧ s'.1 235 = s.1 235 := by
  have h0 := hW.1
  obtain ⟨sa, ea, oa, za, ca⟩ := m_layCounts hn hS hE
  have fa : frT s sa := ⟨⟨by rw [za], fun a j h => by rw [oa a (fun q => h (by unfold scM; omega))], fun a j _ _ _ => by rw [za]⟩, by rw [za]⟩
  unfold fX11_legsBits
  simp only [B_m hn, Option.bind_some, LIT, ea]
  refine lp_up (F := fun f (q : zS × (Nat → Bool)) i => fX11_legsBits_8 n f (mk q.1) 187 (nI w) (nI (goB q.2 i)) (nI i)) (N := 10) (P := fun i q => frT s q.1 ∧ (∀ a, 227 ≤ a → q.1.1 a = sa.1 a) ∧ ∀ l, l < i → (q.2 l = true ↔ fitP T E w l)) (Q := fun r => ∃ (s' : zS) (F : Nat → Bool), (∀ l, l < 10 → (F l = true ↔ fitP T E w l)) ∧ r = some (nI (goB F 10), mk s') ∧ frT s s' ∧ s'.1 235 = s.1 235) ?_ ?_ 10 bi_K (sa, fun _ => false) 0 (by omega) (by unfold bi_K; omega) ⟨fa, fun _ _ => rfl, fun l h => absurd h (Nat.not_lt_zero l)⟩
  · rintro f ⟨s1, F⟩ i hi ⟨g1, g2, g3⟩
    have g1 : frT s s1 := g1
    have g2 : ∀ a, 227 ≤ a → s1.1 a = sa.1 a := g2
    have g3 : ∀ l, l < i → (F l = true ↔ fitP T E w l) := g3
    left
    have hT1 : mTd s1.1 T := mTd_T g1.1 hT
    have hS1 : mSn s1 E := mSn_fr hS (g1.1.2.1 187 84 (by unfold scM hfM; omega)) (g1.1.2.1 187 85 (by unfold scM hfM; omega)) (by rw [g2 233 (by omega), oa 233 (by omega)])
    obtain ⟨s2, b, hb, e2, f2, o2⟩ := m_fits (l := i) hn hW hT1 hE hS1 (fun j hj => by rw [g2 234 (by omega)]; exact ca j hj) hw (by omega)
    have ec : goB (fun l => if l = i then b else F l) i = goB F i := goB_cong (fun j hj => by show (if j = i then b else F j) = F j; rw [if_neg (by omega)])
    refine ⟨(s2, fun l => if l = i then b else F l), ?_, frT_t g1 f2, fun a ha => by show s2.1 a = sa.1 a; rw [o2 a ha, g2 a ha], fun l hl => ?_⟩
    · show fX11_legsBits_8b n (fX11_legsBits_8 n f) (mk s1) 187 (nI w) (nI (goB F i)) (nI i) = fX11_legsBits_8 n f (mk s2) 187 (nI w) (nI (goB (fun l => if l = i then b else F l) i ||| (if (if i = i then b else F i) = true then 2 ^ i else 0))) (nI (i + 1))
      unfold fX11_legsBits_8b fX11_legsBits_31
      rw [ec, if_pos rfl]
      cases b with
      | false => simp (disch := first | omega | assumption | (simp only [wL_1, wL_22, wI_2, wA_2, wQ_1, wQ_21] <;> first | assumption | omega)) only [LIT, LITm, nI_add, n_mul, fa_or, n_31m, n_shl0, n_le, n_lt, n_eq, Option.bind_some, e2, Bool.toNat_false, Bool.false_eq_true, Nat.or_zero, if_false, show ¬ 10 ≤ i by omega, ↓reduceIte]
      | true => simp (disch := first | omega | assumption | (simp only [wL_1, wL_22, wI_2, wA_2, wQ_1, wQ_21] <;> first | assumption | omega)) only [LIT, LITm, nI_add, n_mul, fa_or, n_31m, n_shl0, n_le, n_lt, n_eq, Option.bind_some, e2, Bool.toNat_true, Nat.reduceEqDiff, Nat.reduceLeDiff, if_true, show ¬ 10 ≤ i by omega, ↓reduceIte]
    · show (if l = i then b else F l) = true ↔ _
      by_cases q : l = i
      · rw [if_pos q, q]; exact hb
      · rw [if_neg q]; exact g3 l (by omega)
  · rintro f ⟨s1, F⟩ ⟨g1, g2, g3⟩
    have g1 : frT s s1 := g1
    have g2 : ∀ a, 227 ≤ a → s1.1 a = sa.1 a := g2
    obtain ⟨sb, eb, fb, zb, ob, -⟩ := m_plain (s := s1) (T := T) hn hW
    refine ⟨sb, F, g3, ?_, frT_t g1 fb, by rw [ob 235 (by omega), g2 235 (by omega), oa 235 (by omega)]⟩
    show fX11_legsBits_8b n (fX11_legsBits_8 n f) (mk s1) 187 (nI w) (nI (goB F 10)) (nI 10) = _
    unfold fX11_legsBits_8b
    simp (disch := first | omega | assumption | (simp only [wL_1, wL_22, wI_2, wA_2, wQ_1, wQ_21] <;> first | assumption | omega)) only [LIT, LITm, nI_add, n_mul, fa_or, n_31m, n_shl0, n_le, n_lt, n_eq, Option.bind_some, eb, Nat.le_refl, ↓reduceIte]
theorem m_legs (hn : 239 ≤ n) (hK : mK s A) (hA : wfA A) : (∀ w, w < aT A 0 2 → ∃ (s' : zS) (F : Nat → Bool), (∀ l, l < 10 → (F l = true ↔ fitP (aT A) (aE A) w l)) ∧ fX11_legs n (mk s) 187 (nI w) = some (nI (goB F 10), mk s') ∧ frT s s') ∧ (inR x (aT A 0 2) = false → ∃ s' : zS, fX11_legs n (mk s) 187 x = some (m1, mk s') ∧ frT s s') := by
  have hW := hA.1
  have h0 := hW.1
  have ft := m_th s
  have hKt := mK_T hW hK ft
  obtain ⟨sa, ea⟩ : ∃ sa : zS, sa = wI s 187 2 (nI 0) := ⟨_, rfl⟩
  rw [← ea] at hKt ft
  have hP := fun y => m_isWalker hn hKt.1 (x := y)
  refine ⟨fun w hw => ?_, fun h => ?_⟩
  · obtain ⟨sb, F, hF, eb, fb, -⟩ := m_legsBits hn hW hKt.1 hA.2.2.2.2.2 hKt.2.2.2.2.2.2 hw
    refine ⟨sb, F, hF, ?_, frT_t ft fb⟩
    unfold fX11_legs
    simp (disch := first | omega | assumption | (simp only [wL_1, wL_22, wI_2, wA_2, wQ_1, wQ_21] <;> first | assumption | omega)) only [LIT, LITm, nI_add, n_mul, fa_or, n_31m, n_shl0, n_le, n_lt, n_eq, Option.bind_some, B_m hn, ← ea, hP, inR_n hw (by omega), eb, Bool.toNat_true, Nat.reduceEqDiff, Nat.reduceLeDiff, ↓reduceIte]
  · refine ⟨sa, ?_, ft⟩
    unfold fX11_legs
    simp (disch := first | omega | assumption | (simp only [wL_1, wL_22, wI_2, wA_2, wQ_1, wQ_21] <;> first | assumption | omega)) only [LIT, LITm, nI_add, n_mul, fa_or, n_31m, n_shl0, n_le, n_lt, n_eq, Option.bind_some, B_m hn, ← ea, hP, h, Bool.toNat_false, ↓reduceIte]
end Ml
