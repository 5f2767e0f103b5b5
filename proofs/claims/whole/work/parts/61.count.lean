/-! ===== count: both ===== -/
def cntV (A : zA) (x : Int32) : Int32 :=
  if x = nI 0 then nI (aT A 0 0) else if x = nI 1 then nI (aT A 0 1) else if x = nI 2 then nI (aT A 0 2) else if x = nI 3 then nI (aT A 0 3) else if x = nI 4 then nI (aT A 0 5) else
  if x = nI 5 then (aS A).1 0 else if x = nI 6 then nI (pcV (aS A).2.2.2.1) else if x = nI 7 then (aS A).1 1 else if x = nI 8 then (aS A).1 2 else
  if x = nI 9 then nI (setV (aT A) (fun i => (aS A).2.2.2.1.testBit i)) else if x = nI 10 then nI (aE A).1 else if x = nI 11 then (if (aE A).2.1 = m1 then nI (aE A).1 else (aE A).2.1) else if x = nI 12 then nI (aP A).1 else m1
theorem n_m1le0 : (nI 0 ≤ m1) = False := n_m1le (by decide)
section Ct
variable {n t : Nat} {s : zS} {A : zA} {x : Int32}
theorem wD_512 (hA : wfA A) : (aS A).2.2.2.1 < 512 := Nat.lt_of_lt_of_le hA.2.1.2.1 (Nat.pow_le_pow_right (n := 2) (j := 9) (by decide) hA.1.1.2.1)
theorem c_count (hn : 239 ≤ n) (hK : cK s t A) (hA : wfA A) : fX10_count n (mk s) 1 x = some (cntV A x, mk s) := by
  have ht := cK_t hK
  have hW := hA.1
  have hk := wD_512 hA
  obtain ⟨k1, k2, k3, k4, k5, k6, k7, k8, k9⟩ := hK
  have e25 : s.2.2 1 3 = t := k2
  have n10 : (10 : Int32) = nI 10 := rfl
  have n11 : (11 : Int32) = nI 11 := rfl
  have n12 : (12 : Int32) = nI 12 := rfl
  have n9 : (9 : Int32) = nI 9 := rfl
  have n8 : (8 : Int32) = nI 8 := rfl
  unfold fX10_count cntV
  rw [bnd_s (v := ()) (by simp (disch := first | omega | assumption | (simp only [wL_1, wL_22, wI_2, wA_2, wQ_1, wQ_21] <;> first | assumption | omega)) only [B_K hn]), n9, n8, n10, n11, n12]
  simp only [LIT]
  by_cases e0 : x = nI 0
  · rw [if_pos e0, if_pos e0]
    simp (disch := first | omega | assumption | (simp only [wL_1, wL_22, wI_2, wA_2, wQ_1, wQ_21] <;> first | assumption | omega)) only [LIT, LITm, nI_add, n_mul, fa_or, n_31m, n_shl0, n_le, n_lt, n_eq, Option.bind_some, B_K hn, B_t hn ht, CTp t (aT A), e25]
  rw [if_neg e0, if_neg e0]
  by_cases e1 : x = nI 1
  · rw [if_pos e1, if_pos e1]
    simp (disch := first | omega | assumption | (simp only [wL_1, wL_22, wI_2, wA_2, wQ_1, wQ_21] <;> first | assumption | omega)) only [LIT, LITm, nI_add, n_mul, fa_or, n_31m, n_shl0, n_le, n_lt, n_eq, Option.bind_some, B_K hn, B_t hn ht, CTp t (aT A), e25]
  rw [if_neg e1, if_neg e1]
  by_cases e2 : x = nI 2
  · rw [if_pos e2, if_pos e2]
    simp (disch := first | omega | assumption | (simp only [wL_1, wL_22, wI_2, wA_2, wQ_1, wQ_21] <;> first | assumption | omega)) only [LIT, LITm, nI_add, n_mul, fa_or, n_31m, n_shl0, n_le, n_lt, n_eq, Option.bind_some, B_K hn, B_t hn ht, CTp t (aT A), e25]
  rw [if_neg e2, if_neg e2]
  by_cases e3 : x = nI 3
  · rw [if_pos e3, if_pos e3]
    simp (disch := first | omega | assumption | (simp only [wL_1, wL_22, wI_2, wA_2, wQ_1, wQ_21] <;> first | assumption | omega)) only [LIT, LITm, nI_add, n_mul, fa_or, n_31m, n_shl0, n_le, n_lt, n_eq, Option.bind_some, B_K hn, B_t hn ht, CTp t (aT A), e25]
  rw [if_neg e3, if_neg e3]
  by_cases e4 : x = nI 4
  · rw [if_pos e4, if_pos e4]
    simp (disch := first | omega | assumption | (simp only [wL_1, wL_22, wI_2, wA_2, wQ_1, wQ_21] <;> first | assumption | omega)) only [LIT, LITm, nI_add, n_mul, fa_or, n_31m, n_shl0, n_le, n_lt, n_eq, Option.bind_some, B_K hn, B_t hn ht, CTp t (aT A), e25]
  rw [if_neg e4, if_neg e4]
  by_cases e5 : x = nI 5
  · rw [if_pos e5, if_pos e5]
    simp (disch := first | omega | assumption | (simp only [wL_1, wL_22, wI_2, wA_2, wQ_1, wQ_21] <;> first | assumption | omega)) only [LIT, LITm, nI_add, n_mul, fa_or, n_31m, n_shl0, n_le, n_lt, n_eq, Option.bind_some, B_K hn, B_s hn is_52, k4.1.1]
  rw [if_neg e5, if_neg e5]
  by_cases e6 : x = nI 6
  · rw [if_pos e6, if_pos e6]
    simp (disch := first | omega | assumption | (simp only [wL_1, wL_22, wI_2, wA_2, wQ_1, wQ_21] <;> first | assumption | omega)) only [LIT, LITm, nI_add, n_mul, fa_or, n_31m, n_shl0, n_le, n_lt, n_eq, Option.bind_some, B_K hn, B_s hn is_52, k4.1.2.2.2.2, c_bitCount hk]
  rw [if_neg e6, if_neg e6]
  by_cases e7 : x = nI 7
  · rw [if_pos e7, if_pos e7]
    simp (disch := first | omega | assumption | (simp only [wL_1, wL_22, wI_2, wA_2, wQ_1, wQ_21] <;> first | assumption | omega)) only [LIT, LITm, nI_add, n_mul, fa_or, n_31m, n_shl0, n_le, n_lt, n_eq, Option.bind_some, B_K hn, B_s hn is_52, k4.1.2.2.1]
  rw [if_neg e7, if_neg e7]
  by_cases e8 : x = nI 8
  · rw [if_pos e8, if_pos e8]
    simp (disch := first | omega | assumption | (simp only [wL_1, wL_22, wI_2, wA_2, wQ_1, wQ_21] <;> first | assumption | omega)) only [LIT, LITm, nI_add, n_mul, fa_or, n_31m, n_shl0, n_le, n_lt, n_eq, Option.bind_some, B_K hn, B_s hn is_52, k4.1.2.2.2.1]
  rw [if_neg e8, if_neg e8]
  by_cases e9 : x = nI 9
  · rw [if_pos e9, if_pos e9]
    simp (disch := first | omega | assumption | (simp only [wL_1, wL_22, wI_2, wA_2, wQ_1, wQ_21] <;> first | assumption | omega)) only [LIT, LITm, nI_add, n_mul, fa_or, n_31m, n_shl0, n_le, n_lt, n_eq, Option.bind_some, B_K hn, B_s hn is_52, e25, k4.1.2.2.2.2, c_sets hn ht hW k3 hk]
  rw [if_neg e9, if_neg e9]
  by_cases e10 : x = nI 10
  · rw [if_pos e10, if_pos e10]
    simp (disch := first | omega | assumption | (simp only [wL_1, wL_22, wI_2, wA_2, wQ_1, wQ_21] <;> first | assumption | omega)) only [LIT, LITm, nI_add, n_mul, fa_or, n_31m, n_shl0, n_le, n_lt, n_eq, Option.bind_some, B_K hn, B_sn hn, k9.1]
  rw [if_neg e10, if_neg e10]
  by_cases e11 : x = nI 11
  · rw [if_pos e11, if_pos e11]
    unfold fX4_knownSize
    by_cases e : (aE A).2.1 = m1
    · simp (disch := first | omega | assumption | (simp only [wL_1, wL_22, wI_2, wA_2, wQ_1, wQ_21] <;> first | assumption | omega)) only [LIT, LITm, nI_add, n_mul, fa_or, n_31m, n_shl0, n_le, n_lt, n_eq, Option.bind_some, B_K hn, B_sn hn, k9.1, k9.2.1, e, not_true_eq_false, ↓reduceIte]
    · simp (disch := first | omega | assumption | (simp only [wL_1, wL_22, wI_2, wA_2, wQ_1, wQ_21] <;> first | assumption | omega)) only [LIT, LITm, nI_add, n_mul, fa_or, n_31m, n_shl0, n_le, n_lt, n_eq, Option.bind_some, B_K hn, B_sn hn, k9.1, k9.2.1, e, not_false_eq_true, ↓reduceIte]
  rw [if_neg e11, if_neg e11]
  by_cases e12 : x = nI 12
  · rw [if_pos e12, if_pos e12]
    simp (disch := first | omega | assumption | (simp only [wL_1, wL_22, wI_2, wA_2, wQ_1, wQ_21] <;> first | assumption | omega)) only [LIT, LITm, nI_add, n_mul, fa_or, n_31m, n_shl0, n_le, n_lt, n_eq, Option.bind_some, B_K hn, k6.1]
  rw [if_neg e12, if_neg e12]
  rfl
theorem setV_m {T : zT} {k : Nat} (hW : WT T) {r : Nat → Nat} (h : rtO T (rK k m1) r) {i : Nat} (hi : i < 7) : (r i = i) ↔ (rtV T (fun i => k.testBit i) i = true) := by
  rw [rtO_rt hW h hi]
  have h0 := hW.1
  unfold rtV
  rw [rt_cong (K := rK k m1) (K' := fun i => k.testBit i) (fun p hp => ?_)]
  unfold rK
  rw [decide_eq_false (fun e => by rw [n_m1 (by omega)] at e; exact e)]
  simp
theorem m_count (hn : 239 ≤ n) (hK : mK s A) (hA : wfA A) : ∃ s' : zS, fX11_count n (mk s) 187 x = some (cntV A x, mk s') ∧ frT s s' := by
  have hW := hA.1
  have h0 := hW.1
  have ft := m_th s
  have hKt := mK_T hW hK ft
  obtain ⟨sa, ea⟩ : ∃ sa : zS, sa = wI s 187 2 (nI 0) := ⟨_, rfl⟩
  rw [← ea] at hKt ft
  obtain ⟨k1, k2, k3, k4, k5, k6, k7⟩ := hKt
  have n10 : (10 : Int32) = nI 10 := rfl
  have n11 : (11 : Int32) = nI 11 := rfl
  have n12 : (12 : Int32) = nI 12 := rfl
  have n9 : (9 : Int32) = nI 9 := rfl
  have n8 : (8 : Int32) = nI 8 := rfl
  have q1 := k2.1.1
  have q2 := k2.1.2.1
  have q3 := k2.1.2.2.1 rfl
  unfold fX11_count cntV
  rw [bnd_s (v := ()) (by simp (disch := first | omega | assumption | (simp only [wL_1, wL_22, wI_2, wA_2, wQ_1, wQ_21] <;> first | assumption | omega)) only [B_m hn]), bnd_s (v := mk sa) (by simp (disch := first | omega | assumption | (simp only [wL_1, wL_22, wI_2, wA_2, wQ_1, wQ_21] <;> first | assumption | omega)) only [LIT, B_m hn, ea]), n9, n8, n10, n11, n12]
  simp only [LIT]
  by_cases e0 : x = nI 0
  · rw [if_pos e0, if_pos e0]
    exact ⟨sa, by simp (disch := first | omega | assumption | (simp only [wL_1, wL_22, wI_2, wA_2, wQ_1, wQ_21] <;> first | assumption | omega)) only [LIT, LITm, nI_add, n_mul, fa_or, n_31m, n_shl0, n_le, n_lt, n_eq, Option.bind_some, B_m hn, MTp (aT A)], ft⟩
  rw [if_neg e0, if_neg e0]
  by_cases e1 : x = nI 1
  · rw [if_pos e1, if_pos e1]
    exact ⟨sa, by simp (disch := first | omega | assumption | (simp only [wL_1, wL_22, wI_2, wA_2, wQ_1, wQ_21] <;> first | assumption | omega)) only [LIT, LITm, nI_add, n_mul, fa_or, n_31m, n_shl0, n_le, n_lt, n_eq, Option.bind_some, B_m hn, MTp (aT A)], ft⟩
  rw [if_neg e1, if_neg e1]
  by_cases e2 : x = nI 2
  · rw [if_pos e2, if_pos e2]
    exact ⟨sa, by simp (disch := first | omega | assumption | (simp only [wL_1, wL_22, wI_2, wA_2, wQ_1, wQ_21] <;> first | assumption | omega)) only [LIT, LITm, nI_add, n_mul, fa_or, n_31m, n_shl0, n_le, n_lt, n_eq, Option.bind_some, B_m hn, MTp (aT A)], ft⟩
  rw [if_neg e2, if_neg e2]
  by_cases e3 : x = nI 3
  · rw [if_pos e3, if_pos e3]
    exact ⟨sa, by simp (disch := first | omega | assumption | (simp only [wL_1, wL_22, wI_2, wA_2, wQ_1, wQ_21] <;> first | assumption | omega)) only [LIT, LITm, nI_add, n_mul, fa_or, n_31m, n_shl0, n_le, n_lt, n_eq, Option.bind_some, B_m hn, MTp (aT A)], ft⟩
  rw [if_neg e3, if_neg e3]
  by_cases e4 : x = nI 4
  · rw [if_pos e4, if_pos e4]
    exact ⟨sa, by simp (disch := first | omega | assumption | (simp only [wL_1, wL_22, wI_2, wA_2, wQ_1, wQ_21] <;> first | assumption | omega)) only [LIT, LITm, nI_add, n_mul, fa_or, n_31m, n_shl0, n_le, n_lt, n_eq, Option.bind_some, B_m hn, k1.1.2.2.2.2.2], ft⟩
  rw [if_neg e4, if_neg e4]
  by_cases e5 : x = nI 5
  · rw [if_pos e5, if_pos e5]
    exact ⟨sa, by simp (disch := first | omega | assumption | (simp only [wL_1, wL_22, wI_2, wA_2, wQ_1, wQ_21] <;> first | assumption | omega)) only [LIT, LITm, nI_add, n_mul, fa_or, n_31m, n_shl0, n_le, n_lt, n_eq, Option.bind_some, B_m hn, B_mb hn, B_mc hn, q1], ft⟩
  rw [if_neg e5, if_neg e5]
  by_cases e6 : x = nI 6
  · rw [if_pos e6, if_pos e6]
    exact ⟨sa, by simp (disch := first | omega | assumption | (simp only [wL_1, wL_22, wI_2, wA_2, wQ_1, wQ_21] <;> first | assumption | omega)) only [LIT, LITm, nI_add, n_mul, fa_or, n_31m, n_shl0, n_le, n_lt, n_eq, Option.bind_some, m_kept (b := 0) hn hW k1 (Nat.zero_le 1) k2 hA.2.1], ft⟩
  rw [if_neg e6, if_neg e6]
  by_cases e7 : x = nI 7
  · rw [if_pos e7, if_pos e7]
    exact ⟨sa, by simp (disch := first | omega | assumption | (simp only [wL_1, wL_22, wI_2, wA_2, wQ_1, wQ_21] <;> first | assumption | omega)) only [LIT, LITm, nI_add, n_mul, fa_or, n_31m, n_shl0, n_le, n_lt, n_eq, Option.bind_some, B_m hn, B_mb hn, B_mc hn, q2], ft⟩
  rw [if_neg e7, if_neg e7]
  by_cases e8 : x = nI 8
  · rw [if_pos e8, if_pos e8]
    exact ⟨sa, by simp (disch := first | omega | assumption | (simp only [wL_1, wL_22, wI_2, wA_2, wQ_1, wQ_21] <;> first | assumption | omega)) only [LIT, LITm, nI_add, n_mul, fa_or, n_31m, n_shl0, n_le, n_lt, n_eq, Option.bind_some, B_m hn, B_mb hn, B_mc hn, q3], ft⟩
  rw [if_neg e8, if_neg e8]
  by_cases e9 : x = nI 9
  · rw [if_pos e9, if_pos e9]
    obtain ⟨sb, r, eb, fb, hr, ho⟩ := m_roots (c := m1) hn hW k1 k2
    have kb := mK_T hW ⟨k1, k2, k3, k4, k5, k6, k7⟩ fb
    refine ⟨sb, ?_, frT_t ft fb⟩
    rw [bnd_s (v := ((), mk sb)) (by simp only [LITm]; exact eb)]
    refine lp_up (F := fun f (b : Nat) i => fX11_count_135 n f (mk sb) 187 (nI b) (nI i)) (N := aT A 0 0) (P := fun i b => b = fb_ct (rtV (aT A) (fun i => (aS A).2.2.2.1.testBit i)) i) (Q := fun q => q = some (nI (setV (aT A) (fun i => (aS A).2.2.2.1.testBit i)), mk sb)) ?_ ?_ (aT A 0 0) bi_K 0 0 (by omega) (by unfold bi_K; omega) rfl
    · intro f b i hi hP
      left
      have hx := hr i (by omega)
      have hl := (ho.1 i (by omega)).1
      have hs := setV_m hW ho (show i < 7 by omega)
      refine ⟨b + (if rtV (aT A) (fun i => (aS A).2.2.2.1.testBit i) i then 1 else 0), ?_, by rw [hP]; rfl⟩
      show fX11_count_135b n (fX11_count_135 n f) (mk sb) 187 (nI b) (nI i) = _
      unfold fX11_count_135b fX11_count_159
      by_cases e : r i = i
      · rw [if_pos (hs.mp e)]
        simp (disch := first | omega | assumption | (simp only [wL_1, wL_22, wI_2, wA_2, wQ_1, wQ_21] <;> first | assumption | omega)) only [LIT, LITm, nI_add, n_mul, fa_or, n_31m, n_shl0, n_le, n_lt, n_eq, Option.bind_some, B_m hn, B_mc hn, kb.1.1.1, hx, e, not_true_eq_false, show ¬ aT A 0 0 ≤ i by omega, ↓reduceIte]
      · rw [if_neg (fun g => e (hs.mpr g))]
        simp (disch := first | omega | assumption | (simp only [wL_1, wL_22, wI_2, wA_2, wQ_1, wQ_21] <;> first | assumption | omega)) only [LIT, LITm, nI_add, n_mul, fa_or, n_31m, n_shl0, n_le, n_lt, n_eq, Option.bind_some, B_m hn, B_mc hn, kb.1.1.1, hx, e, not_false_eq_true, Nat.add_zero, show ¬ aT A 0 0 ≤ i by omega, ↓reduceIte]
    · intro f b hP
      show fX11_count_135b n (fX11_count_135 n f) (mk sb) 187 (nI b) (nI (aT A 0 0)) = _
      unfold fX11_count_135b
      simp (disch := first | omega | assumption | (simp only [wL_1, wL_22, wI_2, wA_2, wQ_1, wQ_21] <;> first | assumption | omega)) only [LIT, LITm, nI_add, n_mul, fa_or, n_31m, n_shl0, n_le, n_lt, n_eq, Option.bind_some, B_m hn, kb.1.1.1, Nat.le_refl, ↓reduceIte]
      rw [hP]
      rfl
  rw [if_neg e9, if_neg e9]
  by_cases e10 : x = nI 10
  · rw [if_pos e10, if_pos e10]
    exact ⟨sa, by simp (disch := first | omega | assumption | (simp only [wL_1, wL_22, wI_2, wA_2, wQ_1, wQ_21] <;> first | assumption | omega)) only [LIT, LITm, nI_add, n_mul, fa_or, n_31m, n_shl0, n_le, n_lt, n_eq, Option.bind_some, B_m hn, k7.1], ft⟩
  rw [if_neg e10, if_neg e10]
  by_cases e11 : x = nI 11
  · rw [if_pos e11, if_pos e11]
    refine ⟨sa, ?_, ft⟩
    unfold fX11_knownBy
    rcases hA.2.2.2.2.2.2.1 with e | ⟨k, hk, e⟩
    · simp (disch := first | omega | assumption | (simp only [wL_1, wL_22, wI_2, wA_2, wQ_1, wQ_21] <;> first | assumption | omega)) only [LIT, LITm, nI_add, n_mul, fa_or, n_31m, n_shl0, n_le, n_lt, n_eq, Option.bind_some, B_m hn, k7.1, k7.2.1, e, n_m1le0, ↓reduceIte]
    · have := hA.2.2.2.2.2.1
      simp (disch := first | omega | assumption | (simp only [wL_1, wL_22, wI_2, wA_2, wQ_1, wQ_21] <;> first | assumption | omega)) only [LIT, LITm, nI_add, n_mul, fa_or, n_31m, n_shl0, n_le, n_lt, n_eq, Option.bind_some, B_m hn, k7.1, k7.2.1, e, n_m1, Nat.zero_le, ↓reduceIte]
  rw [if_neg e11, if_neg e11]
  by_cases e12 : x = nI 12
  · rw [if_pos e12, if_pos e12]
    exact ⟨sa, by simp (disch := first | omega | assumption | (simp only [wL_1, wL_22, wI_2, wA_2, wQ_1, wQ_21] <;> first | assumption | omega)) only [LIT, LITm, nI_add, n_mul, fa_or, n_31m, n_shl0, n_le, n_lt, n_eq, Option.bind_some, B_m hn, k4.1], ft⟩
  rw [if_neg e12, if_neg e12]
  exact ⟨sa, rfl, ft⟩
end Ct
