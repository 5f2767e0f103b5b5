/-! ===== the days, by the reference ===== -/
section Mw
variable {n b p w : Nat} {s : zS} {T : zT} {O : zO} {S : zD}
theorem m_isIn {h : ai_H} {x y z : Int32} : fX11_isIn n h x y z = some (nI (if y ≤ x ∧ x ≤ z then 1 else 0), h) := by
  unfold fX11_isIn
  simp only [LIT, LITm, nI_add, n_mul, fa_or, n_31m, n_shl0, n_le, n_lt, n_eq, Option.bind_some]
  by_cases h1 : y ≤ x
  · have h1' : ¬ x < y := by rw [fa_lt]; rw [fa_le] at h1; omega
    by_cases h2 : x ≤ z
    · have h2' : ¬ z < x := by rw [fa_lt]; rw [fa_le] at h2; omega
      simp [h1, h2, h1', h2']
    · have h2' : z < x := by rw [fa_lt]; rw [fa_le] at h2; omega
      simp [h1, h2, h1', h2']
  · have h1' : x < y := by rw [fa_lt]; rw [fa_le] at h1; omega
    simp [h1, h1']
theorem m_legsIn (hn : 239 ≤ n) (hW : WT T) (hT : mTd s.1 T) (hO : mOd s.1 T O) (hw : w < T 0 2) : fX11_legsIn n (mk s) 187 (nI w) = some (nI (O.2.2.2.2.2 w), mk s) := by
  have hw' := WT_w hW hw
  unfold fX11_legsIn
  rcases hO.2.2 with ⟨h1, h2⟩ | ⟨h1, h2⟩
  · simp (disch := first | omega | assumption | (simp only [wL_1, wL_22, wI_2, wA_2, wQ_1, wQ_21] <;> first | assumption | omega)) only [LIT, LITm, nI_add, n_mul, fa_or, n_31m, n_shl0, n_le, n_lt, n_eq, Option.bind_some, B_m hn, h1, Nat.reduceEqDiff, Nat.reduceLeDiff, ↓reduceIte, h2 w hw]
  · obtain ⟨g1, g2⟩ := h2 w hw
    by_cases h : nI w = s.1 187 75
    · simp (disch := first | omega | assumption | (simp only [wL_1, wL_22, wI_2, wA_2, wQ_1, wQ_21] <;> first | assumption | omega)) only [LIT, LITm, nI_add, n_mul, fa_or, n_31m, n_shl0, n_le, n_lt, n_eq, Option.bind_some, B_m hn, h1, ← h, not_true_eq_false, ↓reduceIte, g1 h]
    · simp (disch := first | omega | assumption | (simp only [wL_1, wL_22, wI_2, wA_2, wQ_1, wQ_21] <;> first | assumption | omega)) only [LIT, LITm, nI_add, n_mul, fa_or, n_31m, n_shl0, n_le, n_lt, n_eq, Option.bind_some, B_m hn, B_ma hn, MTp T, h1, h, not_false_eq_true, ↓reduceIte, g2 h]
theorem m_bull (hn : 239 ≤ n) (hW : WT T) (hT : mTd s.1 T) (hO : mOd s.1 T O) (hb : b ≤ 1) (hp : p < 9) {d : Int32} (hd : s.1 226 b = d) : fX11_hasBull n (mk s) 187 (nI b) (nI p) = some (nI (O.2.1 && bullV T p d (T 0 4)).toNat, mk s) := by
  have h0 := hW.1
  unfold fX11_hasBull
  simp (disch := first | omega | assumption | (simp only [wL_1, wL_22, wI_2, wA_2, wQ_1, wQ_21] <;> first | assumption | omega)) only [LIT, LITm, nI_add, n_mul, fa_or, n_31m, n_shl0, n_le, n_lt, n_eq, Option.bind_some, B_m hn]
  have k71 := hO.1.2.2.1
  refine lp_up (F := fun k (_ : Unit) i => fX11_hasBull_2 n k (mk s) 187 (nI b) (nI p) (nI i)) (N := T 0 4) (P := fun i _ => bullV T p d i = false) (Q := fun r => r = some (nI (O.2.1 && bullV T p d (T 0 4)).toNat, mk s)) ?_ ?_ (T 0 4) bi_K () 0 (by omega) (by unfold bi_K; omega) (by rfl)
  · intro k _ i hi hP
    have f1 : ¬ T 0 4 ≤ i := by omega
    have hb' := hW.2.2.2.2.2.1 i hi
    cases g : O.2.1 with
    | false =>
      right
      rw [g] at k71
      simp (disch := first | omega | assumption | (simp only [wL_1, wL_22, wI_2, wA_2, wQ_1, wQ_21] <;> first | assumption | omega)) only [fX11_hasBull_2, fX11_hasBull_2b, fX11_hasBull_53, LIT, LITm, nI_add, n_mul, fa_or, n_31m, n_shl0, n_le, n_lt, n_eq, Option.bind_some, B_m hn, MTp T, f1, k71, Bool.not_false, Bool.toNat_true, Nat.reduceEqDiff, Nat.reduceLeDiff, not_false_eq_true, ↓reduceIte, Bool.false_and, Bool.toNat_false]
    | true =>
      rw [g] at k71
      have e0 : bullV T p d (i + 1) = (decide (T 15 i = p) && (decide (nI (T 16 i) ≤ d) && decide (d ≤ nI (T 17 i)))) := by
        show (bullV T p d i || _) = _
        rw [hP]
        rfl
      by_cases e : T 15 i = p
      · by_cases e2 : nI (T 16 i) ≤ d ∧ d ≤ nI (T 17 i)
        · right
          have : bullV T p d (T 0 4) = true := bullV_m (i := i + 1) (by rw [e0]; simp [e, e2]) (by omega)
          rw [this]
          simp (disch := first | omega | assumption | (simp only [wL_1, wL_22, wI_2, wA_2, wQ_1, wQ_21] <;> first | assumption | omega)) only [fX11_hasBull_2, fX11_hasBull_2b, fX11_hasBull_53, LIT, LITm, nI_add, n_mul, fa_or, n_31m, n_shl0, n_le, n_lt, n_eq, Option.bind_some, B_m hn, B_ma hn, B_mc hn, MTp T, f1, k71, hd, e, e2, m_isIn, and_self, Bool.not_true, Bool.toNat_false, Nat.reduceEqDiff, Nat.reduceLeDiff, not_true_eq_false, ↓reduceIte, Bool.and_self, Bool.toNat_true]
        · left
          refine ⟨(), ?_, by rw [e0]; simpa [e] using e2⟩
          simp (disch := first | omega | assumption | (simp only [wL_1, wL_22, wI_2, wA_2, wQ_1, wQ_21] <;> first | assumption | omega)) only [fX11_hasBull_2, fX11_hasBull_2b, fX11_hasBull_53, LIT, LITm, nI_add, n_mul, fa_or, n_31m, n_shl0, n_le, n_lt, n_eq, Option.bind_some, B_m hn, B_ma hn, B_mc hn, MTp T, f1, k71, hd, e, e2, m_isIn, Bool.not_true, Bool.toNat_false, Nat.reduceEqDiff, Nat.reduceLeDiff, not_true_eq_false, ↓reduceIte]
      · left
        refine ⟨(), ?_, by rw [e0]; simp [e]⟩
        simp (disch := first | omega | assumption | (simp only [wL_1, wL_22, wI_2, wA_2, wQ_1, wQ_21] <;> first | assumption | omega)) only [fX11_hasBull_2, fX11_hasBull_2b, fX11_hasBull_53, LIT, LITm, nI_add, n_mul, fa_or, n_31m, n_shl0, n_le, n_lt, n_eq, Option.bind_some, B_m hn, B_ma hn, B_mc hn, MTp T, f1, k71, hd, e, Bool.not_true, Bool.toNat_false, not_true_eq_false, not_false_eq_true, ↓reduceIte]
  · intro k _ hP
    rw [hP]
    simp (disch := first | omega | assumption | (simp only [wL_1, wL_22, wI_2, wA_2, wQ_1, wQ_21] <;> first | assumption | omega)) only [fX11_hasBull_2, fX11_hasBull_2b, LIT, LITm, nI_add, n_mul, fa_or, n_31m, n_shl0, n_le, n_lt, n_eq, Option.bind_some, B_m hn, MTp T, Nat.le_refl, ↓reduceIte, Bool.and_false, Bool.toNat_false]
theorem m_layPath (hn : 239 ≤ n) (hW : WT T) (hT : mTd s.1 T) (hS : mSd s b T O S) (hD : wD T S) (hb : b ≤ 1) (hp : p < T 0 1) : ∃ s' : zS, fX11_layPath n (mk s) 187 (nI b) (nI p) = some ((), mk s') ∧ s'.1 = s.1 ∧ frQ s s' ∧ ∀ j, j < 7 → s'.2.1 217 j = nmV T S p 0 0 j := by
  have hp' := WT_p hW hp
  obtain ⟨⟨s1, s2, s3, s4⟩, s5, s6⟩ := hS
  obtain ⟨q1, q2, q3⟩ := s5 p hp
  have a3 := hD.2.2.2 p hp
  refine ⟨wL (wL (wL (wL (wL (wL (wL s 217 0 (lN (T 5 p))) 217 1 (lN (T 6 p))) 217 2 (S.2.1 p).toInt64) 217 3 0) 217 4 0) 217 5 (lN (S.2.2.1 2 p))) 217 6 (S.1 0).toInt64, ?_, rfl, ⟨rfl, fun _ _ _ => rfl, fun a h1 h2 => ?_⟩, ?_⟩
  · unfold fX11_layPath
    simp (disch := first | omega | assumption | (simp only [wL_1, wL_22, wI_2, wA_2, wQ_1, wQ_21] <;> first | assumption | omega)) only [LIT, LITm, nI_add, n_mul, fa_or, n_31m, n_shl0, n_le, n_lt, n_eq, Option.bind_some, B_m hn, B_ma hn, B_mb hn, B_mc hn, MTp T, wL_1, q1, q3, s1, nI_l]
  · simp (disch := omega) only [wL_ne]
  · intro j hj
    rcases (by omega : j = 0 ∨ j = 1 ∨ j = 2 ∨ j = 3 ∨ j = 4 ∨ j = 5 ∨ j = 6) with rfl | rfl | rfl | rfl | rfl | rfl | rfl <;> simp [wL_g, nmV] <;> rfl
theorem m_layBoth (hn : 239 ≤ n) (hW : WT T) (hT : mTd s.1 T) (hO : mOd s.1 T O) (hS : mSd s b T O S) (hwO : wO T O) (hD : wD T S) (hb : b ≤ 1) (hp : p < T 0 1) (hw : w < T 0 2) : ∃ s' : zS, fX11_layBoth n (mk s) 187 (nI b) (nI p) (nI w) = some ((), mk s') ∧ s'.1 = s.1 ∧ frQ s s' ∧ ∀ j, j < 7 → s'.2.1 217 j = nmV T S p (O.2.2.2.2.2 w) (S.2.2.1 1 w) j := by
  have hw' := WT_w hW hw
  obtain ⟨sa, ea, ha, fa, hN⟩ := m_layPath hn hW hT hS hD hb hp
  have hTa : mTd sa.1 T := by rw [ha]; exact hT
  have hOa : mOd sa.1 T O := by rw [ha]; exact hO
  obtain ⟨⟨s1, s2, s3, s4⟩, s5, s6⟩ := hS
  obtain ⟨q1, q2⟩ := s6 w hw
  have a1 := hwO.2.2.2 w hw
  have a2 := (hD.2.2.1 w hw).2
  refine ⟨wL (wL sa 217 3 (lN (O.2.2.2.2.2 w))) 217 4 (lN (S.2.2.1 1 w)), ?_, ha, frQ_t fa ⟨rfl, fun _ _ _ => rfl, fun a h1 h2 => ?_⟩, ?_⟩
  · unfold fX11_layBoth
    simp (disch := first | omega | assumption | (simp only [wL_1, wL_22, wI_2, wA_2, wQ_1, wQ_21] <;> first | assumption | omega)) only [LIT, LITm, nI_add, n_mul, fa_or, n_31m, n_shl0, n_le, n_lt, n_eq, Option.bind_some, B_m hn, B_mb hn, ea, m_legsIn hn hW hTa hOa hw, wL_1, ha, q2, nI_l]
  · simp (disch := omega) only [wL_ne]
  · intro j hj
    rcases (by omega : j = 0 ∨ j = 1 ∨ j = 2 ∨ j = 3 ∨ j = 4 ∨ j = 5 ∨ j = 6) with rfl | rfl | rfl | rfl | rfl | rfl | rfl <;> simp [wL_g, nmV, hN]
theorem clV_m {l m : Nat} {v : Int64} {r : Option Int32} (h : l ≤ m) (hm : m < 10000) : (if lN l ≤ v then (if v ≤ lN m then some v.toInt32 else some (nI m)) else some (nI l)) = some (nI (clV l m v)) := by
  have e1 := lN_toInt (n := m) (by omega)
  have e2 := lN_toInt (n := l) (by omega)
  unfold clV
  by_cases h1 : lN l ≤ v
  · have h1' := h1
    rw [fa_le64, e2] at h1'
    rw [if_pos h1]
    by_cases h2 : v ≤ lN m
    · have h2' := h2
      rw [fa_le64, e1] at h2'
      rw [if_pos h2]
      have hv : v = lN v.toInt.toNat := Int64.toInt_inj.mp (by rw [lN_toInt (by omega)]; omega)
      rw [hv, lN_i, ← hv]
      congr 2
      split
      · omega
      · split <;> omega
    · have h2' := h2
      rw [fa_le64, e1] at h2'
      rw [if_neg h2, if_neg (by omega), if_pos (by omega)]
  · have h1' := h1
    rw [fa_le64, e2] at h1'
    rw [if_neg h1, if_pos (by omega)]
theorem m_told (hT : mTd s.1 T) (hw : w < 3) : s.1 209 w = nI (decide (T 18 w ≠ 0)).toNat := by
  by_cases h : T 18 w = 0
  · rw [((hT.2.2.2.2.2.2.2 w hw).1 h), decide_eq_false (fun g => g h)]
    rfl
  · rw [((hT.2.2.2.2.2.2.2 w hw).2 h).1, decide_eq_true h]
    rfl
theorem m_cost (hn : 239 ≤ n) (hW : WT T) (hT : mTd s.1 T) (hO : mOd s.1 T O) (hS : mSd s b T O S) (hwO : wO T O) (hD : wD T S) (hb : b ≤ 1) (hp : p < T 0 1) (hw : w < T 0 2) : ∃ s' : zS, fX11_costOf n (mk s) 187 (nI b) (nI p) (nI w) = some (nI (cstV T S p (O.2.2.2.2.2 w) (S.2.2.1 1 w)), mk s') ∧ frQ s s' := by
  have hp' := WT_p hW hp
  have a1 := hwO.2.2.2 w hw
  have a2 := (hD.2.2.1 w hw).2
  have k := m_told hT (show 2 < 3 by omega)
  by_cases h : T 18 2 = 0
  · refine ⟨s, ?_, frQ_r⟩
    rw [decide_eq_false (fun g => g h)] at k
    unfold fX11_costOf cstV lawV
    rw [if_pos h]
    simp (disch := first | omega | assumption | (simp only [wL_1, wL_22, wI_2, wA_2, wQ_1, wQ_21] <;> first | assumption | omega)) only [LIT, LITm, nI_add, n_mul, fa_or, n_31m, n_shl0, n_le, n_lt, n_eq, Option.bind_some, B_m hn, B_ma hn, MTp T, k, Bool.toNat_false, not_true_eq_false, ↓reduceIte, Option.elim_none]
  · rw [decide_eq_true h] at k
    obtain ⟨sa, ea, ha, fa, hN⟩ := m_layBoth hn hW hT hO hS hwO hD hb hp hw
    have hTa : mTd sa.1 T := by rw [ha]; exact hT
    obtain ⟨sb, eb, fb, hE⟩ := m_lawOf hn hW hTa (show 2 < 3 by omega) h hN (nmV_b hW hD hp a1 a2)
    have hTb := mTd_Q fb hTa
    refine ⟨sb, ?_, frQ_t fa fb⟩
    unfold fX11_costOf cstV
    cases hv : lawV T 2 (nmV T S p (O.2.2.2.2.2 w) (S.2.2.1 1 w)) with
    | none =>
      rw [hv] at eb hE
      simp (disch := first | omega | assumption | (simp only [wL_1, wL_22, wI_2, wA_2, wQ_1, wQ_21] <;> first | assumption | omega)) only [LIT, LITm, nI_add, n_mul, fa_or, n_31m, n_shl0, n_le, n_lt, n_eq, Option.bind_some, B_m hn, B_ma hn, MTp T, k, ea, eb, hE, Option.isSome_none, Bool.not_false, Bool.toNat_true, Nat.reduceEqDiff, Nat.reduceLeDiff, not_false_eq_true, ↓reduceIte, Option.elim_none]
    | some v =>
      rw [hv] at eb hE
      have hc := clV_m (l := 0) (m := 99) (v := v) (r := none) (by omega) (by omega)
      have e99 : (99 : Int64) = lN 99 := rfl
      have e0 : (0 : Int64) = lN 0 := rfl
      rw [← e99, ← e0] at hc
      simp (disch := first | omega | assumption | (simp only [wL_1, wL_22, wI_2, wA_2, wQ_1, wQ_21] <;> first | assumption | omega)) only [LIT, LITm, nI_add, n_mul, fa_or, n_31m, n_shl0, n_le, n_lt, n_eq, Option.bind_some, B_m hn, B_ma hn, MTp T, k, ea, eb, hE, CMP, Option.isSome_some, Bool.not_true, Bool.toNat_false, Bool.toNat_true, Nat.reduceEqDiff, Nat.reduceLeDiff, not_false_eq_true, ↓reduceIte, Option.elim_some, Option.getD_some]
      by_cases c1 : (0 : Int64) ≤ v
      · rw [if_pos c1] at hc ⊢
        by_cases c2 : v ≤ (99 : Int64)
        · rw [if_pos c2] at hc ⊢
          rw [Option.some.inj hc]
        · rw [if_neg c2] at hc ⊢
          rw [Option.some.inj hc]
      · rw [if_neg c1] at hc ⊢
        rw [Option.some.inj hc]
theorem m_atEnd (hn : 239 ≤ n) (hW : WT T) (hT : mTd s.1 T) (hp : p < T 0 1) {x : Nat} (hx : x < 7) : fX11_isAtEnd n (mk s) 187 (nI p) (nI x) = some (nI (decide (T 3 p = x ∨ T 4 p = x)).toNat, mk s) := by
  have hp' := WT_p hW hp
  unfold fX11_isAtEnd fX11_isAtEnd_20
  by_cases h1 : T 3 p = x
  · rw [decide_eq_true (Or.inl h1)]
    simp (disch := first | omega | assumption | (simp only [wL_1, wL_22, wI_2, wA_2, wQ_1, wQ_21] <;> first | assumption | omega)) only [LIT, LITm, nI_add, n_mul, fa_or, n_31m, n_shl0, n_le, n_lt, n_eq, Option.bind_some, B_m hn, B_ma hn, MTp T, h1, ↓reduceIte, Bool.toNat_true]
  · by_cases h2 : T 4 p = x
    · rw [decide_eq_true (Or.inr h2)]
      simp (disch := first | omega | assumption | (simp only [wL_1, wL_22, wI_2, wA_2, wQ_1, wQ_21] <;> first | assumption | omega)) only [LIT, LITm, nI_add, n_mul, fa_or, n_31m, n_shl0, n_le, n_lt, n_eq, Option.bind_some, B_m hn, B_ma hn, MTp T, h1, h2, not_true_eq_false, ↓reduceIte, Bool.toNat_true]
    · rw [decide_eq_false (fun h => h.elim h1 h2)]
      simp (disch := first | omega | assumption | (simp only [wL_1, wL_22, wI_2, wA_2, wQ_1, wQ_21] <;> first | assumption | omega)) only [LIT, LITm, nI_add, n_mul, fa_or, n_31m, n_shl0, n_le, n_lt, n_eq, Option.bind_some, B_m hn, B_ma hn, MTp T, h1, h2, not_false_eq_true, ↓reduceIte, Bool.toNat_false]
theorem m_can3 (hn : 239 ≤ n) (hW : WT T) (hT : mTd s.1 T) (hO : mOd s.1 T O) (hS : mSd s b T O S) (hwO : wO T O) (hD : wD T S) (hb : b ≤ 1) (hp : p < T 0 1) (hw : w < T 0 2) {m : Bool} : ∃ s' : zS, fX11_can_113 n (mk s) 187 (nI b) (nI p) (nI w) (nI m.toNat) = some (nI (m && decide (cstV T S p (O.2.2.2.2.2 w) (S.2.2.1 1 w) ≤ S.2.2.1 1 w)).toNat, mk s') ∧ frQ s s' := by
  have hw' := WT_w hW hw
  have a2 := (hD.2.2.1 w hw).2
  have q2 := (hS.2.2 w hw).2
  cases m with
  | false =>
    refine ⟨s, ?_, frQ_r⟩
    unfold fX11_can_113
    simp (disch := first | omega | assumption | (simp only [wL_1, wL_22, wI_2, wA_2, wQ_1, wQ_21] <;> first | assumption | omega)) only [LIT, LITm, nI_add, n_mul, fa_or, n_31m, n_shl0, n_le, n_lt, n_eq, Option.bind_some, Bool.toNat_false, ↓reduceIte, Bool.false_and]
  | true =>
    obtain ⟨sa, ea, fa⟩ := m_cost hn hW hT hO hS hwO hD hb hp hw
    refine ⟨sa, ?_, fa⟩
    have hcl : cstV T S p (O.2.2.2.2.2 w) (S.2.2.1 1 w) ≤ 99 := by
      have hp' := WT_p hW hp
      unfold cstV
      cases lawV T 2 (nmV T S p (O.2.2.2.2.2 w) (S.2.2.1 1 w)) with
      | none => exact hp'.2.2.2.2.1
      | some v => exact (clV_le (l := 0) (m := 99) (by omega)).2
    unfold fX11_can_113
    simp (disch := first | omega | assumption | (simp only [wL_1, wL_22, wI_2, wA_2, wQ_1, wQ_21] <;> first | assumption | omega)) only [LIT, LITm, nI_add, n_mul, fa_or, n_31m, n_shl0, n_le, n_lt, n_eq, Option.bind_some, B_m hn, B_mb hn, ea, q2, Bool.toNat_true, Nat.reduceEqDiff, Nat.reduceLeDiff, ↓reduceIte, Bool.true_and]
    by_cases h : cstV T S p (O.2.2.2.2.2 w) (S.2.2.1 1 w) ≤ S.2.2.1 1 w
    · rw [if_neg (by omega), decide_eq_true h]
      rfl
    · rw [if_pos (by omega), decide_eq_false h]
      rfl
theorem m_can2 (hn : 239 ≤ n) (hW : WT T) (hT : mTd s.1 T) (hO : mOd s.1 T O) (hS : mSd s b T O S) (hwO : wO T O) (hD : wD T S) (hb : b ≤ 1) (hp : p < T 0 1) (hw : w < T 0 2) {m : Bool} (hm : m = decide (T 6 p ≤ O.2.2.2.2.2 w)) : ∃ s' : zS, fX11_can_62 n (mk s) 187 (nI b) (nI p) (nI w) (nI m.toNat) = some (nI (mayV T S p (O.2.2.2.2.2 w) (S.2.2.1 1 w) && decide (cstV T S p (O.2.2.2.2.2 w) (S.2.2.1 1 w) ≤ S.2.2.1 1 w)).toNat, mk s') ∧ frQ s s' := by
  have a1 := hwO.2.2.2 w hw
  have a2 := (hD.2.2.1 w hw).2
  have k := m_told hT (show 1 < 3 by omega)
  by_cases h : T 18 1 = 0
  · rw [decide_eq_false (fun g => g h)] at k
    obtain ⟨sa, ea, fa⟩ := m_can3 hn hW hT hO hS hwO hD hb hp hw (m := m)
    refine ⟨sa, ?_, fa⟩
    unfold fX11_can_62
    have hmy : mayV T S p (O.2.2.2.2.2 w) (S.2.2.1 1 w) = m := by
      unfold mayV lawV
      rw [if_pos h, hm]
      rfl
    rw [hmy]
    simp (disch := first | omega | assumption | (simp only [wL_1, wL_22, wI_2, wA_2, wQ_1, wQ_21] <;> first | assumption | omega)) only [LIT, LITm, nI_add, n_mul, fa_or, n_31m, n_shl0, n_le, n_lt, n_eq, Option.bind_some, B_m hn, B_ma hn, k, ea, Bool.toNat_false, ↓reduceIte]
  · rw [decide_eq_true h] at k
    obtain ⟨sa, ea, ha, fa, hN⟩ := m_layBoth hn hW hT hO hS hwO hD hb hp hw
    have hTa : mTd sa.1 T := by rw [ha]; exact hT
    obtain ⟨sb, eb, fb, hE⟩ := m_lawOf hn hW hTa (show 1 < 3 by omega) h hN (nmV_b hW hD hp a1 a2)
    have fab := frQ_t fa fb
    have hTb := mTd_Q fab hT
    have hOb : mOd sb.1 T O := mOd_fr hO (fun j h1 h2 => fab.2.1 _ _ (by omega))
    have hSb := mSd_Q fab hS
    have fin : ∀ mm : Bool, mm = mayV T S p (O.2.2.2.2.2 w) (S.2.2.1 1 w) → ∃ s' : zS, fX11_can_113 n (mk sb) 187 (nI b) (nI p) (nI w) (nI mm.toNat) = some (nI (mayV T S p (O.2.2.2.2.2 w) (S.2.2.1 1 w) && decide (cstV T S p (O.2.2.2.2.2 w) (S.2.2.1 1 w) ≤ S.2.2.1 1 w)).toNat, mk s') ∧ frQ s s' := by
      intro mm hmm
      obtain ⟨sc, ec, fc⟩ := m_can3 hn hW hTb hOb hSb hwO hD hb hp hw (m := mm)
      refine ⟨sc, ?_, frQ_t fab fc⟩
      rw [ec, hmm]
    unfold fX11_can_62 fX11_can_111
    cases hv : lawV T 1 (nmV T S p (O.2.2.2.2.2 w) (S.2.2.1 1 w)) with
    | none =>
      rw [hv] at eb hE
      obtain ⟨sc, ec, fc⟩ := fin m (by unfold mayV; rw [hv, hm]; rfl)
      refine ⟨sc, ?_, fc⟩
      simp (disch := first | omega | assumption | (simp only [wL_1, wL_22, wI_2, wA_2, wQ_1, wQ_21] <;> first | assumption | omega)) only [LIT, LITm, nI_add, n_mul, fa_or, n_31m, n_shl0, n_le, n_lt, n_eq, Option.bind_some, B_m hn, B_ma hn, k, ea, eb, ec, hE, Option.isSome_none, Bool.not_false, Bool.toNat_true, Nat.reduceEqDiff, Nat.reduceLeDiff, ↓reduceIte]
    | some v =>
      rw [hv] at eb hE
      by_cases h0 : v = 0
      · obtain ⟨sc, ec, fc⟩ := fin false (by unfold mayV; rw [hv, h0]; rfl)
        refine ⟨sc, ?_, fc⟩
        rw [Bool.toNat_false] at ec
        simp (disch := first | omega | assumption | (simp only [wL_1, wL_22, wI_2, wA_2, wQ_1, wQ_21] <;> first | assumption | omega)) only [LIT, LITm, nI_add, n_mul, fa_or, n_31m, n_shl0, n_le, n_lt, n_eq, Option.bind_some, B_m hn, B_ma hn, k, ea, eb, ec, hE, CMP, h0, Option.isSome_some, Option.getD_some, Bool.not_true, Bool.toNat_false, Bool.toNat_true, Nat.reduceEqDiff, Nat.reduceLeDiff, ↓reduceIte]
      · obtain ⟨sc, ec, fc⟩ := fin true (by unfold mayV; rw [hv]; simp [h0])
        refine ⟨sc, ?_, fc⟩
        rw [Bool.toNat_true] at ec
        simp (disch := first | omega | assumption | (simp only [wL_1, wL_22, wI_2, wA_2, wQ_1, wQ_21] <;> first | assumption | omega)) only [LIT, LITm, nI_add, n_mul, fa_or, n_31m, n_shl0, n_le, n_lt, n_eq, Option.bind_some, B_m hn, B_ma hn, k, ea, eb, ec, hE, CMP, h0, Option.isSome_some, Option.getD_some, Bool.not_true, Bool.toNat_false, Bool.toNat_true, Nat.reduceEqDiff, Nat.reduceLeDiff, ↓reduceIte]
theorem m_can (hn : 239 ≤ n) (hW : WT T) (hT : mTd s.1 T) (hO : mOd s.1 T O) (hS : mSd s b T O S) (hwO : wO T O) (hD : wD T S) (hb : b ≤ 1) (hp : p < T 0 1) (hw : w < T 0 2) : ∃ s' : zS, fX11_can n (mk s) 187 (nI b) (nI p) (nI w) = some (nI (canV T O S w p).isSome.toNat, mk s') ∧ frQ s s' := by
  have hp' := WT_p hW hp
  have hw' := WT_w hW hw
  have h0 := hW.1
  have a1 := hwO.2.2.2 w hw
  have a2 := hD.2.2.1 w hw
  obtain ⟨⟨s1, s2, s3, s4⟩, s5, s6⟩ := hS
  obtain ⟨q1, q2, q3⟩ := s5 p hp
  obtain ⟨q4, q5⟩ := s6 w hw
  have hS' : mSd s b T O S := ⟨⟨s1, s2, s3, s4⟩, s5, s6⟩
  have hae := m_atEnd hn hW hT hp (x := S.2.2.1 0 w) (by omega)
  have hbu := m_bull (p := p) hn hW hT hO hb hp'.2.2.2.2.2.2.2 s1
  unfold canV
  cases g2 : S.2.2.2.1.testBit p with
  | false =>
    refine ⟨s, ?_, frQ_r⟩
    rw [g2] at q2
    rw [if_neg (by simp)]
    unfold fX11_can
    simp (disch := first | omega | assumption | (simp only [wL_1, wL_22, wI_2, wA_2, wQ_1, wQ_21] <;> first | assumption | omega)) only [LIT, LITm, nI_add, n_mul, fa_or, n_31m, n_shl0, n_le, n_lt, n_eq, Option.bind_some, B_m hn, B_mb hn, q2, Bool.toNat_false, ↓reduceIte, Option.isSome_none]
  | true =>
    rw [g2] at q2
    by_cases g1 : T 3 p = S.2.2.1 0 w ∨ T 4 p = S.2.2.1 0 w
    · rw [decide_eq_true g1] at hae
      cases g3 : (O.2.1 && bullV T p (S.1 0) (T 0 4)) with
      | true =>
        rw [g3] at hbu
        refine ⟨s, ?_, frQ_r⟩
        rw [if_neg (fun h => h.2.2.1 (by simpa using g3))]
        unfold fX11_can
        simp (disch := first | omega | assumption | (simp only [wL_1, wL_22, wI_2, wA_2, wQ_1, wQ_21] <;> first | assumption | omega)) only [LIT, LITm, nI_add, n_mul, fa_or, n_31m, n_shl0, n_le, n_lt, n_eq, Option.bind_some, B_m hn, B_mb hn, q2, q4, hae, hbu, Bool.toNat_true, Bool.toNat_false, Nat.reduceEqDiff, Nat.reduceLeDiff, ↓reduceIte, Option.isSome_none]
      | false =>
        rw [g3] at hbu
        have g3' : ¬ (O.2.1 = true ∧ bullV T p (S.1 0) (T 0 4) = true) := fun h => by rw [h.1, h.2] at g3; cases g3
        obtain ⟨sa, ea, fa⟩ := m_can2 hn hW hT hO hS' hwO hD hb hp hw rfl
        refine ⟨sa, ?_, fa⟩
        have hr : (if (T 3 p = S.2.2.1 0 w ∨ T 4 p = S.2.2.1 0 w) ∧ true = true ∧ ¬ (O.2.1 = true ∧ bullV T p (S.1 0) (T 0 4) = true) ∧ mayV T S p (O.2.2.2.2.2 w) (S.2.2.1 1 w) = true ∧ cstV T S p (O.2.2.2.2.2 w) (S.2.2.1 1 w) ≤ S.2.2.1 1 w then some (cstV T S p (O.2.2.2.2.2 w) (S.2.2.1 1 w)) else none).isSome = (mayV T S p (O.2.2.2.2.2 w) (S.2.2.1 1 w) && decide (cstV T S p (O.2.2.2.2.2 w) (S.2.2.1 1 w) ≤ S.2.2.1 1 w)) := by
          cases mayV T S p (O.2.2.2.2.2 w) (S.2.2.1 1 w) with
          | false => rw [if_neg (fun h => by cases h.2.2.2.1)]; rfl
          | true =>
            by_cases h : cstV T S p (O.2.2.2.2.2 w) (S.2.2.1 1 w) ≤ S.2.2.1 1 w
            · rw [if_pos ⟨g1, rfl, g3', rfl, h⟩, decide_eq_true h]
              rfl
            · rw [if_neg (fun g => h g.2.2.2.2), decide_eq_false h]
              rfl
        rw [hr]
        unfold fX11_can
        by_cases h : O.2.2.2.2.2 w < T 6 p
        · rw [decide_eq_false (by omega)] at ea
          simp (disch := first | omega | assumption | (simp only [wL_1, wL_22, wI_2, wA_2, wQ_1, wQ_21] <;> first | assumption | omega)) only [LIT, LITm, nI_add, n_mul, fa_or, n_31m, n_shl0, n_le, n_lt, n_eq, Option.bind_some, B_m hn, B_ma hn, B_mb hn, MTp T, m_legsIn hn hW hT hO hw, q2, q4, hae, hbu, h, Bool.toNat_true, Bool.toNat_false, Nat.reduceEqDiff, Nat.reduceLeDiff, ↓reduceIte]
          exact ea
        · rw [decide_eq_true (by omega)] at ea
          simp (disch := first | omega | assumption | (simp only [wL_1, wL_22, wI_2, wA_2, wQ_1, wQ_21] <;> first | assumption | omega)) only [LIT, LITm, nI_add, n_mul, fa_or, n_31m, n_shl0, n_le, n_lt, n_eq, Option.bind_some, B_m hn, B_ma hn, B_mb hn, MTp T, m_legsIn hn hW hT hO hw, q2, q4, hae, hbu, h, Bool.toNat_true, Bool.toNat_false, Nat.reduceEqDiff, Nat.reduceLeDiff, ↓reduceIte]
          exact ea
    · rw [decide_eq_false g1] at hae
      refine ⟨s, ?_, frQ_r⟩
      rw [if_neg (fun h => g1 h.1)]
      unfold fX11_can
      simp (disch := first | omega | assumption | (simp only [wL_1, wL_22, wI_2, wA_2, wQ_1, wQ_21] <;> first | assumption | omega)) only [LIT, LITm, nI_add, n_mul, fa_or, n_31m, n_shl0, n_le, n_lt, n_eq, Option.bind_some, B_m hn, B_mb hn, q2, q4, hae, Bool.toNat_true, Bool.toNat_false, Nat.reduceEqDiff, Nat.reduceLeDiff, ↓reduceIte, Option.isSome_none]
end Mw
