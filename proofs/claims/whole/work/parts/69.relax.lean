/-! ===== the reference goes on from a settled node ===== -/
section Rx
variable {n p w c W k v : Nat} {s s0 : zS} {T : zT} {S : zD} {d d1 : Nat → Option Nat} {D : Nat → Bool}
theorem m_isOpen2 (hn : 239 ≤ n) (hW : WT T) (hT : mTd s.1 T) (hS : mSd s 0 T O00 S) (hp : p < T 0 1) (hw : w < T 0 2) : fX11_isOpen n (mk s) 187 (nI p) (nI w) = some (nI (opnB T S w p).toNat, mk s) := by
  have h0 := hW.1
  have he := WT_p hW hp
  have hw' := hW.2.2.2.1 w hw
  have q : s.1 222 p = nI (S.2.2.2.1.testBit p).toNat := by
    have := (hS.2.1 p hp).2.1
    rwa [Nat.mul_zero, Nat.zero_add] at this
  have w6 : s.1 197 p = nI (T 6 p) := (hT.2.2.2.1 p hp).2.2.2.2.1
  have w10 : s.1 201 w = nI (T 10 w) := (hT.2.2.2.2.1 w hw).2.2.1
  unfold fX11_isOpen opnB
  cases g : S.2.2.2.1.testBit p with
  | false =>
    rw [g] at q
    simp (disch := first | omega | assumption | (simp only [wL_1, wL_22, wI_2, wA_2, wQ_1, wQ_21] <;> first | assumption | omega)) only [LIT, LITm, nI_add, n_mul, fa_or, n_31m, n_shl0, n_le, n_lt, n_eq, Option.bind_some, B_m hn, B_mb hn, q, Bool.toNat_false, Bool.false_and, ↓reduceIte]
  | true =>
    rw [g] at q
    by_cases e : T 6 p ≤ T 10 w
    · simp (disch := first | omega | assumption | (simp only [wL_1, wL_22, wI_2, wA_2, wQ_1, wQ_21] <;> first | assumption | omega)) only [LIT, LITm, nI_add, n_mul, fa_or, n_31m, n_shl0, n_le, n_lt, n_eq, Option.bind_some, B_m hn, B_ma hn, B_mb hn, q, w6, w10, Bool.toNat_true, Nat.reduceEqDiff, Nat.reduceLeDiff, e, show ¬ T 10 w < T 6 p by omega, decide_true, Bool.and_self, ↓reduceIte]
    · simp (disch := first | omega | assumption | (simp only [wL_1, wL_22, wI_2, wA_2, wQ_1, wQ_21] <;> first | assumption | omega)) only [LIT, LITm, nI_add, n_mul, fa_or, n_31m, n_shl0, n_le, n_lt, n_eq, Option.bind_some, B_m hn, B_ma hn, B_mb hn, q, w6, w10, Bool.toNat_true, Bool.toNat_false, Nat.reduceEqDiff, Nat.reduceLeDiff, e, show T 10 w < T 6 p by omega, decide_false, Bool.and_false, ↓reduceIte]
theorem m_other2 {x : Nat} (hn : 239 ≤ n) (hW : WT T) (hT : mTd s.1 T) (hp : p < T 0 1) (hx : x < 7) : fX11_otherEnd n (mk s) 187 (nI p) (nI x) = some (nI (othV T p x), mk s) := by
  have h0 := hW.1
  have he := WT_p hW hp
  have w3 : s.1 194 p = nI (T 3 p) := (hT.2.2.2.1 p hp).2.1
  have w4 : s.1 195 p = nI (T 4 p) := (hT.2.2.2.1 p hp).2.2.1
  unfold fX11_otherEnd othV
  by_cases e : T 3 p = x
  · simp (disch := first | omega | assumption | (simp only [wL_1, wL_22, wI_2, wA_2, wQ_1, wQ_21] <;> first | assumption | omega)) only [LIT, LITm, nI_add, n_mul, fa_or, n_31m, n_shl0, n_le, n_lt, n_eq, Option.bind_some, B_m hn, B_ma hn, w3, w4, e, not_true_eq_false, ↓reduceIte]
  · simp (disch := first | omega | assumption | (simp only [wL_1, wL_22, wI_2, wA_2, wQ_1, wQ_21] <;> first | assumption | omega)) only [LIT, LITm, nI_add, n_mul, fa_or, n_31m, n_shl0, n_le, n_lt, n_eq, Option.bind_some, B_m hn, B_ma hn, w3, w4, e, not_false_eq_true, ↓reduceIte]
/-- where a path goes on to -/
def tgV (T : zT) (W k p : Nat) : Nat := 512 * othV T p (k / 512) + (k % 512 ||| (W &&& 2 ^ p))
theorem tgV_lt (hW : WT T) (hp : p < T 0 1) (hWs : W < 512) : tgV T W k p < 3584 := by
  have he := WT_p hW hp
  have h1 : othV T p (k / 512) < 7 := by unfold othV; split <;> omega
  have h2 : k % 512 ||| (W &&& 2 ^ p) < 512 := Nat.or_lt_two_pow (n := 9) (Nat.mod_lt _ (by decide)) (Nat.lt_of_le_of_lt Nat.and_le_left hWs)
  unfold tgV
  omega
/-- what holds while one goes on from k, settled by v -/
def rxI (T : zT) (S : zD) (w W c a v0 k v : Nat) (d : Nat → Option Nat) (D : Nat → Bool) (i : Nat) (d1 : Nat → Option Nat) : Prop :=
  snL (stE T S w W c) a v0 d1 ∧ (∀ j, D j = true → d1 j = d j) ∧ (∀ j u, d j = some u → ∃ u', u' ≤ u ∧ d1 j = some u') ∧ (∀ j u, d1 j = some u → d j = some u ∨ (j < 3584 ∧ v < u ∧ u ≤ v + 202)) ∧ ∀ p v', p < i → opnB T S w p = true → (T 3 p = k / 512 ∨ T 4 p = k / 512) → tkV c (T 5 p) v = some v' → ∃ u, u ≤ v' ∧ d1 (tgV T W k p) = some u
theorem rxI_no {a v0 i : Nat} (h : rxI T S w W c a v0 k v d D i d1) (hn : ∀ v', opnB T S w i = true → (T 3 i = k / 512 ∨ T 4 i = k / 512) → tkV c (T 5 i) v = some v' → ∃ u, u ≤ v' ∧ d1 (tgV T W k i) = some u) : rxI T S w W c a v0 k v d D (i + 1) d1 := by
  obtain ⟨h1, h2, h3, h4, h5⟩ := h
  refine ⟨h1, h2, h3, h4, fun p v' hp a1 a2 a3 => ?_⟩
  by_cases e : p = i
  · rw [e] at a1 a2 a3 ⊢
    exact hn v' a1 a2 a3
  · exact h5 p v' (by omega) a1 a2 a3
theorem rxI_up {a v0 i v' : Nat} (hW : WT T) (hWs : W < 512) (hi : i < T 0 1) (hk : d1 k = some v) (hD : ∀ j u, D j = true → d j = some u → u ≤ v) (hDn : ∀ j, D j = true → d j ≠ none) (h : rxI T S w W c a v0 k v d D i d1) (a1 : opnB T S w i = true) (a2 : T 3 i = k / 512 ∨ T 4 i = k / 512) (a3 : tkV c (T 5 i) v = some v') (hl : ∀ u, d1 (tgV T W k i) = some u → v' < u) : rxI T S w W c a v0 k v d D (i + 1) (fun z => if z = tgV T W k i then some v' else d1 z) := by
  obtain ⟨h1, h2, h3, h4, h5⟩ := h
  have he := WT_p hW hi
  have hb := tkV_b (by omega) (by omega) a3
  refine ⟨snL_up h1 hk ⟨i, hi, a1, a2, rfl, a3⟩, fun j hj => ?_, fun j u hj => ?_, fun j u hj => ?_, fun p u hp b1 b2 b3 => ?_⟩
  · by_cases e : j = tgV T W k i
    · exfalso
      cases ed : d j with
      | none => exact hDn j hj ed
      | some u =>
        have q1 := hD j u hj ed
        have q2 := h2 j hj
        rw [ed, e] at q2
        have := hl u q2
        omega
    · simp only [if_neg e]
      exact h2 j hj
  · by_cases e : j = tgV T W k i
    · simp only [if_pos e]
      obtain ⟨u', g1, g2⟩ := h3 j u hj
      rw [e] at g2
      have := hl u' g2
      exact ⟨v', by omega, rfl⟩
    · simp only [if_neg e]
      exact h3 j u hj
  · by_cases e : j = tgV T W k i
    · simp only [if_pos e] at hj
      cases hj
      right
      rw [e]
      exact ⟨tgV_lt hW hi hWs, hb.1, hb.2⟩
    · simp only [if_neg e] at hj
      exact h4 j u hj
  · by_cases e : tgV T W k p = tgV T W k i
    · simp only [if_pos e]
      by_cases q : p = i
      · rw [q] at b3
        rw [a3] at b3
        cases b3
        exact ⟨v', Nat.le_refl _, rfl⟩
      · obtain ⟨u', g1, g2⟩ := h5 p u (by omega) b1 b2 b3
        rw [e] at g2
        have := hl u' g2
        exact ⟨v', by omega, rfl⟩
    · simp only [if_neg e]
      by_cases q : p = i
      · rw [q] at e
        exact absurd rfl e
      · exact h5 p u (by omega) b1 b2 b3
end Rx
