/-! ===== round, by the class: one step less ===== -/
section Ln
variable {n i l c q : Nat} {s : zS} {b : Option Nat}
/-- a step by the class's numbers, 128 * day + gone -/
def tcV (c l u : Nat) : Option Nat := if c = 0 then some (u + l) else if c < l then none else if c < u % 128 + l then some ((u / 128 + 1) * 128 + l) else some (u + l)
def tcB (c l : Nat) (b : Option Nat) : Option Nat := match b with | none => none | some u => tcV c l u
theorem c_less69 {v : Nat} (hn : 239 ≤ n) (hi : i < 3584) (hq : s.1 79 i = nI q) (hq2 : q ≤ 1000000) (hv : v ≤ 1100000) : fX9_lessen_69 n (mk s) 77 (nI i) (nI v) = some (nI (decide (v < q)).toNat, mk (if v < q then wI s 79 i (nI v) else s)) := by
  unfold fX9_lessen_69
  by_cases g : v < q
  · rw [if_pos g, decide_eq_true g]
    simp (disch := first | omega | assumption | (simp only [wL_1, wL_22, wI_2, wA_2, wQ_1, wQ_21] <;> first | assumption | omega)) only [LIT, LITm, nI_add, n_mul, fa_or, n_31m, n_shl0, n_le, n_lt, n_eq, Option.bind_some, B_wy hn, hq, g, Bool.toNat_true, ↓reduceIte]
  · rw [if_neg g, decide_eq_false g]
    simp (disch := first | omega | assumption | (simp only [wL_1, wL_22, wI_2, wA_2, wQ_1, wQ_21] <;> first | assumption | omega)) only [LIT, LITm, nI_add, n_mul, fa_or, n_31m, n_shl0, n_le, n_lt, n_eq, Option.bind_some, B_wy hn, hq, g, Bool.toNat_false, ↓reduceIte]
theorem c_lessen (hn : 239 ≤ n) (hi : i < 3584) (hq : s.1 79 i = nI q) (hq2 : q ≤ 1000000) (hb : ∀ u, b = some u → u ≤ 900000) (hl : l ≤ 99) (hc : c ≤ 99) : fX9_lessen n (mk s) 77 (nI i) (nI (fr b)) (nI l) (nI c) = some (nI (decide (fr (tcB c l b) < q)).toNat, mk (if fr (tcB c l b) < q then wI s 79 i (nI (fr (tcB c l b))) else s)) := by
  have nF : (1000000 : Int32) = nI 1000000 := rfl
  have n127 : (127 : Int32) = nI 127 := rfl
  have fin : ∀ v, v ≤ 1100000 → fX9_lessen_69 n (mk s) 77 (nI i) (nI v) = some (nI (decide (v < q)).toNat, mk (if v < q then wI s 79 i (nI v) else s)) := fun v hv => c_less69 hn hi hq hq2 hv
  unfold fX9_lessen fX9_lessen_14 fX9_lessen_34
  rw [nF, n127]
  cases b with
  | none =>
    show _ = some (nI (decide (1000000 < q)).toNat, mk (if 1000000 < q then wI s 79 i (nI 1000000) else s))
    rw [← fin 1000000 (by omega)]
    have f0 : fr none = 1000000 := rfl
    rw [f0]
    by_cases c0 : c = 0
    · simp (disch := first | omega | assumption | (simp only [wL_1, wL_22, wI_2, wA_2, wQ_1, wQ_21] <;> first | assumption | omega)) only [LIT, LITm, nI_add, n_mul, fa_or, n_31m, n_shl0, n_le, n_lt, n_eq, Option.bind_some, B_wy hn, c0, Nat.le_refl, Nat.lt_irrefl, ↓reduceIte]
    · by_cases c1 : l ≤ c
      · simp (disch := first | omega | assumption | (simp only [wL_1, wL_22, wI_2, wA_2, wQ_1, wQ_21] <;> first | assumption | omega)) only [LIT, LITm, nI_add, n_mul, fa_or, n_31m, n_shl0, n_le, n_lt, n_eq, Option.bind_some, B_wy hn, c1, show ¬ c ≤ 0 by omega, Nat.le_refl, Nat.lt_irrefl, ↓reduceIte]
      · simp (disch := first | omega | assumption | (simp only [wL_1, wL_22, wI_2, wA_2, wQ_1, wQ_21] <;> first | assumption | omega)) only [LIT, LITm, nI_add, n_mul, fa_or, n_31m, n_shl0, n_le, n_lt, n_eq, Option.bind_some, B_wy hn, c1, show ¬ c ≤ 0 by omega, Nat.le_refl, Nat.lt_irrefl, ↓reduceIte]
  | some u =>
    have hu := hb u rfl
    have f0 : fr (some u) = u := rfl
    rw [f0]
    show _ = some (nI (decide (fr (tcV c l u) < q)).toNat, mk (if fr (tcV c l u) < q then wI s 79 i (nI (fr (tcV c l u))) else s))
    unfold tcV
    by_cases c0 : c = 0
    · rw [if_pos c0]
      have f1 : fr (some (u + l)) = u + l := rfl
      rw [f1, ← fin (u + l) (by omega)]
      simp (disch := first | omega | assumption | (simp only [wL_1, wL_22, wI_2, wA_2, wQ_1, wQ_21] <;> first | assumption | omega)) only [LIT, LITm, nI_add, n_mul, fa_or, n_31m, n_shl0, n_le, n_lt, n_eq, Option.bind_some, B_wy hn, c0, show u < 1000000 by omega, Nat.le_refl, ↓reduceIte]
    · rw [if_neg c0]
      by_cases c1 : c < l
      · rw [if_pos c1]
        have f1 : fr none = 1000000 := rfl
        rw [f1, ← fin 1000000 (by omega)]
        simp (disch := first | omega | assumption | (simp only [wL_1, wL_22, wI_2, wA_2, wQ_1, wQ_21] <;> first | assumption | omega)) only [LIT, LITm, nI_add, n_mul, fa_or, n_31m, n_shl0, n_le, n_lt, n_eq, Option.bind_some, B_wy hn, show u < 1000000 by omega, show ¬ c ≤ 0 by omega, show ¬ l ≤ c by omega, ↓reduceIte]
      · rw [if_neg c1]
        have em : nI u &&& nI 127 = nI (u % 128) := fa_mask u 7
        by_cases g : c < u % 128 + l
        · rw [if_pos g]
          have f1 : fr (some ((u / 128 + 1) * 128 + l)) = (u / 128 + 1) * 128 + l := rfl
          rw [f1, ← fin ((u / 128 + 1) * 128 + l) (by omega)]
          have e7 : (nI u >>> nI 7) = nI (u / 128) := by
            rw [n_shr0 (by omega) (by omega), Nat.shiftRight_eq_div_pow]
          have e8 : nI (u / 128 + 1) <<< nI 7 = nI (128 * (u / 128 + 1)) := by
            have h := n_shl (a := u / 128 + 1) (p := 7) (by omega)
            rw [n_31m (by omega)] at h
            rw [h, Nat.shiftLeft_eq, Nat.mul_comm]
          have e9 : 128 * (u / 128 + 1) ||| l = (u / 128 + 1) * 128 + l := by
            rw [← Nat.two_pow_add_eq_or_of_lt (i := 7) (by omega : l < 2 ^ 7), Nat.mul_comm]
          simp (disch := first | omega | assumption | (simp only [wL_1, wL_22, wI_2, wA_2, wQ_1, wQ_21] <;> first | assumption | omega)) only [LIT, LITm, nI_add, n_mul, fa_or, n_31m, n_shl0, n_le, n_lt, n_eq, Option.bind_some, B_wy hn, em, e7, e8, e9, show u < 1000000 by omega, show ¬ c ≤ 0 by omega, show l ≤ c by omega, show ¬ 1000000 ≤ u by omega, show ¬ u % 128 + l ≤ c by omega, ↓reduceIte]
        · rw [if_neg g]
          have f1 : fr (some (u + l)) = u + l := rfl
          rw [f1, ← fin (u + l) (by omega)]
          simp (disch := first | omega | assumption | (simp only [wL_1, wL_22, wI_2, wA_2, wQ_1, wQ_21] <;> first | assumption | omega)) only [LIT, LITm, nI_add, n_mul, fa_or, n_31m, n_shl0, n_le, n_lt, n_eq, Option.bind_some, B_wy hn, em, show u < 1000000 by omega, show ¬ c ≤ 0 by omega, show l ≤ c by omega, show ¬ 1000000 ≤ u by omega, show u % 128 + l ≤ c by omega, ↓reduceIte]
end Ln
