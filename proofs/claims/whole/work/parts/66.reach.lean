/-! ===== reach, by the class ===== -/
section Rc
variable {n t o p w : Nat} {s : zS} {T : zT} {A : zA} {S : zD} {x y z : Int32}
/-- the paths that are open for one -/
def opnB (T : zT) (S : zD) (w p : Nat) : Bool := S.2.2.2.1.testBit p && decide (T 6 p ≤ T 10 w)
def opnV (T : zT) (S : zD) (w : Nat) : Nat := goB (opnB T S w) (T 0 1)
theorem opnV_lt (hW : WT T) : opnV T S w < 512 := Nat.lt_of_lt_of_le (goB_lt _ _) (Nat.pow_le_pow_right (n := 2) (j := 9) (by decide) hW.1.2.1)
theorem c_openFor (hn : 239 ≤ n) (ht : t = 6 ∨ t = 29) (ho : isS o) (hW : WT T) (hT : cTd s.1 t T) (hk : s.1 o 4 = nI S.2.2.2.1) (hD : wD T S) (hw : w < T 0 2) : fX9_openFor n (mk s) t o (nI w) = some (nI (opnV T S w), mk s) := by
  have h0 := hW.1
  have hw' := hW.2.2.2.1 w hw
  have hkk := wD_k hW hD
  unfold fX9_openFor
  simp (disch := first | omega | assumption | (simp only [wL_1, wL_22, wI_2, wA_2, wQ_1, wQ_21] <;> first | assumption | omega)) only [LIT, LITm, nI_add, n_mul, fa_or, n_31m, n_shl0, n_le, n_lt, n_eq, Option.bind_some, B_t hn ht, CT hn ht hW, CTp t T]
  refine lp_up (F := fun f (b : Nat) i => fX9_openFor_16 n f (mk s) t o (nI (T 10 w)) (nI b) (nI i)) (N := T 0 1) (P := fun i b => b = goB (opnB T S w) i) (Q := fun r => r = some (nI (opnV T S w), mk s)) ?_ ?_ (T 0 1) bi_K 0 0 (by omega) (by unfold bi_K; omega) rfl
  · intro f b i hi hP
    left
    have he := WT_p hW hi
    have kp := c_isKept (p := i) hn ho hk hkk (by omega)
    refine ⟨b ||| (if opnB T S w i = true then 2 ^ i else 0), ?_, by rw [hP]; rfl⟩
    show fX9_openFor_16b n (fX9_openFor_16 n f) (mk s) t o (nI (T 10 w)) (nI b) (nI i) = _
    unfold fX9_openFor_16b fX9_openFor_60
    cases g : S.2.2.2.1.testBit i with
    | false =>
      rw [g] at kp
      rw [if_neg (show ¬ opnB T S w i = true by unfold opnB; simp [g])]
      simp (disch := first | omega | assumption | (simp only [wL_1, wL_22, wI_2, wA_2, wQ_1, wQ_21] <;> first | assumption | omega)) only [LIT, LITm, nI_add, n_mul, fa_or, n_31m, n_shl0, n_le, n_lt, n_eq, Option.bind_some, B_t hn ht, CT hn ht hW, CTp t T, kp, Bool.toNat_false, Nat.or_zero, show ¬ T 0 1 ≤ i by omega, ↓reduceIte]
    | true =>
      rw [g] at kp
      by_cases d : T 6 i ≤ T 10 w
      · rw [if_pos (show opnB T S w i = true by unfold opnB; simp [g, d])]
        simp (disch := first | omega | assumption | (simp only [wL_1, wL_22, wI_2, wA_2, wQ_1, wQ_21] <;> first | assumption | omega)) only [LIT, LITm, nI_add, n_mul, fa_or, n_31m, n_shl0, n_le, n_lt, n_eq, Option.bind_some, B_t hn ht, CT hn ht hW, CTp t T, kp, Bool.toNat_true, Nat.reduceEqDiff, Nat.reduceLeDiff, show ¬ T 10 w < T 6 i by omega, show ¬ T 0 1 ≤ i by omega, ↓reduceIte]
      · rw [if_neg (show ¬ opnB T S w i = true by unfold opnB; simp [d])]
        simp (disch := first | omega | assumption | (simp only [wL_1, wL_22, wI_2, wA_2, wQ_1, wQ_21] <;> first | assumption | omega)) only [LIT, LITm, nI_add, n_mul, fa_or, n_31m, n_shl0, n_le, n_lt, n_eq, Option.bind_some, B_t hn ht, CT hn ht hW, CTp t T, kp, Bool.toNat_true, Nat.or_zero, Nat.reduceEqDiff, Nat.reduceLeDiff, show T 10 w < T 6 i by omega, show ¬ T 0 1 ≤ i by omega, ↓reduceIte]
  · intro f b hP
    show fX9_openFor_16b n (fX9_openFor_16 n f) (mk s) t o (nI (T 10 w)) (nI b) (nI (T 0 1)) = _
    unfold fX9_openFor_16b
    simp (disch := first | omega | assumption | (simp only [wL_1, wL_22, wI_2, wA_2, wQ_1, wQ_21] <;> first | assumption | omega)) only [LIT, LITm, nI_add, n_mul, fa_or, n_31m, n_shl0, n_le, n_lt, n_eq, Option.bind_some, B_t hn ht, CTp t T, hP, Nat.le_refl, ↓reduceIte]
    rfl
theorem c_reach (hn : 239 ≤ n) (hK : cK s t A) (hA : wfA A) : (∀ w, w < aT A 0 2 → fX10_reach n (mk s) 1 (nI w) = some (nI (spS (aT A) (opnB (aT A) (aS A) w) ((aS A).2.2.1 0 w)), mk s)) ∧ (inR x (aT A 0 2) = false → fX10_reach n (mk s) 1 x = some (m1, mk s)) := by
  have ht := cK_t hK
  have hW := hA.1
  have h0 := hW.1
  have hP := fun x => c_isWalker hn hK hA (x := x)
  obtain ⟨k1, k2, k3, k4, k5, k6, k7, k8, k9⟩ := hK
  refine ⟨fun w hw => ?_, fun h => ?_⟩
  · have ha := (hA.2.1.2.2.1 w hw).1
    have op := c_openFor hn ht is_52 hW k3 k4.1.2.2.2.2 hA.2.1 hw
    have sp := c_spread (x := (aS A).2.2.1 0 w) hn ht hW k3 (opnV_lt (S := aS A) (w := w) hW) (by omega)
    have e : spS (aT A) (fun i => (opnV (aT A) (aS A) w).testBit i) ((aS A).2.2.1 0 w) = spS (aT A) (opnB (aT A) (aS A) w) ((aS A).2.2.1 0 w) := rt_cong (fun p hp => by
      unfold opnV
      rw [goB_tb, decide_eq_true hp, Bool.true_and])
    rw [e] at sp
    unfold fX10_reach
    simp (disch := first | omega | assumption | (simp only [wL_1, wL_22, wI_2, wA_2, wQ_1, wQ_21] <;> first | assumption | omega)) only [LIT, LITm, nI_add, n_mul, fa_or, n_31m, n_shl0, n_le, n_lt, n_eq, Option.bind_some, B_K hn, B_s hn is_52, hP, inR_n hw (by omega), k2, (k4.2.2 w hw).1, op, sp, Bool.toNat_true, Nat.reduceEqDiff, Nat.reduceLeDiff, not_false_eq_true, ↓reduceIte]
  · unfold fX10_reach
    simp (disch := first | omega | assumption | (simp only [wL_1, wL_22, wI_2, wA_2, wQ_1, wQ_21] <;> first | assumption | omega)) only [LIT, LITm, nI_add, n_mul, fa_or, n_31m, n_shl0, n_le, n_lt, n_eq, Option.bind_some, B_K hn, hP, h, Bool.toNat_false, not_true_eq_false, ↓reduceIte]
end Rc
