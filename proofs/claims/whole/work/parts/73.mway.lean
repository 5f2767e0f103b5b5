/-! ===== way, by the reference ===== -/
section Mw
variable {n w x : Nat} {s : zS} {A : zA} {y z : Int32}
theorem m_way (hn : 239 ≤ n) (hK : mK s A) (hA : wfA A) : (∀ w x, w < aT A 0 2 → x < aT A 0 0 → ∃ (s' : zS) (d : Nat → Option Nat), lsL (stE (aT A) (aS A) w 0 0) (512 * (aS A).2.2.1 0 w) 0 d ∧ fX11_way n (mk s) 187 (nI w) (nI x) = some ((match d (512 * x) with | none => m2 | some v => nI v), mk s') ∧ frT s s' ∧ ∀ j u, d j = some u → u < 1000000) ∧ (¬ (inR y (aT A 0 2) = true ∧ inR z (aT A 0 0) = true) → ∃ s' : zS, fX11_way n (mk s) 187 y z = some (m1, mk s') ∧ frT s s') := by
  have hW := hA.1
  have h0 := hW.1
  have ft := m_th s
  have hKt := mK_T hW hK ft
  obtain ⟨sa, ea⟩ : ∃ sa : zS, sa = wI s 187 2 (nI 0) := ⟨_, rfl⟩
  rw [← ea] at hKt ft
  obtain ⟨k1, k2, -⟩ := hKt
  have hP := fun y => m_isWalker hn k1 (x := y)
  have hQ := fun y => m_isPlace hn k1 (x := y)
  have n512 : (512 : Int32) = nI 512 := rfl
  refine ⟨fun w x hw hx => ?_, fun h => ?_⟩
  · obtain ⟨sb, d, eb, zb, ob, lb, hd, bd⟩ := m_settle (W := 0) (c := 0) hn hW k1 k2 hA.2.1 hw (by omega) (by omega)
    rw [if_pos rfl] at hd
    refine ⟨sb, d, hd, ?_, frT_t ft ⟨⟨by rw [zb], fun b j hb => by rw [ob b (fun q => hb (by unfold scM; omega)) (fun q => hb (by unfold scM; omega))], fun b j _ _ _ => by rw [zb]⟩, by rw [zb]⟩, fun j u hj => (bd j u hj).2⟩
    have l := lb (512 * x) (by omega)
    unfold fX11_way
    cases e : d (512 * x) with
    | none =>
      rw [e] at l
      simp (disch := first | omega | assumption | (simp only [wL_1, wL_22, wI_2, wA_2, wQ_1, wQ_21] <;> first | assumption | omega)) only [LIT, LITm, nI_add, n_mul, fa_or, n_31m, n_shl0, n_le, n_lt, n_eq, Option.bind_some, n512, B_m hn, ← ea, B_mc hn, hP, hQ, inR_n hw (by omega), inR_n hx (by omega), eb, l, oV, n_m1le0, Bool.toNat_true, Nat.reduceEqDiff, Nat.reduceLeDiff, not_false_eq_true, if_false, ↓reduceIte]
    | some v =>
      rw [e] at l
      have hv := (bd _ v e).2
      simp (disch := first | omega | assumption | (simp only [wL_1, wL_22, wI_2, wA_2, wQ_1, wQ_21] <;> first | assumption | omega)) only [LIT, LITm, nI_add, n_mul, fa_or, n_31m, n_shl0, n_le, n_lt, n_eq, Option.bind_some, n512, B_m hn, ← ea, B_mc hn, hP, hQ, inR_n hw (by omega), inR_n hx (by omega), eb, l, oV, Nat.zero_le, Bool.toNat_true, Nat.reduceEqDiff, Nat.reduceLeDiff, not_false_eq_true, ↓reduceIte]
  · refine ⟨sa, ?_, ft⟩
    unfold fX11_way
    cases g : inR y (aT A 0 2) with
    | false => simp (disch := first | omega | assumption | (simp only [wL_1, wL_22, wI_2, wA_2, wQ_1, wQ_21] <;> first | assumption | omega)) only [LIT, LITm, nI_add, n_mul, fa_or, n_31m, n_shl0, n_le, n_lt, n_eq, Option.bind_some, B_m hn, ← ea, hP, g, Bool.toNat_false, ↓reduceIte]
    | true =>
      have g2 : inR z (aT A 0 0) = false := bF (fun q => h ⟨g, q⟩)
      simp (disch := first | omega | assumption | (simp only [wL_1, wL_22, wI_2, wA_2, wQ_1, wQ_21] <;> first | assumption | omega)) only [LIT, LITm, nI_add, n_mul, fa_or, n_31m, n_shl0, n_le, n_lt, n_eq, Option.bind_some, B_m hn, ← ea, hP, hQ, g, g2, Bool.toNat_true, Bool.toNat_false, Nat.reduceEqDiff, Nat.reduceLeDiff, not_true_eq_false, ↓reduceIte]
end Mw
