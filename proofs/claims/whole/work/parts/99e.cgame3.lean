/-! ===== the squire's game, by the class: the call ===== -/
section Ce5
variable {n N k a m t i c g : Nat} {s s' s0 s1 s2 : zS} {T : zT} {A : zA}
/-- what the game's rows hold from call to call (the last number is no matter) -/
def gmS (s : zS) (n _g : Nat) : Prop := n = 239 ∧ gI0 s
theorem gmS_n (h : gmS s n g) : 239 ≤ n := Nat.le_of_eq h.1.symm
theorem gmS_f (h : gmS s n g) (e : s'.1 85 0 = s.1 85 0) : gmS s' n g := ⟨h.1, e.trans h.2⟩
theorem lay_out (h : 239 ≤ a) : lay a = (2, 0, 0) := by
  unfold lay
  rw [List.getD_eq_getElem?_getD, List.getElem?_eq_none (by exact h)]
  rfl
theorem c_game {x y z w : Int32} (hn : 239 ≤ n) (hK : cK s t A) (hA : wfA A) (hg : gI0 s) : (∀ a c (b e : Bool), a < aT A 0 0 → c < aT A 0 0 → a ≠ c → ∃ s' : zS, fX10_game n (mk s) 1 (nI a) (nI c) (nI b.toNat) (nI e.toNat) = some (gamV (aT A) (aS A) a c b e, mk s') ∧ s'.2 = s.2 ∧ (∀ b, b < 84 ∨ 86 < b → s'.1 b = s.1 b) ∧ gI0 s') ∧ (¬ gamOk (aT A) x y z w → fX10_game n (mk s) 1 x y z w = some (m1, mk s)) := by
  have hW := hA.1
  have h0 := hW.1
  have ht := cK_t hK
  have hP := fun y => c_isPlace hn hK hA (x := y)
  obtain ⟨k1, k2, k3, k4, k5, k6, k7, k8, k9⟩ := hK
  refine ⟨fun a c b e ha hc ne => ?_, fun h => ?_⟩
  · have K5 : (aS A).2.2.2.1 < 512 := Nat.lt_of_lt_of_le hA.2.1.2.1 (Nat.le_trans (Nat.pow_le_pow_right (by omega) h0.2.1) (by decide))
    obtain ⟨s1, b1, b2, b3, b4, b5, b6⟩ := c_gbegin (n := n) (a := a) (c := c) hn ht hW k3 (by omega) (by omega) ne K5 hg
    have nab : (nI a = nI c) = False := by rw [n_eq (by omega) (by omega)]; simp [ne]
    have fin : ∀ s2 : zS, frW s1 s2 → s2.2 = s.2 ∧ (∀ b, b < 84 ∨ 86 < b → s2.1 b = s.1 b) ∧ gI0 s2 := fun s2 f => ⟨by rw [f.1, b2], fun b hb => by rw [f.2 b (by omega), b3 b hb], by unfold gI0; rw [f.2 85 (by omega)]; exact b6⟩
    have bl := Bool.toNat_le b
    cases e with
    | false =>
      obtain ⟨s2, d1, d2, -⟩ := c_winner (n := n) hn hW (by omega) b4 (b5 b)
      refine ⟨s2, ?_, fin s2 d2⟩
      unfold fX10_game gamV
      rw [if_neg Bool.false_ne_true]
      simp (disch := first | omega | assumption | (simp only [wL_1, wL_22, wI_2, wA_2, wQ_1, wQ_21] <;> first | assumption | omega)) only [LIT, LITm, nI_add, n_mul, fa_or, n_31m, n_shl0, n_le, n_lt, n_eq, Option.bind_some, B_K hn, B_s hn is_52, hP, inR_n ha (by omega), inR_n hc (by omega), nab, c_within, wiV_n, k2, k4.1.2.2.2.2, b1, d1, Bool.toNat_true, Bool.toNat_false, Nat.reduceEqDiff, Nat.reduceLeDiff, if_false, not_true_eq_false, not_false_eq_true, ↓reduceIte]
    | true =>
      obtain ⟨s2, d1, d2, -⟩ := c_first (n := n) hn hW (by omega) b4 (b5 b)
      refine ⟨s2, ?_, fin s2 d2⟩
      unfold fX10_game gamV
      rw [if_pos rfl]
      simp (disch := first | omega | assumption | (simp only [wL_1, wL_22, wI_2, wA_2, wQ_1, wQ_21] <;> first | assumption | omega)) only [LIT, LITm, nI_add, n_mul, fa_or, n_31m, n_shl0, n_le, n_lt, n_eq, Option.bind_some, B_K hn, B_s hn is_52, hP, inR_n ha (by omega), inR_n hc (by omega), nab, c_within, wiV_n, k2, k4.1.2.2.2.2, b1, d1, Bool.toNat_true, Bool.toNat_false, Nat.reduceEqDiff, Nat.reduceLeDiff, if_false, not_true_eq_false, not_false_eq_true, ↓reduceIte]
  · unfold fX10_game
    cases ix : inR x (aT A 0 0) with
    | false => simp (disch := first | omega | assumption | (simp only [wL_1, wL_22, wI_2, wA_2, wQ_1, wQ_21] <;> first | assumption | omega)) only [LIT, LITm, nI_add, n_mul, fa_or, n_31m, n_shl0, n_le, n_lt, n_eq, Option.bind_some, B_K hn, hP, ix, Bool.toNat_false, ↓reduceIte]
    | true =>
    cases iy : inR y (aT A 0 0) with
    | false => simp (disch := first | omega | assumption | (simp only [wL_1, wL_22, wI_2, wA_2, wQ_1, wQ_21] <;> first | assumption | omega)) only [LIT, LITm, nI_add, n_mul, fa_or, n_31m, n_shl0, n_le, n_lt, n_eq, Option.bind_some, B_K hn, hP, ix, iy, Bool.toNat_true, Bool.toNat_false, Nat.reduceEqDiff, Nat.reduceLeDiff, ↓reduceIte]
    | true =>
    by_cases exy : x = y
    · subst exy
      simp (disch := first | omega | assumption | (simp only [wL_1, wL_22, wI_2, wA_2, wQ_1, wQ_21] <;> first | assumption | omega)) only [LIT, LITm, nI_add, n_mul, fa_or, n_31m, n_shl0, n_le, n_lt, n_eq, Option.bind_some, B_K hn, hP, ix, Bool.toNat_true, Nat.reduceEqDiff, Nat.reduceLeDiff, not_true_eq_false, ↓reduceIte]
    cases iz : wiV 0 z 1 with
    | false => simp (disch := first | omega | assumption | (simp only [wL_1, wL_22, wI_2, wA_2, wQ_1, wQ_21] <;> first | assumption | omega)) only [LIT, LITm, nI_add, n_mul, fa_or, n_31m, n_shl0, n_le, n_lt, n_eq, Option.bind_some, B_K hn, hP, ix, iy, exy, c_within, iz, Bool.toNat_true, Bool.toNat_false, Nat.reduceEqDiff, Nat.reduceLeDiff, not_false_eq_true, ↓reduceIte]
    | true =>
    cases iw : wiV 0 w 1 with
    | false => simp (disch := first | omega | assumption | (simp only [wL_1, wL_22, wI_2, wA_2, wQ_1, wQ_21] <;> first | assumption | omega)) only [LIT, LITm, nI_add, n_mul, fa_or, n_31m, n_shl0, n_le, n_lt, n_eq, Option.bind_some, B_K hn, hP, ix, iy, exy, c_within, iz, iw, Bool.toNat_true, Bool.toNat_false, Nat.reduceEqDiff, Nat.reduceLeDiff, not_true_eq_false, not_false_eq_true, ↓reduceIte]
    | true => exact absurd ⟨ix, iy, exy, iz, iw⟩ h
end Ce5
