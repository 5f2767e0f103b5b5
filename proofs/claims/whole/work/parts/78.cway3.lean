/-! ===== way, by the class: the call ===== -/
section Cy
variable {n t o w x k a B : Nat} {s : zS} {T : zT} {S : zD} {A : zA} {d ds : Nat → Option Nat} {y z : Int32}
theorem c_fill78 (hn : 239 ≤ n) : ∃ s' : zS, fJ7_fill_53178 n (mk s) 78 (nI 1000000) = some ((), mk s') ∧ (∀ a, a ≠ 78 → s'.1 a = s.1 a) ∧ s'.2 = s.2 ∧ ∀ j, j < 7 → s'.1 78 j = nI 1000000 := by
  unfold fJ7_fill_53178
  simp (disch := first | omega | assumption | (simp only [wL_1, wL_22, wI_2, wA_2, wQ_1, wQ_21] <;> first | assumption | omega)) only [LIT, LITm, nI_add, n_mul, fa_or, n_31m, n_shl0, n_le, n_lt, n_eq, Option.bind_some, B_wy hn]
  refine lp_up (F := fun k (s1 : zS) i => fJ7_fill_53178_5 n k (mk s1) 78 (nI 1000000) (nI i) (nI 7)) (N := 7) (P := fun i s1 => (∀ a, a ≠ 78 → s1.1 a = s.1 a) ∧ s1.2 = s.2 ∧ ∀ w, w < i → s1.1 78 w = nI 1000000) (Q := fun r => ∃ s' : zS, r = some ((), mk s') ∧ (∀ a, a ≠ 78 → s'.1 a = s.1 a) ∧ s'.2 = s.2 ∧ ∀ w, w < 7 → s'.1 78 w = nI 1000000) ?_ ?_ 7 bi_K s 0 (by omega) (by unfold bi_K; omega) ⟨fun _ _ => rfl, rfl, fun w h => by omega⟩
  · intro k s1 i hi hP
    left
    refine ⟨wI s1 78 i (nI 1000000), ?_, fun a ha => by rw [wI_ne ha]; exact hP.1 a ha, hP.2.1, fun w hw => ?_⟩
    · show fJ7_fill_53178_5b n (fJ7_fill_53178_5 n k) (mk s1) 78 (nI 1000000) (nI i) (nI 7) = _
      unfold fJ7_fill_53178_5b
      simp (disch := first | omega | assumption | (simp only [wL_1, wL_22, wI_2, wA_2, wQ_1, wQ_21] <;> first | assumption | omega)) only [LIT, LITm, nI_add, n_mul, fa_or, n_31m, n_shl0, n_le, n_lt, n_eq, Option.bind_some, B_wy hn, show ¬ 7 ≤ i by omega, ↓reduceIte]
    · by_cases e : w = i
      · rw [e, wI_at, upd_at]
      · rw [wI_at, upd_ne e]
        exact hP.2.2 w (by omega)
  · intro k s1 hP
    refine ⟨s1, ?_, hP⟩
    show fJ7_fill_53178_5b n (fJ7_fill_53178_5 n k) (mk s1) 78 (nI 1000000) (nI 7) (nI 7) = _
    unfold fJ7_fill_53178_5b
    simp (disch := first | omega | assumption | (simp only [wL_1, wL_22, wI_2, wA_2, wQ_1, wQ_21] <;> first | assumption | omega)) only [LIT, LITm, nI_add, n_mul, fa_or, n_31m, n_shl0, n_le, n_lt, n_eq, Option.bind_some, Nat.le_refl, ↓reduceIte]
theorem c_least (hn : 239 ≤ n) (ht : t = 6 ∨ t = 29) (ho : isS o) (hW : WT T) (hT : cTd s.1 t T) (hS : cSd s.1 o T S) (ho2 : o + 4 < 68 ∨ 87 ≤ o) (hD : wD T S) (hw : w < T 0 2) (hx : x < 7) (hd : lsL (wyE T S w) (S.2.2.1 0 w) 0 ds) : ∃ s' : zS, fX9_leastLength n (mk s) 77 t o (nI w) (nI x) = some (wayR (ds x), mk s') ∧ s'.2 = s.2 ∧ ∀ b, b ≠ 78 → s'.1 b = s.1 b := by
  have h0 := hW.1
  have hat := (hD.2.2.1 w hw).1
  have op := c_openFor hn ht ho hW hT hS.1.2.2.2.2 hD hw
  obtain ⟨s1, e1, f1, z1, l1⟩ := c_fill78 (s := s) hn
  obtain ⟨a, ea⟩ : ∃ a, a = S.2.2.1 0 w := ⟨_, rfl⟩
  have aw : s1.1 (o + 3) w = nI a := by rw [f1 (o + 3) (by omega), ea]; exact (hS.2.2 w hw).1
  rw [← ea] at hd hat
  obtain ⟨s2, e2⟩ : ∃ s2 : zS, s2 = wI s1 78 a (nI 0) := ⟨_, rfl⟩
  have o2 : ∀ b, b ≠ 78 → s2.1 b = s.1 b := fun b hb => by rw [e2, wI_ne hb]; exact f1 b hb
  have z2 : s2.2 = s.2 := by rw [e2]; exact z1
  have L2 : lb7 s2 (fun j => if j = a then some 0 else none) := fun j hj => by
    rw [e2, wI_at]
    by_cases q : j = a
    · simp only [if_pos q]
      rw [q, upd_at]
      rfl
    · simp only [if_neg q]
      rw [upd_ne q]
      exact l1 j hj
  obtain ⟨s3, e3, z3, o3⟩ := c_ll35 (s := s2) (x := x) (k := opnV T S w) (d := fun j => if j = a then some 0 else none) hn ht hW (cTd_fr hT (fun b g1 g2 => o2 b (by omega))) (fun p hp => by
    unfold opnV
    rw [goB_tb, decide_eq_true hp, Bool.true_and]) (opnV_lt hW) L2 (fun j u hj => by
    by_cases q : j = a
    · simp only [if_pos q] at hj
      cases hj
      exact Nat.le_refl 0
    · simp only [if_neg q] at hj
      cases hj) (fun x v h => by
    by_cases q : x = a
    · simp only [if_pos q] at h
      cases h
      exact ⟨0, q, rfl⟩
    · simp only [if_neg q] at h
      cases h) (by simp only [if_true]) (by omega) hx hd
  refine ⟨s3, ?_, by rw [z3, z2], fun b hb => by rw [o3 b hb, o2 b hb]⟩
  have nF : (1000000 : Int32) = nI 1000000 := rfl
  have e3' : fX9_leastLength_35 n bi_K (mk s2) 77 t (nI x) (nI (opnV T S w)) (nI 1) (nI 0) = _ := e3
  rw [e2] at e3'
  unfold fX9_leastLength
  rw [nF]
  simp (disch := first | omega | assumption | (simp only [wL_1, wL_22, wI_2, wA_2, wQ_1, wQ_21] <;> first | assumption | omega)) only [LIT, LITm, nI_add, n_mul, fa_or, n_31m, n_shl0, n_le, n_lt, n_eq, Option.bind_some, B_wy hn, B_s hn ho, op, e1, aw, e3']
theorem c_way (hn : 239 ≤ n) (hK : cK s t A) (hA : wfA A) : (∀ w x ds, w < aT A 0 2 → x < aT A 0 0 → lsL (wyE (aT A) (aS A) w) ((aS A).2.2.1 0 w) 0 ds → ∃ s' : zS, fX10_way n (mk s) 1 (nI w) (nI x) = some (wayR (ds x), mk s') ∧ frS s s') ∧ (¬ (inR y (aT A 0 2) = true ∧ inR z (aT A 0 0) = true) → fX10_way n (mk s) 1 y z = some (m1, mk s)) := by
  have ht := cK_t hK
  have hW := hA.1
  have h0 := hW.1
  have hP := fun x => c_isWalker hn hK hA (x := x)
  have hQ := fun x => c_isPlace hn hK hA (x := x)
  obtain ⟨k1, k2, k3, k4, k5, k6, k7, k8, k9⟩ := hK
  refine ⟨fun w x ds hw hx hd => ?_, fun h => ?_⟩
  · obtain ⟨s', e, z', o'⟩ := c_least (x := x) hn ht is_52 hW k3 k4 (by omega) hA.2.1 hw (by omega) hd
    refine ⟨s', ?_, fun b j hb => by rw [o' b (fun q => hb (by unfold scr; omega))], fun b _ => by rw [z'], fun b _ => by rw [z']⟩
    unfold fX10_way
    simp (disch := first | omega | assumption | (simp only [wL_1, wL_22, wI_2, wA_2, wQ_1, wQ_21] <;> first | assumption | omega)) only [LIT, LITm, nI_add, n_mul, fa_or, n_31m, n_shl0, n_le, n_lt, n_eq, Option.bind_some, B_K hn, hP, hQ, inR_n hw (by omega), inR_n hx (by omega), k2, e, Bool.toNat_true, Nat.reduceEqDiff, Nat.reduceLeDiff, not_false_eq_true, ↓reduceIte]
  · unfold fX10_way
    cases g : inR y (aT A 0 2) with
    | false => simp (disch := first | omega | assumption | (simp only [wL_1, wL_22, wI_2, wA_2, wQ_1, wQ_21] <;> first | assumption | omega)) only [LIT, LITm, nI_add, n_mul, fa_or, n_31m, n_shl0, n_le, n_lt, n_eq, Option.bind_some, B_K hn, hP, g, Bool.toNat_false, ↓reduceIte]
    | true =>
      have g2 : inR z (aT A 0 0) = false := bF (fun q => h ⟨g, q⟩)
      simp (disch := first | omega | assumption | (simp only [wL_1, wL_22, wI_2, wA_2, wQ_1, wQ_21] <;> first | assumption | omega)) only [LIT, LITm, nI_add, n_mul, fa_or, n_31m, n_shl0, n_le, n_lt, n_eq, Option.bind_some, B_K hn, hP, hQ, g, g2, Bool.toNat_true, Bool.toNat_false, Nat.reduceEqDiff, Nat.reduceLeDiff, not_true_eq_false, ↓reduceIte]
end Cy
