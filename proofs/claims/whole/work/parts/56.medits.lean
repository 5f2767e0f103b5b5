/-! ===== what is done by call, by the reference ===== -/
theorem mRw_fr {f f' : Nat → Int32} {T : zT} {S : zD} (hW : WT T) (h : mRw f T S) (e : ∀ j, j < 36 → f' j = f j) : mRw f' T S := by
  have h0 := hW.1
  refine ⟨fun w hw => ?_, fun p hp => ?_, ?_⟩
  · rw [e w (by omega), e (4 + w) (by omega)]; exact h.1 w hw
  · rw [e (8 + p) (by omega), e (17 + p) (by omega), e (26 + p) (by omega)]; exact h.2.1 p hp
  · rw [e 35 (by omega)]; exact h.2.2
section Me
variable {n t o p w : Nat} {s : zS} {A : zA} {T : zT} {S : zD} {x y z : Int32}
theorem m_put {a b L : Nat} (hn : 239 ≤ n) (hW : WT T) (hS : mSd s 0 T O00 S) (ha : a = 236 ∨ a = 237) (hL : b + 36 ≤ L) (hL2 : L < 1000) (hwx : ∀ (s : zS) (j : Nat) (x : Int32), j < L → wX 1 (fun x => x) n (mk s) a (nI j) x = some (mk (wI s a j x))) : ∃ s' : zS, fX11_put n (mk s) 187 a (nI b) = some ((), mk s') ∧ (∀ c, c ≠ a → s'.1 c = s.1 c) ∧ s'.2 = s.2 ∧ (∀ j, j < b ∨ b + 36 ≤ j → s'.1 a j = s.1 a j) ∧ mRw (fun j => s'.1 a (b + j)) T S := by
  have h0 := hW.1
  obtain ⟨⟨h1, h2, h3, h4⟩, h5, h6⟩ := hS
  unfold fX11_put
  simp (disch := first | omega | assumption | (simp only [wL_1, wL_22, wI_2, wA_2, wQ_1, wQ_21] <;> first | assumption | omega)) only [LIT, LITm, nI_add, n_mul, fa_or, n_31m, n_shl0, n_le, n_lt, n_eq, Option.bind_some, B_m hn]
  have fin : ∀ sx : zS, (∀ c, c ≠ a → sx.1 c = s.1 c) → sx.2 = s.2 → (∀ j, j < b ∨ b + 36 ≤ j → sx.1 a j = s.1 a j) → (∀ w, w < 4 → sx.1 a (b + w) = s.1 219 w ∧ sx.1 a (b + (4 + w)) = s.1 220 w) → ∃ s' : zS, fX11_put_39 n bi_K (mk sx) 187 a (nI b) (nI 0) = some ((), mk s') ∧ (∀ c, c ≠ a → s'.1 c = s.1 c) ∧ s'.2 = s.2 ∧ (∀ j, j < b ∨ b + 36 ≤ j → s'.1 a j = s.1 a j) ∧ mRw (fun j => s'.1 a (b + j)) T S := by
    intro sx f1 f2 f3 f4
    refine lp_up (F := fun k (s1 : zS) i => fX11_put_39 n k (mk s1) 187 a (nI b) (nI i)) (N := 9) (P := fun i s1 => (∀ c, c ≠ a → s1.1 c = s.1 c) ∧ s1.2 = s.2 ∧ (∀ j, j < b ∨ b + 36 ≤ j → s1.1 a j = s.1 a j) ∧ (∀ w, w < 4 → s1.1 a (b + w) = s.1 219 w ∧ s1.1 a (b + (4 + w)) = s.1 220 w) ∧ ∀ p, p < i → s1.1 a (b + (8 + p)) = s.1 221 p ∧ s1.1 a (b + (17 + p)) = (if s.1 222 p = nI 0 then nI 0 else nI 1) ∧ s1.1 a (b + (26 + p)) = s.1 223 p) (Q := fun r => ∃ s' : zS, r = some ((), mk s') ∧ (∀ c, c ≠ a → s'.1 c = s.1 c) ∧ s'.2 = s.2 ∧ (∀ j, j < b ∨ b + 36 ≤ j → s'.1 a j = s.1 a j) ∧ mRw (fun j => s'.1 a (b + j)) T S) ?_ ?_ 9 bi_K sx 0 (by omega) (by unfold bi_K; omega) ⟨f1, f2, f3, f4, fun p h => by omega⟩
    · intro k sy i hi hP
      obtain ⟨g1, g2, g3, g4, g5⟩ := hP
      left
      have r1 : sy.1 221 = s.1 221 := g1 221 (by omega)
      have r2 : sy.1 222 = s.1 222 := g1 222 (by omega)
      have r3 : sy.1 223 = s.1 223 := g1 223 (by omega)
      refine ⟨wI (wI (wI sy a (b + 8 + i) (s.1 221 i)) a (b + 17 + i) (if s.1 222 i = nI 0 then nI 0 else nI 1)) a (b + 26 + i) (s.1 223 i), ?_, fun c hc => ?_, g2, fun j hj => ?_, fun w hw => ?_, fun p hp => ?_⟩
      · by_cases e : s.1 222 i = nI 0
        · simp (disch := first | omega | assumption | (simp only [wL_1, wL_22, wI_2, wA_2, wQ_1, wQ_21] <;> first | assumption | omega)) only [fX11_put_39, fX11_put_39b, fX11_put_80, LIT, LITm, nI_add, n_mul, fa_or, n_31m, n_shl0, n_le, n_lt, n_eq, Option.bind_some, B_m hn, B_mb hn, hwx, wI_ne, r1, r2, r3, e, show ¬ 9 ≤ i by omega, ↓reduceIte]
        · simp (disch := first | omega | assumption | (simp only [wL_1, wL_22, wI_2, wA_2, wQ_1, wQ_21] <;> first | assumption | omega)) only [fX11_put_39, fX11_put_39b, fX11_put_80, LIT, LITm, nI_add, n_mul, fa_or, n_31m, n_shl0, n_le, n_lt, n_eq, Option.bind_some, B_m hn, B_mb hn, hwx, wI_ne, r1, r2, r3, e, show ¬ 9 ≤ i by omega, ↓reduceIte]
      · simp (disch := omega) only [wI_ne]
        exact g1 c hc
      · simp (disch := omega) only [wI_at, upd_ne]
        exact g3 j hj
      · simp (disch := omega) only [wI_at, upd_ne]
        exact g4 w hw
      · by_cases e : p = i
        · subst e
          refine ⟨?_, ?_, ?_⟩
          · rw [← Nat.add_assoc]
            simp (disch := omega) only [wI_at, upd_ne, upd_at]
          · rw [← Nat.add_assoc]
            simp (disch := omega) only [wI_at, upd_ne, upd_at]
          · rw [← Nat.add_assoc]
            simp (disch := omega) only [wI_at, upd_at]
        · simp (disch := omega) only [wI_at, upd_ne]
          exact g5 p (by omega)
    · intro k sy hP
      obtain ⟨g1, g2, g3, g4, g5⟩ := hP
      have r1 : sy.1 224 = s.1 224 := g1 224 (by omega)
      refine ⟨wI sy a (b + 35) (s.1 224 0), ?_, fun c hc => by rw [wI_ne hc]; exact g1 c hc, g2, fun j hj => by rw [wI_at, upd_ne (by omega)]; exact g3 j hj, fun w hw => ?_, fun p hp => ?_, ?_⟩
      · simp (disch := first | omega | assumption | (simp only [wL_1, wL_22, wI_2, wA_2, wQ_1, wQ_21] <;> first | assumption | omega)) only [fX11_put_39, fX11_put_39b, LIT, LITm, nI_add, n_mul, fa_or, n_31m, n_shl0, n_le, n_lt, n_eq, Option.bind_some, B_m hn, B_mb hn, hwx, r1, Nat.le_refl, ↓reduceIte]
      · simp (disch := omega) only [wI_at, upd_ne]
        obtain ⟨q1, q2⟩ := g4 w (by omega)
        obtain ⟨z1, z2⟩ := h6 w hw
        simp only [Nat.mul_zero, Nat.zero_add] at z1 z2
        rw [q1, q2, z1, z2]
        exact ⟨rfl, rfl⟩
      · simp (disch := omega) only [wI_at, upd_ne]
        obtain ⟨q1, q2, q3⟩ := g5 p (by omega)
        obtain ⟨z1, z2, z3⟩ := h5 p hp
        simp only [Nat.mul_zero, Nat.zero_add] at z1 z2 z3
        rw [q1, q2, q3, z1, z2, z3]
        refine ⟨rfl, ?_, rfl⟩
        cases S.2.2.2.1.testBit p
        · rfl
        · rfl
      · simp only [wI_at, upd_at]
        exact h2
  refine lp_up (F := fun k (s1 : zS) i => fX11_put_2 n k (mk s1) 187 a (nI b) (nI i)) (N := 4) (P := fun i s1 => (∀ c, c ≠ a → s1.1 c = s.1 c) ∧ s1.2 = s.2 ∧ (∀ j, j < b ∨ b + 36 ≤ j → s1.1 a j = s.1 a j) ∧ (∀ w, w < i → s1.1 a (b + w) = s.1 219 w ∧ s1.1 a (b + (4 + w)) = s.1 220 w)) (Q := fun r => ∃ s' : zS, r = some ((), mk s') ∧ (∀ c, c ≠ a → s'.1 c = s.1 c) ∧ s'.2 = s.2 ∧ (∀ j, j < b ∨ b + 36 ≤ j → s'.1 a j = s.1 a j) ∧ mRw (fun j => s'.1 a (b + j)) T S) ?_ ?_ 4 bi_K s 0 (by omega) (by unfold bi_K; omega) ⟨fun _ _ => rfl, rfl, fun _ _ => rfl, fun p h => by omega⟩
  · intro k sy i hi hP
    obtain ⟨g1, g2, g3, g4⟩ := hP
    left
    have r1 : sy.1 219 = s.1 219 := g1 219 (by omega)
    have r2 : sy.1 220 = s.1 220 := g1 220 (by omega)
    refine ⟨wI (wI sy a (b + i) (s.1 219 i)) a (b + 4 + i) (s.1 220 i), ?_, fun c hc => ?_, g2, fun j hj => ?_, fun w hw => ?_⟩
    · simp (disch := first | omega | assumption | (simp only [wL_1, wL_22, wI_2, wA_2, wQ_1, wQ_21] <;> first | assumption | omega)) only [fX11_put_2, fX11_put_2b, LIT, LITm, nI_add, n_mul, fa_or, n_31m, n_shl0, n_le, n_lt, n_eq, Option.bind_some, B_m hn, B_mb hn, hwx, wI_ne, r1, r2, show ¬ 4 ≤ i by omega, ↓reduceIte]
    · simp (disch := omega) only [wI_ne]
      exact g1 c hc
    · simp (disch := omega) only [wI_at, upd_ne]
      exact g3 j hj
    · by_cases e : w = i
      · subst e
        refine ⟨?_, ?_⟩
        · simp (disch := omega) only [wI_at, upd_ne, upd_at]
        · rw [← Nat.add_assoc]
          simp (disch := omega) only [wI_at, upd_at]
      · simp (disch := omega) only [wI_at, upd_ne]
        exact g4 w (by omega)
  · intro k sy hP
    obtain ⟨g1, g2, g3, g4⟩ := hP
    obtain ⟨sz, ez, fz⟩ := fin sy g1 g2 g3 g4
    refine ⟨sz, ?_, fz⟩
    simp (disch := first | omega | assumption | (simp only [wL_1, wL_22, wI_2, wA_2, wQ_1, wQ_21] <;> first | assumption | omega)) only [fX11_put_2, fX11_put_2b, LIT, LITm, nI_add, n_mul, fa_or, n_31m, n_shl0, n_le, n_lt, n_eq, Option.bind_some, ez, Nat.le_refl, ↓reduceIte]
/-- the told, the seen and so on, over a change of the reference's own cells -/
theorem mK_ed {s' : zS} {A' : zA} (h : mK s A) (hT : A'.1 = A.1) (hB : aB A' = aB A) (hF : aF A' = aF A) (hE : aE A' = aE A) (e0 : ∀ j, j ≠ 2 → j ≠ 59 → (j < 69 ∨ 76 < j) → j ≠ 89 → j ≠ 91 → j ≠ 93 → j ≠ 94 → s'.1 187 j = s.1 187 j) (ec : ∀ a, (188 ≤ a ∧ a < 219) ∨ a = 233 → s'.1 a = s.1 a) (hS : mSd s' 0 (aT A') O00 (aS A')) (hI : mIm s' (aT A') (aI A')) (hP : mPs s' (aT A') (aP A')) : mK s' A' := by
  obtain ⟨h1, h2, h3, h4, h5, h6, h7⟩ := h
  refine ⟨?_, hS, hI, hP, ?_, ?_, ?_⟩
  · show mTd s'.1 A'.1
    rw [hT]
    exact mTd_fr h1 (fun a j ha => by rcases ha with ⟨rfl, h⟩ | h; exact e0 j (by omega) (by omega) (by omega) (by omega) (by omega) (by omega) (by omega); rw [ec a (by omega)])
  · rw [hB]
    unfold mBt
    rw [e0 1 (by omega) (by omega) (by omega) (by omega) (by omega) (by omega) (by omega), ec 188 (by omega)]
    exact h5
  · rw [hF]
    unfold mFt
    rw [e0 4 (by omega) (by omega) (by omega) (by omega) (by omega) (by omega) (by omega), e0 5 (by omega) (by omega) (by omega) (by omega) (by omega) (by omega) (by omega)]
    exact h6
  · rw [hE]
    unfold mSn
    rw [e0 84 (by omega) (by omega) (by omega) (by omega) (by omega) (by omega) (by omega), e0 85 (by omega) (by omega) (by omega) (by omega) (by omega) (by omega) (by omega), ec 233 (by omega)]
    exact h7
/-- only the undos change -/
def frU (s s' : zS) : Prop := s'.2 = s.2 ∧ (∀ c, c ≠ 187 → c ≠ 236 → s'.1 c = s.1 c) ∧ ∀ j, j ≠ 89 → s'.1 187 j = s.1 187 j
theorem frU_M {s' : zS} (h : frU s s') : frM s s' := ⟨by rw [h.1], fun a ha => ⟨h.2.1 a (by omega) (by omega), by rw [h.1]⟩⟩
theorem mK_U {s' : zS} {P : Nat × (Nat → zD)} (h : mK s A) (f : frU s s') (hP : mPs s' (aT A) P) : mK s' (wtP A P) := by
  refine mK_ed h rfl rfl rfl rfl (fun j h1 h2 h3 h4 h5 h6 h7 => f.2.2 j h4) (fun a ha => f.2.1 a (by omega) (by omega)) ?_ ?_ hP
  · show mSd s' 0 (aT A) O00 (aS A)
    unfold mSd
    rw [f.2.1 219 (by omega) (by omega), f.2.1 220 (by omega) (by omega), f.2.1 221 (by omega) (by omega), f.2.1 222 (by omega) (by omega), f.2.1 223 (by omega) (by omega), f.2.1 224 (by omega) (by omega), f.2.1 225 (by omega) (by omega), f.2.1 226 (by omega) (by omega), f.1]
    exact h.2.1
  · show mIm s' (aT A) (aI A)
    unfold mIm
    rw [f.2.2 91 (by omega), f.2.2 93 (by omega), f.2.2 94 (by omega), f.2.1 237 (by omega) (by omega), f.1]
    exact h.2.2.1
theorem m_rem49 (hn : 239 ≤ n) (hK : mK s A) (hW : WT (aT A)) (hp : (aP A).1 < 20) : ∃ s' : zS, fX11_remember_49 n (mk s) 187 = some ((), mk s') ∧ frU s s' ∧ mK s' (wtP A ((aP A).1 + 1, fun i => if i = (aP A).1 then aS A else (aP A).2 i)) := by
  obtain ⟨q1, q2⟩ := hK.2.2.2.1
  obtain ⟨sa, ea, g1, g2, g3, g4⟩ := m_put (a := 236) (b := 36 * (aP A).1) (L := 720) hn hW hK.2.1 (Or.inl rfl) (by omega) (by omega) (fun s j x hj => by simp (disch := first | omega | assumption | (simp only [wL_1, wL_22, wI_2, wA_2, wQ_1, wQ_21] <;> first | assumption | omega)) only [B_mc hn])
  have q1a : sa.1 187 89 = nI (aP A).1 := by rw [g1 187 (by omega)]; exact q1
  have fU : frU s (wI sa 187 89 (nI ((aP A).1 + 1))) := ⟨g2, fun c h1 h2 => by rw [wI_ne h1]; exact g1 c h2, fun j hj => by rw [wI_at, upd_ne hj, g1 187 (by omega)]⟩
  refine ⟨wI sa 187 89 (nI ((aP A).1 + 1)), ?_, fU, mK_U hK fU ⟨?_, fun i hi => ?_⟩⟩
  · unfold fX11_remember_49
    simp (disch := first | omega | assumption | (simp only [wL_1, wL_22, wI_2, wA_2, wQ_1, wQ_21] <;> first | assumption | omega)) only [LIT, LITm, nI_add, n_mul, fa_or, n_31m, n_shl0, n_le, n_lt, n_eq, Option.bind_some, B_m hn, q1, ea, q1a]
  · rw [wI_at, upd_at]
  · have hi' : i < (aP A).1 + 1 := hi
    rw [wI_ne (by omega)]
    show mRw _ (aT A) (if i = (aP A).1 then aS A else (aP A).2 i)
    by_cases e : i = (aP A).1
    · rw [if_pos e, e]
      exact g4
    · rw [if_neg e]
      have hz := q2 i (by omega)
      exact mRw_fr hW hz (fun j hj => g3 _ (by omega))
theorem frU_t {s1 s2 : zS} (h : frU s s1) (g : frU s1 s2) : frU s s2 := ⟨g.1.trans h.1, fun c h1 h2 => (g.2.1 c h1 h2).trans (h.2.1 c h1 h2), fun j hj => (g.2.2 j hj).trans (h.2.2 j hj)⟩
theorem m_remember (hn : 239 ≤ n) (hK : mK s A) (hA : wfA A) : ∃ s' : zS, fX11_remember n (mk s) 187 = some ((), mk s') ∧ frU s s' ∧ mK s' (wtP A (pushP (aP A) (aS A))) := by
  have hW := hA.1
  have h20 := hA.2.2.2.1.1
  obtain ⟨q1, q2⟩ := hK.2.2.2.1
  unfold pushP
  by_cases hp : (aP A).1 < 20
  · rw [if_pos hp]
    obtain ⟨sa, ea, fa, ka⟩ := m_rem49 hn hK hW hp
    refine ⟨sa, ?_, fa, ka⟩
    unfold fX11_remember
    simp (disch := first | omega | assumption | (simp only [wL_1, wL_22, wI_2, wA_2, wQ_1, wQ_21] <;> first | assumption | omega)) only [LIT, LITm, nI_add, n_mul, fa_or, n_31m, n_shl0, n_le, n_lt, n_eq, Option.bind_some, B_m hn, q1, ea, show ¬ (aP A).1 = 20 by omega, not_false_eq_true, ↓reduceIte]
  · rw [if_neg hp]
    have e20 : (aP A).1 = 20 := by omega
    rw [e20] at q1 q2
    have pre : fX11_remember n (mk s) 187 = fX11_remember_11 n bi_K (mk s) 187 (nI 0) := by
      unfold fX11_remember
      simp (disch := first | omega | assumption | (simp only [wL_1, wL_22, wI_2, wA_2, wQ_1, wQ_21] <;> first | assumption | omega)) only [LIT, LITm, nI_add, n_mul, fa_or, n_31m, n_shl0, n_le, n_lt, n_eq, Option.bind_some, B_m hn, q1, not_true_eq_false, ↓reduceIte]
    rw [pre]
    refine lp_up (F := fun k (s1 : zS) i => fX11_remember_11 n k (mk s1) 187 (nI i)) (N := 684) (P := fun i s1 => s1.2 = s.2 ∧ (∀ c, c ≠ 236 → s1.1 c = s.1 c) ∧ (∀ j, j < i → s1.1 236 j = s.1 236 (j + 36)) ∧ ∀ j, i ≤ j → s1.1 236 j = s.1 236 j) (Q := fun r => ∃ s' : zS, r = some ((), mk s') ∧ frU s s' ∧ mK s' (wtP A (20, fun i => if i = 19 then aS A else (aP A).2 (i + 1)))) ?_ ?_ 684 bi_K s 0 (by omega) (by unfold bi_K; omega) ⟨rfl, fun _ _ => rfl, fun j h => by omega, fun _ _ => rfl⟩
    · intro k sy i hi hP
      obtain ⟨g1, g2, g3, g4⟩ := hP
      left
      have r := g4 (i + 36) (by omega)
      refine ⟨wI sy 236 i (s.1 236 (i + 36)), ?_, g1, fun c hc => by rw [wI_ne hc]; exact g2 c hc, fun j hj => ?_, fun j hj => by rw [wI_at, upd_ne (by omega)]; exact g4 j (by omega)⟩
      · simp (disch := first | omega | assumption | (simp only [wL_1, wL_22, wI_2, wA_2, wQ_1, wQ_21] <;> first | assumption | omega)) only [fX11_remember_11, fX11_remember_11b, LIT, LITm, nI_add, n_mul, fa_or, n_31m, n_shl0, n_le, n_lt, n_eq, Option.bind_some, B_m hn, B_mc hn, r, show ¬ 684 ≤ i by omega, ↓reduceIte]
      · rw [wI_at]
        by_cases e : j = i
        · subst e
          rw [upd_at]
        · rw [upd_ne e]
          exact g3 j (by omega)
    · intro k sy hP
      obtain ⟨g1, g2, g3, g4⟩ := hP
      have q1y : sy.1 187 89 = nI 20 := by rw [g2 187 (by omega)]; exact q1
      have fU : frU s (wI sy 187 89 (nI 19)) := ⟨g1, fun c h1 h2 => by rw [wI_ne h1]; exact g2 c h2, fun j hj => by rw [wI_at, upd_ne hj, g2 187 (by omega)]⟩
      have kz : mK (wI sy 187 89 (nI 19)) (wtP A (19, fun i => (aP A).2 (i + 1))) := by
        refine mK_U hK fU ⟨by rw [wI_at, upd_at], fun i hi => ?_⟩
        have hi' : i < 19 := hi
        have hz := q2 (i + 1) (by omega)
        have h0 := hW.1
        rw [wI_ne (by omega)]
        exact mRw_fr hW hz (fun j hj => by rw [g3 _ (by omega), show 36 * i + j + 36 = 36 * (i + 1) + j by omega])
      obtain ⟨sw, ew, fw, kw⟩ := m_rem49 hn kz hW (by show (19 : Nat) < 20; omega)
      refine ⟨sw, ?_, frU_t fU fw, kw⟩
      simp (disch := first | omega | assumption | (simp only [wL_1, wL_22, wI_2, wA_2, wQ_1, wQ_21] <;> first | assumption | omega)) only [fX11_remember_11, fX11_remember_11b, LIT, LITm, nI_add, n_mul, fa_or, n_31m, n_shl0, n_le, n_lt, n_eq, Option.bind_some, B_m hn, q1y, n_sub, Nat.reduceEqDiff, Nat.reduceLeDiff, Nat.le_refl, ↓reduceIte, Nat.reduceSub, ew]
theorem m_take {a b L : Nat} (hn : 239 ≤ n) (hW : WT T) (hR : mRw (fun j => s.1 a (b + j)) T S) (ha : a = 236 ∨ a = 237) (hL : b + 36 ≤ L) (hL2 : L < 1000) (hgx : ∀ (s : zS) (j : Nat), j < L → gX 1 n (mk s) a (nI j) = some (s.1 a j)) : ∃ s' : zS, fX11_take n (mk s) 187 a (nI b) = some ((), mk s') ∧ s'.2 = s.2 ∧ (∀ c, c < 219 ∨ 224 < c → s'.1 c = s.1 c) ∧ s'.1 224 0 = S.1 1 ∧ (∀ p, p < T 0 1 → s'.1 221 p = S.2.1 p ∧ s'.1 222 p = nI (S.2.2.2.1.testBit p).toNat ∧ s'.1 223 p = nI (S.2.2.1 2 p)) ∧ (∀ w, w < T 0 2 → s'.1 219 w = nI (S.2.2.1 0 w) ∧ s'.1 220 w = nI (S.2.2.1 1 w)) := by
  have h0 := hW.1
  unfold fX11_take
  simp (disch := first | omega | assumption | (simp only [wL_1, wL_22, wI_2, wA_2, wQ_1, wQ_21] <;> first | assumption | omega)) only [LIT, LITm, nI_add, n_mul, fa_or, n_31m, n_shl0, n_le, n_lt, n_eq, Option.bind_some, B_m hn]
  have fin : ∀ sx : zS, sx.2 = s.2 → (∀ c, c < 219 ∨ 224 < c → sx.1 c = s.1 c) → (∀ w, w < T 0 2 → sx.1 219 w = nI (S.2.2.1 0 w) ∧ sx.1 220 w = nI (S.2.2.1 1 w)) → ∃ s' : zS, fX11_take_39 n bi_K (mk sx) 187 a (nI b) (nI 0) = some ((), mk s') ∧ s'.2 = s.2 ∧ (∀ c, c < 219 ∨ 224 < c → s'.1 c = s.1 c) ∧ s'.1 224 0 = S.1 1 ∧ (∀ p, p < T 0 1 → s'.1 221 p = S.2.1 p ∧ s'.1 222 p = nI (S.2.2.2.1.testBit p).toNat ∧ s'.1 223 p = nI (S.2.2.1 2 p)) ∧ (∀ w, w < T 0 2 → s'.1 219 w = nI (S.2.2.1 0 w) ∧ s'.1 220 w = nI (S.2.2.1 1 w)) := by
    intro sx f1 f2 f3
    refine lp_up (F := fun k (s1 : zS) i => fX11_take_39 n k (mk s1) 187 a (nI b) (nI i)) (N := 9) (P := fun i s1 => s1.2 = s.2 ∧ (∀ c, c < 219 ∨ 224 < c → s1.1 c = s.1 c) ∧ (∀ w, w < T 0 2 → s1.1 219 w = nI (S.2.2.1 0 w) ∧ s1.1 220 w = nI (S.2.2.1 1 w)) ∧ ∀ p, p < T 0 1 → p < i → s1.1 221 p = S.2.1 p ∧ s1.1 222 p = nI (S.2.2.2.1.testBit p).toNat ∧ s1.1 223 p = nI (S.2.2.1 2 p)) (Q := fun r => ∃ s' : zS, r = some ((), mk s') ∧ s'.2 = s.2 ∧ (∀ c, c < 219 ∨ 224 < c → s'.1 c = s.1 c) ∧ s'.1 224 0 = S.1 1 ∧ (∀ p, p < T 0 1 → s'.1 221 p = S.2.1 p ∧ s'.1 222 p = nI (S.2.2.2.1.testBit p).toNat ∧ s'.1 223 p = nI (S.2.2.1 2 p)) ∧ (∀ w, w < T 0 2 → s'.1 219 w = nI (S.2.2.1 0 w) ∧ s'.1 220 w = nI (S.2.2.1 1 w))) ?_ ?_ 9 bi_K sx 0 (by omega) (by unfold bi_K; omega) ⟨f1, f2, f3, fun p _ h => by omega⟩
    · intro k sy i hi hP
      obtain ⟨g1, g2, g3, g4⟩ := hP
      left
      have ra : sy.1 a = s.1 a := g2 a (by omega)
      refine ⟨wI (wI (wI sy 221 i (s.1 a (b + 8 + i))) 222 i (nI (decide (s.1 a (b + 17 + i) = nI 1)).toNat)) 223 i (s.1 a (b + 26 + i)), ?_, g1, fun c hc => ?_, fun w hw => ?_, fun p hp hpi => ?_⟩
      · by_cases e : s.1 a (b + 17 + i) = nI 1
        · rw [decide_eq_true e]
          simp (disch := first | omega | assumption | (simp only [wL_1, wL_22, wI_2, wA_2, wQ_1, wQ_21] <;> first | assumption | omega)) only [fX11_take_39, fX11_take_39b, fX11_take_81, LIT, LITm, nI_add, n_mul, fa_or, n_31m, n_shl0, n_le, n_lt, n_eq, Option.bind_some, B_m hn, B_mb hn, hgx, wI_ne, ra, e, nar_b, Bool.toNat_true, not_true_eq_false, show ¬ 9 ≤ i by omega, ↓reduceIte]
        · rw [decide_eq_false e]
          simp (disch := first | omega | assumption | (simp only [wL_1, wL_22, wI_2, wA_2, wQ_1, wQ_21] <;> first | assumption | omega)) only [fX11_take_39, fX11_take_39b, fX11_take_81, LIT, LITm, nI_add, n_mul, fa_or, n_31m, n_shl0, n_le, n_lt, n_eq, Option.bind_some, B_m hn, B_mb hn, hgx, wI_ne, ra, e, nar_b, Bool.toNat_false, not_false_eq_true, show ¬ 9 ≤ i by omega, ↓reduceIte]
      · simp (disch := omega) only [wI_ne]
        exact g2 c hc
      · simp (disch := omega) only [wI_ne]
        exact g3 w hw
      · by_cases e : p = i
        · subst e
          obtain ⟨q1, q2, q3⟩ := hR.2.1 p hp
          simp only [← Nat.add_assoc] at q1 q2 q3
          simp (disch := omega) only [wI_at, wI_ne, upd_at, q1, q2, q3]
          refine ⟨trivial, ?_, trivial⟩
          cases S.2.2.2.1.testBit p
          · rfl
          · rfl
        · simp (disch := omega) only [wI_at, wI_ne, upd_ne]
          exact g4 p hp (by omega)
    · intro k sy hP
      obtain ⟨g1, g2, g3, g4⟩ := hP
      have ra : sy.1 a = s.1 a := g2 a (by omega)
      have q35 := hR.2.2
      refine ⟨wI sy 224 0 (s.1 a (b + 35)), ?_, g1, fun c hc => by rw [wI_ne (by omega)]; exact g2 c hc, by rw [wI_at, upd_at]; exact q35, fun p hp => ?_, fun w hw => ?_⟩
      · simp (disch := first | omega | assumption | (simp only [wL_1, wL_22, wI_2, wA_2, wQ_1, wQ_21] <;> first | assumption | omega)) only [fX11_take_39, fX11_take_39b, LIT, LITm, nI_add, n_mul, fa_or, n_31m, n_shl0, n_le, n_lt, n_eq, Option.bind_some, B_m hn, B_mb hn, hgx, ra, Nat.le_refl, ↓reduceIte]
      · simp (disch := omega) only [wI_ne]
        exact g4 p hp (by omega)
      · simp (disch := omega) only [wI_ne]
        exact g3 w hw
  refine lp_up (F := fun k (s1 : zS) i => fX11_take_2 n k (mk s1) 187 a (nI b) (nI i)) (N := 4) (P := fun i s1 => s1.2 = s.2 ∧ (∀ c, c < 219 ∨ 224 < c → s1.1 c = s.1 c) ∧ ∀ w, w < T 0 2 → w < i → s1.1 219 w = nI (S.2.2.1 0 w) ∧ s1.1 220 w = nI (S.2.2.1 1 w)) (Q := fun r => ∃ s' : zS, r = some ((), mk s') ∧ s'.2 = s.2 ∧ (∀ c, c < 219 ∨ 224 < c → s'.1 c = s.1 c) ∧ s'.1 224 0 = S.1 1 ∧ (∀ p, p < T 0 1 → s'.1 221 p = S.2.1 p ∧ s'.1 222 p = nI (S.2.2.2.1.testBit p).toNat ∧ s'.1 223 p = nI (S.2.2.1 2 p)) ∧ (∀ w, w < T 0 2 → s'.1 219 w = nI (S.2.2.1 0 w) ∧ s'.1 220 w = nI (S.2.2.1 1 w))) ?_ ?_ 4 bi_K s 0 (by omega) (by unfold bi_K; omega) ⟨rfl, fun _ _ => rfl, fun p _ h => by omega⟩
  · intro k sy i hi hP
    obtain ⟨g1, g2, g3⟩ := hP
    left
    have ra : sy.1 a = s.1 a := g2 a (by omega)
    refine ⟨wI (wI sy 219 i (s.1 a (b + i))) 220 i (s.1 a (b + 4 + i)), ?_, g1, fun c hc => ?_, fun w hw hwi => ?_⟩
    · simp (disch := first | omega | assumption | (simp only [wL_1, wL_22, wI_2, wA_2, wQ_1, wQ_21] <;> first | assumption | omega)) only [fX11_take_2, fX11_take_2b, LIT, LITm, nI_add, n_mul, fa_or, n_31m, n_shl0, n_le, n_lt, n_eq, Option.bind_some, B_m hn, B_mb hn, hgx, wI_ne, ra, show ¬ 4 ≤ i by omega, ↓reduceIte]
    · simp (disch := omega) only [wI_ne]
      exact g2 c hc
    · by_cases e : w = i
      · subst e
        obtain ⟨q1, q2⟩ := hR.1 w hw
        simp only [← Nat.add_assoc] at q1 q2
        simp (disch := omega) only [wI_at, wI_ne, upd_at, q1, q2, and_self]
      · simp (disch := omega) only [wI_at, wI_ne, upd_ne]
        exact g3 w hw (by omega)
  · intro k sy hP
    obtain ⟨g1, g2, g3⟩ := hP
    obtain ⟨sz, ez, fz⟩ := fin sy g1 g2 (fun w hw => g3 w hw (by omega))
    refine ⟨sz, ?_, fz⟩
    simp (disch := first | omega | assumption | (simp only [wL_1, wL_22, wI_2, wA_2, wQ_1, wQ_21] <;> first | assumption | omega)) only [fX11_take_2, fX11_take_2b, LIT, LITm, nI_add, n_mul, fa_or, n_31m, n_shl0, n_le, n_lt, n_eq, Option.bind_some, ez, Nat.le_refl, ↓reduceIte]
theorem mSd_0 {s' : zS} (e : ∀ c, 219 ≤ c → c ≤ 226 → s'.1 c = s.1 c) (e2 : s'.2.1 187 68 = s.2.1 187 68) (h : mSd s 0 T O00 S) : mSd s' 0 T O00 S := by
  unfold mSd
  rw [e 219 (by omega) (by omega), e 220 (by omega) (by omega), e 221 (by omega) (by omega), e 222 (by omega) (by omega), e 223 (by omega) (by omega), e 224 (by omega) (by omega), e 225 (by omega) (by omega), e 226 (by omega) (by omega), e2]
  exact h
theorem m_undo (hn : 239 ≤ n) (hK : mK s A) (hA : wfA A) : ((aP A).1 ≠ 0 → ∃ s' : zS, fX11_undo n (mk s) 187 = some (nI ((aP A).1 - 1), mk s') ∧ frM s s' ∧ mK s' (wtP (wtS A ((aP A).2 ((aP A).1 - 1))) ((aP A).1 - 1, (aP A).2))) ∧ ((aP A).1 = 0 → ∃ s' : zS, fX11_undo n (mk s) 187 = some (m1, mk s') ∧ frT s s') := by
  have hW := hA.1
  have h20 := hA.2.2.2.1.1
  have ft := m_th s
  have hKt := mK_T hW hK ft
  obtain ⟨q1, q2⟩ := hKt.2.2.2.1
  unfold fX11_undo
  refine ⟨fun h => ?_, fun h => ?_⟩
  · obtain ⟨sb, esb⟩ : ∃ sb : zS, sb = wI (wI s 187 2 (nI 0)) 187 89 (nI ((aP A).1 - 1)) := ⟨_, rfl⟩
    have fU : frU (wI s 187 2 (nI 0)) sb := by
      rw [esb]
      exact ⟨rfl, fun c h1 _ => wI_ne h1, fun j hj => by rw [wI_at, upd_ne hj]⟩
    have hr := q2 ((aP A).1 - 1) (by omega)
    have hr' : mRw (fun j => sb.1 236 (36 * ((aP A).1 - 1) + j)) (aT A) ((aP A).2 ((aP A).1 - 1)) := mRw_fr hW hr (fun j hj => by rw [esb, wI_ne (by omega)])
    obtain ⟨sc, ec, g1, g2, g3, g4, g5⟩ := m_take (a := 236) (b := 36 * ((aP A).1 - 1)) (L := 720) hn hW hr' (Or.inl rfl) (by omega) (by omega) (fun s j hj => by simp (disch := first | omega | assumption | (simp only [wL_1, wL_22, wI_2, wA_2, wQ_1, wQ_21] <;> first | assumption | omega)) only [B_mc hn])
    have b89 : sb.1 187 89 = nI ((aP A).1 - 1) := by rw [esb, wI_at, upd_at]
    have c89 : sc.1 187 89 = nI ((aP A).1 - 1) := by rw [g2 187 (by omega)]; exact b89
    have hw := hA.2.2.2.1.2 ((aP A).1 - 1) (by omega)
    have kb : mK sb (wtP A ((aP A).1 - 1, (aP A).2)) := mK_U hKt fU ⟨b89, fun i hi => by
      have hi' : i < (aP A).1 - 1 := hi
      exact mRw_fr hW (q2 i (by omega)) (fun j hj => by rw [esb, wI_ne (by omega)])⟩
    refine ⟨sc, ?_, frM_t (frT_M ft) (frM_t (frU_M fU) ⟨by rw [g1], fun a ha => ⟨g2 a (by omega), by rw [g1]⟩⟩), ?_⟩
    · have p1 : fX11_take n (mk sb) 187 236 (nI 36 * nI ((aP A).1 - 1)) = some ((), mk sc) := by rw [n_mul]; exact ec
      rw [esb] at p1 b89
      simp (disch := first | omega | assumption | (simp only [wL_1, wL_22, wI_2, wA_2, wQ_1, wQ_21] <;> first | assumption | omega)) only [LIT, LITm, Option.bind_some, n_eq, B_m hn, q1, n_sub, b89, p1, c89, h, not_false_eq_true, ↓reduceIte]
    · obtain ⟨⟨d1, d2, d3, d4⟩, d5, d6⟩ := kb.2.1
      refine mK_ed kb rfl rfl rfl rfl (fun j _ _ _ _ _ _ _ => by rw [g2 187 (by omega)]) (fun a ha => g2 a (by omega)) ⟨⟨?_, g3, fun _ => ?_, fun _ => ?_⟩, fun p hp => ?_, fun w hw => ?_⟩ ?_ ⟨c89, fun i hi => ?_⟩
      · rw [g2 226 (by omega), d1]
        exact hw.2.1.symm
      · rw [g2 225 (by omega), d3 rfl]
        exact hw.2.2.1.symm
      · rw [g1, d4 rfl]
        exact congrArg lN hw.2.2.2.symm
      · simp only [Nat.mul_zero, Nat.zero_add]; exact g4 p hp
      · simp only [Nat.mul_zero, Nat.zero_add]; exact g5 w hw
      · show mIm sc (aT A) (aI A)
        unfold mIm
        rw [g2 187 (by omega), g2 237 (by omega), g1]
        exact kb.2.2.1
      · have := kb.2.2.2.1.2 i hi
        exact mRw_fr hW this (fun j hj => by rw [g2 236 (by omega)])
  · refine ⟨wI s 187 2 (nI 0), ?_, ft⟩
    rw [h] at q1
    simp (disch := first | omega | assumption | (simp only [wL_1, wL_22, wI_2, wA_2, wQ_1, wQ_21] <;> first | assumption | omega)) only [LIT, LITm, nI_add, n_mul, fa_or, n_31m, n_shl0, n_le, n_lt, n_eq, Option.bind_some, B_m hn, q1, not_true_eq_false, ↓reduceIte]
end Me
