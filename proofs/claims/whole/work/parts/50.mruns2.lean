/-! ===== go, ahead, lapse, tried, chance by the reference ===== -/
theorem mSd_x {s : zS} {b : Nat} {T : zT} {O : zO} {S : zD} (h0 : O.1 ≠ 0) (h : mSd s b T (O0 T 1) S) : mSd s b T O S := ⟨⟨h.1.1, h.1.2.1, fun _ => h.1.2.2.1 rfl, fun g => absurd g h0⟩, h.2⟩
theorem mSd_T0 {s s' : zS} {T : zT} {S : zD} (hW : WT T) (f : frT0 s s') (h : mSd s 0 T (O0 T 1) S) : mSd s' 0 T (O0 T 1) S := by
  obtain ⟨⟨h1, h2, h3, h4⟩, h5, h6⟩ := h
  have h0 := hW.1
  have e : ∀ a j, 219 ≤ a → a ≤ 226 → (a ≤ 220 → j < 4) → (a ≤ 223 → j < 9) → (224 ≤ a → j < 1) → s'.1 a j = s.1 a j := fun a j g1 g2 g3 g4 g5 => f.2.1 a j (by unfold scM hfM; omega)
  refine ⟨⟨?_, ?_, fun g => ?_, fun g => by cases g⟩, fun p hp => ?_, fun w hw => ?_⟩
  · rw [e 226 0 (by omega) (by omega) (by omega) (by omega) (by omega)]; exact h1
  · rw [e 224 0 (by omega) (by omega) (by omega) (by omega) (by omega)]; exact h2
  · rw [e 225 0 (by omega) (by omega) (by omega) (by omega) (by omega)]; exact h3 g
  · rw [e 221 _ (by omega) (by omega) (by omega) (by omega) (by omega), e 222 _ (by omega) (by omega) (by omega) (by omega) (by omega), e 223 _ (by omega) (by omega) (by omega) (by omega) (by omega)]; exact h5 p hp
  · rw [e 219 _ (by omega) (by omega) (by omega) (by omega) (by omega), e 220 _ (by omega) (by omega) (by omega) (by omega) (by omega)]; exact h6 w hw
section Ms
variable {n t o p w j : Nat} {s : zS} {T : zT} {O : zO} {S : zD} {A : zA}
/-- now has changed, by the reference -/
theorem mK_nw {s' : zS} {S' : zD} (h : mK s A) (e1 : ∀ a j, ¬ hfM 0 a j → ¬ scM a j → s'.1 a j = s.1 a j) (e2 : ∀ j, j ≠ 68 → s'.2.1 187 j = s.2.1 187 j) (hS : mSd s' 0 (aT A) O00 S') : mK s' (A.1, S', A.2.2) := by
  obtain ⟨h1, h2, h3, h4, h5, h6, h7⟩ := h
  have e : ∀ j, j ≠ 2 → j ≠ 59 → (j < 69 ∨ 76 < j) → j ≠ 82 → s'.1 187 j = s.1 187 j := fun j g1 g2 g3 g4 => e1 187 j (by unfold hfM; omega) (by unfold scM hfM; omega)
  have ec : ∀ a, (188 ≤ a ∧ a < 219) ∨ a = 233 ∨ 236 ≤ a → s'.1 a = s.1 a := fun a ha => funext fun j => e1 a j (by unfold hfM; omega) (by unfold scM hfM; omega)
  refine ⟨mTd_fr h1 (fun a j ha => e1 a j (by unfold hfM; omega) (by unfold scM hfM; omega)), hS, ?_, ?_, ?_, ?_, ?_⟩
  · show mIm s' (aT A) (aI A)
    unfold mIm
    rw [e 91 (by omega) (by omega) (by omega) (by omega), e 93 (by omega) (by omega) (by omega) (by omega), e 94 (by omega) (by omega) (by omega) (by omega), ec 237 (by omega), e2 95 (by omega)]
    exact h3
  · show mPs s' (aT A) (aP A)
    unfold mPs
    rw [e 89 (by omega) (by omega) (by omega) (by omega), ec 236 (by omega)]
    exact h4
  · show mBt s' (aB A)
    unfold mBt
    rw [e 1 (by omega) (by omega) (by omega) (by omega), ec 188 (by omega)]
    exact h5
  · show mFt s' (aF A)
    unfold mFt
    rw [e 4 (by omega) (by omega) (by omega) (by omega), e 5 (by omega) (by omega) (by omega) (by omega)]
    exact h6
  · show mSn s' (aE A)
    unfold mSn
    rw [e 84 (by omega) (by omega) (by omega) (by omega), e 85 (by omega) (by omega) (by omega) (by omega), ec 233 (by omega)]
    exact h7
theorem mK_p0 (h : mK s A) : mK (wI s 187 89 (nI 0)) (A.1, A.2.1, A.2.2.1, (0, (aP A).2), A.2.2.2.2) := by
  obtain ⟨h1, h2, h3, h4, h5, h6, h7⟩ := h
  have e : ∀ j, j ≠ 89 → (wI s 187 89 (nI 0)).1 187 j = s.1 187 j := fun j g => by rw [wI_at, upd_ne g]
  have ec : ∀ a, a ≠ 187 → (wI s 187 89 (nI 0)).1 a = s.1 a := fun a ha => wI_ne ha
  refine ⟨mTd_fr h1 (fun a j ha => by rcases ha with ⟨rfl, h⟩ | h; exact e j (by omega); rw [ec a (by omega)]), ?_, ?_, ⟨?_, fun i hi => absurd hi (Nat.not_lt_zero i)⟩, ?_, ?_, ?_⟩
  · show mSd _ 0 (aT A) O00 (aS A)
    unfold mSd
    rw [ec 219 (by omega), ec 220 (by omega), ec 221 (by omega), ec 222 (by omega), ec 223 (by omega), ec 224 (by omega), ec 225 (by omega), ec 226 (by omega)]
    exact h2
  · show mIm _ (aT A) (aI A)
    unfold mIm
    rw [e 91 (by omega), e 93 (by omega), e 94 (by omega), ec 237 (by omega)]
    exact h3
  · simp only [wI_at, upd_at]
  · show mBt _ (aB A)
    unfold mBt
    rw [e 1 (by omega), ec 188 (by omega)]
    exact h5
  · show mFt _ (aF A)
    unfold mFt
    rw [e 4 (by omega), e 5 (by omega)]
    exact h6
  · show mSn _ (aE A)
    unfold mSn
    rw [e 84 (by omega), e 85 (by omega), ec 233 (by omega)]
    exact h7
theorem m_isPath (hn : 239 ≤ n) (hT : mTd s.1 T) {x : Int32} : fX11_isPath n (mk s) 187 x = some (nI (inR x (T 0 1)).toNat, mk s) := by
  unfold fX11_isPath inR
  by_cases h1 : x < nI 0
  · rw [decide_eq_false (fun h => h.1 h1)]
    simp (disch := first | omega | assumption | (simp only [wL_1, wL_22, wI_2, wA_2, wQ_1, wQ_21] <;> first | assumption | omega)) only [LIT, LITm, nI_add, n_mul, fa_or, n_31m, n_shl0, n_le, n_lt, n_eq, Option.bind_some, B_m hn, h1, ↓reduceIte, Bool.toNat_false]
  · by_cases h2 : nI (T 0 1) ≤ x
    · rw [decide_eq_false (fun h => h.2 h2)]
      simp (disch := first | omega | assumption | (simp only [wL_1, wL_22, wI_2, wA_2, wQ_1, wQ_21] <;> first | assumption | omega)) only [LIT, LITm, nI_add, n_mul, fa_or, n_31m, n_shl0, n_le, n_lt, n_eq, Option.bind_some, B_m hn, MTp T, h1, h2, ↓reduceIte, Bool.toNat_false]
    · rw [decide_eq_true ⟨h1, h2⟩]
      simp (disch := first | omega | assumption | (simp only [wL_1, wL_22, wI_2, wA_2, wQ_1, wQ_21] <;> first | assumption | omega)) only [LIT, LITm, nI_add, n_mul, fa_or, n_31m, n_shl0, n_le, n_lt, n_eq, Option.bind_some, B_m hn, MTp T, h1, h2, ↓reduceIte, Bool.toNat_true]
theorem m_isPlace (hn : 239 ≤ n) (hT : mTd s.1 T) {x : Int32} : fX11_isPlace n (mk s) 187 x = some (nI (inR x (T 0 0)).toNat, mk s) := by
  unfold fX11_isPlace inR
  by_cases h1 : x < nI 0
  · rw [decide_eq_false (fun h => h.1 h1)]
    simp (disch := first | omega | assumption | (simp only [wL_1, wL_22, wI_2, wA_2, wQ_1, wQ_21] <;> first | assumption | omega)) only [LIT, LITm, nI_add, n_mul, fa_or, n_31m, n_shl0, n_le, n_lt, n_eq, Option.bind_some, B_m hn, h1, ↓reduceIte, Bool.toNat_false]
  · by_cases h2 : nI (T 0 0) ≤ x
    · rw [decide_eq_false (fun h => h.2 h2)]
      simp (disch := first | omega | assumption | (simp only [wL_1, wL_22, wI_2, wA_2, wQ_1, wQ_21] <;> first | assumption | omega)) only [LIT, LITm, nI_add, n_mul, fa_or, n_31m, n_shl0, n_le, n_lt, n_eq, Option.bind_some, B_m hn, MTp T, h1, h2, ↓reduceIte, Bool.toNat_false]
    · rw [decide_eq_true ⟨h1, h2⟩]
      simp (disch := first | omega | assumption | (simp only [wL_1, wL_22, wI_2, wA_2, wQ_1, wQ_21] <;> first | assumption | omega)) only [LIT, LITm, nI_add, n_mul, fa_or, n_31m, n_shl0, n_le, n_lt, n_eq, Option.bind_some, B_m hn, MTp T, h1, h2, ↓reduceIte, Bool.toNat_true]
theorem m_isWalker (hn : 239 ≤ n) (hT : mTd s.1 T) {x : Int32} : fX11_isWalker n (mk s) 187 x = some (nI (inR x (T 0 2)).toNat, mk s) := by
  unfold fX11_isWalker inR
  by_cases h1 : x < nI 0
  · rw [decide_eq_false (fun h => h.1 h1)]
    simp (disch := first | omega | assumption | (simp only [wL_1, wL_22, wI_2, wA_2, wQ_1, wQ_21] <;> first | assumption | omega)) only [LIT, LITm, nI_add, n_mul, fa_or, n_31m, n_shl0, n_le, n_lt, n_eq, Option.bind_some, B_m hn, h1, ↓reduceIte, Bool.toNat_false]
  · by_cases h2 : nI (T 0 2) ≤ x
    · rw [decide_eq_false (fun h => h.2 h2)]
      simp (disch := first | omega | assumption | (simp only [wL_1, wL_22, wI_2, wA_2, wQ_1, wQ_21] <;> first | assumption | omega)) only [LIT, LITm, nI_add, n_mul, fa_or, n_31m, n_shl0, n_le, n_lt, n_eq, Option.bind_some, B_m hn, MTp T, h1, h2, ↓reduceIte, Bool.toNat_false]
    · rw [decide_eq_true ⟨h1, h2⟩]
      simp (disch := first | omega | assumption | (simp only [wL_1, wL_22, wI_2, wA_2, wQ_1, wQ_21] <;> first | assumption | omega)) only [LIT, LITm, nI_add, n_mul, fa_or, n_31m, n_shl0, n_le, n_lt, n_eq, Option.bind_some, B_m hn, MTp T, h1, h2, ↓reduceIte, Bool.toNat_true]
theorem m_th (s : zS) : frT s (wI s 187 2 (nI 0)) := frT_w (by unfold scM; omega)
theorem m_draw (hO : mOd s.1 T (O0 T 1)) : frT s (wI s 187 69 (nI 1)) ∧ mOd (wI s 187 69 (nI 1)).1 T (O0 T 0) := by
  obtain ⟨⟨o1, o2, o3, o4⟩, o5, o6⟩ := hO
  refine ⟨frT_w (by unfold scM; omega), ⟨?_, ?_, ?_, ?_⟩, ?_, ?_⟩
  · rw [wI_at, upd_at]; rfl
  · rw [wI_at, upd_ne (by omega), o2]; rfl
  · rw [wI_at, upd_ne (by omega), o3]; rfl
  · rw [wI_at, upd_ne (by omega), o4]; rfl
  · rw [wI_at, upd_ne (by omega)]; exact o5
  · rw [wI_at, upd_ne (by omega), upd_ne (by omega), upd_ne (by omega)]; exact o6
theorem m_go (hn : 239 ≤ n) (hK : mK s A) (hA : wfA A) {x : Int32} : (wiV 0 x 400 = true ∧ ¬ nI 9000 < (aS A).1 0 + x → ∃ s' : zS, fX11_go n (mk s) 187 x = some ((dyN (aT A) (O0 (aT A) 0) x.toNatClampNeg (aS A)).1 0, mk s') ∧ frM s s' ∧ mK s' (A.1, dyN (aT A) (O0 (aT A) 0) x.toNatClampNeg (aS A), A.2.2.1, (if x.toNatClampNeg = 0 then aP A else (0, (aP A).2)), A.2.2.2.2)) ∧
    (¬ (wiV 0 x 400 = true ∧ ¬ nI 9000 < (aS A).1 0 + x) → ∃ s' : zS, fX11_go n (mk s) 187 x = some (m1, mk s') ∧ frT s s') := by
  have hW := hA.1
  have hd := hK.2.1.1.1
  have lel : ∀ y : Int32, (y ≤ nI 9000) = ¬ (nI 9000 < y) := fun y => propext ⟨fun h => by rw [fa_lt]; rw [fa_le] at h; omega, fun h => by rw [fa_le]; rw [fa_lt] at h; omega⟩
  have ft := m_th s
  refine ⟨fun h => ?_, fun h => ?_⟩
  · obtain ⟨j, -, hj, rfl⟩ := wiV_t (by omega) (by omega) h.1
    rw [cl_n (by omega)]
    obtain ⟨sa, ea, fa, ga, ca, oa, pl⟩ := m_plain (T := aT A) (s := wI s 187 2 (nI 0)) hn hW
    obtain ⟨fb, ob⟩ := m_draw oa
    have fab : frT s (wI sa 187 69 (nI 1)) := frT_t ft (frT_t fa fb)
    have hKb := mK_T hW hK fab
    have hSb : mSd (wI sa 187 69 (nI 1)) 0 (aT A) (O0 (aT A) 0) (aS A) := mSd_O hKb.2.1
    have pre : fX11_go n (mk s) 187 (nI j) = fX11_go_43 n bi_K (mk (wI sa 187 69 (nI 1))) 187 (nI j) (nI 0) := by
      unfold fX11_go
      simp (disch := first | omega | assumption | (simp only [wL_1, wL_22, wI_2, wA_2, wQ_1, wQ_21] <;> first | assumption | omega)) only [LIT, LITm, nI_add, n_mul, fa_or, n_31m, n_shl0, n_le, n_lt, n_eq, Option.bind_some, B_m hn, B_mz hn, B_mc hn, wI_ne, hd, m_within, wiV_n, lel, h.2, ea, Bool.toNat_true, Nat.reduceEqDiff, Nat.reduceLeDiff, not_false_eq_true, ↓reduceIte]
    rw [pre]
    refine lp_up (F := fun k (s1 : zS) i => fX11_go_43 n k (mk s1) 187 (nI j) (nI i)) (N := j) (P := fun i s1 => frY 0 (O0 (aT A) 0) (wI sa 187 69 (nI 1)) s1 ∧ mSd s1 0 (aT A) (O0 (aT A) 0) (dyN (aT A) (O0 (aT A) 0) i (aS A))) (Q := fun r => ∃ s' : zS, r = some ((dyN (aT A) (O0 (aT A) 0) j (aS A)).1 0, mk s') ∧ frM s s' ∧ mK s' (A.1, dyN (aT A) (O0 (aT A) 0) j (aS A), A.2.2.1, (if j = 0 then aP A else (0, (aP A).2)), A.2.2.2.2)) ?_ ?_ j bi_K (wI sa 187 69 (nI 1)) 0 (by omega) (by unfold bi_K; omega) ⟨frY_r, hSb⟩
    · intro k sy i hi hP
      obtain ⟨f, hSy⟩ := hP
      left
      obtain ⟨sz, ez, fz, hz⟩ := m_day hn hW (mTd_Y f hKb.1) (mOd_Y f ob) hSy (O0_w hW (by omega)) (dyN_w hW hA.2.1 i) (by omega)
      refine ⟨sz, ?_, frY_t f fz, hz⟩
      simp (disch := first | omega | assumption | (simp only [wL_1, wL_22, wI_2, wA_2, wQ_1, wQ_21] <;> first | assumption | omega)) only [fX11_go_43, fX11_go_43b, LIT, LITm, nI_add, n_mul, fa_or, n_31m, n_shl0, n_le, n_lt, n_eq, Option.bind_some, ez, show ¬ j ≤ i by omega, ↓reduceIte]
    · intro k sy hP
      obtain ⟨f, hSy⟩ := hP
      have fz : frT sy (wI sy 187 69 (nI 0)) := frT_w (by unfold scM; omega)
      have fMz : frM s (wI sy 187 69 (nI 0)) := frM_t (frT_M fab) (frM_t (frY_M f) (frT_M fz))
      have kY : mK (wI sy 187 69 (nI 0)) (A.1, dyN (aT A) (O0 (aT A) 0) j (aS A), A.2.2) := by
        refine mK_nw hKb (fun a j h1 h2 => ?_) (fun j hj => f.2.2.1 187 j (by omega) (by omega) (by omega)) (mSd_T hW fz (mSd_O0 hSy))
        rw [fz.1.2.1 a j h2]
        exact f.2.1 a j h1 (fun g => h2 (Or.inr (Or.inl ⟨g.1, Or.inr (Or.inl g.2)⟩)))
      have d0 := hSy.1.1
      by_cases j0 : j = 0
      · subst j0
        have k89 := kY.2.2.2.1.1
        have e89 : wI (wI sy 187 69 (nI 0)) 187 89 ((wI sy 187 69 (nI 0)).1 187 89) = wI sy 187 69 (nI 0) := by
          unfold wI
          simp only [Prod.mk.injEq, and_true]
          funext a
          unfold va_up
          by_cases ha : a = 187
          · subst ha
            simp only [↓reduceIte]
            exact fa_upd_same rfl
          · rw [if_neg ha]
        refine ⟨wI sy 187 69 (nI 0), ?_, fMz, by rw [if_pos rfl]; exact kY⟩
        simp (disch := first | omega | assumption | (simp only [wL_1, wL_22, wI_2, wA_2, wQ_1, wQ_21] <;> first | assumption | omega)) only [fX11_go_43, fX11_go_43b, LIT, LITm, nI_add, n_mul, fa_or, n_31m, n_shl0, n_le, n_lt, n_eq, Option.bind_some, B_m hn, B_mz hn, B_mc hn, Nat.le_refl, ↓reduceIte]
        rw [e89, wI_ne (by omega), d0]
      · refine ⟨wI (wI sy 187 69 (nI 0)) 187 89 (nI 0), ?_, frM_t fMz ⟨rfl, fun a ha => ⟨wI_ne (by omega), rfl⟩⟩, by rw [if_neg j0]; exact mK_p0 kY⟩
        simp (disch := first | omega | assumption | (simp only [wL_1, wL_22, wI_2, wA_2, wQ_1, wQ_21] <;> first | assumption | omega)) only [fX11_go_43, fX11_go_43b, LIT, LITm, nI_add, n_mul, fa_or, n_31m, n_shl0, n_le, n_lt, n_eq, Option.bind_some, B_m hn, B_mz hn, B_mc hn, Nat.le_refl, show ¬ j ≤ 0 by omega, wI_ne, ↓reduceIte, d0]
  · refine ⟨wI s 187 2 (nI 0), ?_, ft⟩
    unfold fX11_go
    by_cases h1 : wiV 0 x 400 = true
    · have h2 : nI 9000 < (aS A).1 0 + x := Classical.byContradiction fun g => h ⟨h1, g⟩
      simp (disch := first | omega | assumption | (simp only [wL_1, wL_22, wI_2, wA_2, wQ_1, wQ_21] <;> first | assumption | omega)) only [LIT, LITm, nI_add, n_mul, fa_or, n_31m, n_shl0, n_le, n_lt, n_eq, Option.bind_some, B_m hn, B_mc hn, wI_ne, hd, m_within, h1, lel, h2, Bool.toNat_true, Nat.reduceEqDiff, Nat.reduceLeDiff, not_true_eq_false, ↓reduceIte]
    · simp (disch := first | omega | assumption | (simp only [wL_1, wL_22, wI_2, wA_2, wQ_1, wQ_21] <;> first | assumption | omega)) only [LIT, LITm, nI_add, n_mul, fa_or, n_31m, n_shl0, n_le, n_lt, n_eq, Option.bind_some, B_m hn, m_within, bF h1, Bool.toNat_false, ↓reduceIte]
theorem m_ahead (hn : 239 ≤ n) (hK : mK s A) (hA : wfA A) {x y z : Int32} : ∃ s' : zS, fX11_ahead n (mk s) 187 x y z = some (if wiV 0 x 400 = true ∧ askV (aT A) y z = true then aheadV (aS A) (dyN (aT A) (O0 (aT A) 1) x.toNatClampNeg (aS A)) y z else m1, mk s') ∧ frT s s' := by
  have hW := hA.1
  have h0 := hW.1
  have ft := m_th s
  have hTt := mTd_T ft.1 hK.1
  by_cases hx : wiV 0 x 400 = true
  · by_cases hy : askV (aT A) y z = true
    · rw [if_pos ⟨hx, hy⟩]
      obtain ⟨j, -, hj, rfl⟩ := wiV_t (by omega) (by omega) hx
      rw [cl_n (by omega)]
      have hKt := mK_T hW hK ft
      obtain ⟨sa, ea, fa, ga, hSa, oa, pl⟩ := m_lay hn hW (mSd_O (O := O0 (aT A) 1) hKt.2.1)
      obtain ⟨sb, eb, fb, hSb⟩ := m_many (j := j) hn hW (mTd_T fa.1 hTt) oa hSa (O0_w hW (by omega)) hA.2.1 (by omega)
      have fB : frT sa sb := frY_T (by unfold O0; simp) fb
      have fall := frT_t ft (frT_t fa fB)
      have hKb := mK_T hW hK fall
      have hwd := dyN_w (O := O0 (aT A) 1) hW hA.2.1 j
      have kp := m_kept hn hW hKb.1 (by omega) hSb hwd
      have n1 := hKb.2.1.1.2.1
      have n2 := hKb.2.1.1.2.2.1 rfl
      obtain ⟨⟨s1, s2, s3, s4⟩, s5, s6⟩ := hSb
      have s3' := s3 rfl
      refine ⟨sb, ?_, fall⟩
      have r53 : ∀ (hy0 : askV (aT A) y z = true), fX11_ahead_53 n (mk (wI s 187 2 (nI 0))) 187 (nI j) y z = some (aheadV (aS A) (dyN (aT A) (O0 (aT A) 1) j (aS A)) y z, mk sb) := by
        intro hy0
        unfold fX11_ahead_53 aheadV
        unfold askV at hy0
        by_cases h0 : y = nI 0
        · simp (disch := first | omega | assumption | (simp only [wL_1, wL_22, wI_2, wA_2, wQ_1, wQ_21] <;> first | assumption | omega)) only [LIT, LITm, nI_add, n_mul, fa_or, n_31m, n_shl0, n_le, n_lt, n_eq, Option.bind_some, B_m hn, ea, eb, kp, h0, ↓reduceIte]
        · by_cases h1 : y = nI 1
          · simp (disch := first | omega | assumption | (simp only [wL_1, wL_22, wI_2, wA_2, wQ_1, wQ_21] <;> first | assumption | omega)) only [LIT, LITm, nI_add, n_mul, fa_or, n_31m, n_shl0, n_le, n_lt, n_eq, Option.bind_some, B_m hn, B_mb hn, ea, eb, s2, n1, h1, Nat.reduceEqDiff, Nat.reduceLeDiff, ↓reduceIte]
          · by_cases h2 : y = nI 2
            · simp (disch := first | omega | assumption | (simp only [wL_1, wL_22, wI_2, wA_2, wQ_1, wQ_21] <;> first | assumption | omega)) only [LIT, LITm, nI_add, n_mul, fa_or, n_31m, n_shl0, n_le, n_lt, n_eq, Option.bind_some, B_m hn, B_mb hn, ea, eb, s3', n2, h2, Nat.reduceEqDiff, Nat.reduceLeDiff, ↓reduceIte]
            · rw [if_neg h0, if_neg h1, if_neg h2] at hy0
              by_cases h3 : y = nI 3
              · rw [if_pos h3] at hy0
                obtain ⟨w, hw, rfl⟩ := inR_t (by omega) hy0
                have q := (s6 w hw).1
                simp only [Nat.mul_one] at q
                simp (disch := first | omega | assumption | (simp only [wL_1, wL_22, wI_2, wA_2, wQ_1, wQ_21] <;> first | assumption | omega)) only [LIT, LITm, nI_add, n_mul, fa_or, n_31m, n_shl0, n_le, n_lt, n_eq, Option.bind_some, B_m hn, B_mb hn, ea, eb, q, h3, Nat.reduceEqDiff, Nat.reduceLeDiff, ↓reduceIte, cl_n]
              · rw [if_neg h3] at hy0
                by_cases h4 : y = nI 4
                · rw [if_pos h4] at hy0
                  obtain ⟨p, hp, rfl⟩ := inR_t (by omega) hy0
                  have q := (s5 p hp).1
                  simp only [Nat.mul_one] at q
                  simp (disch := first | omega | assumption | (simp only [wL_1, wL_22, wI_2, wA_2, wQ_1, wQ_21] <;> first | assumption | omega)) only [LIT, LITm, nI_add, n_mul, fa_or, n_31m, n_shl0, n_le, n_lt, n_eq, Option.bind_some, B_m hn, B_mb hn, ea, eb, q, h4, Nat.reduceEqDiff, Nat.reduceLeDiff, ↓reduceIte, cl_n]
                · rw [if_neg h4] at hy0
                  cases hy0
      have R := r53 hy
      have hy' := hy
      unfold askV at hy'
      unfold fX11_ahead fX11_ahead_38
      by_cases h0 : y = nI 0
      · rw [h0] at R ⊢
        simp (disch := first | omega | assumption | (simp only [wL_1, wL_22, wI_2, wA_2, wQ_1, wQ_21] <;> first | assumption | omega)) only [LIT, LITm, nI_add, n_mul, fa_or, n_31m, n_shl0, n_le, n_lt, n_eq, Option.bind_some, B_m hn, m_within, wiV_n, R, Bool.toNat_true, Nat.reduceEqDiff, Nat.reduceLeDiff, not_false_eq_true, ↓reduceIte]
      · by_cases h1 : y = nI 1
        · rw [h1] at R ⊢
          simp (disch := first | omega | assumption | (simp only [wL_1, wL_22, wI_2, wA_2, wQ_1, wQ_21] <;> first | assumption | omega)) only [LIT, LITm, nI_add, n_mul, fa_or, n_31m, n_shl0, n_le, n_lt, n_eq, Option.bind_some, B_m hn, m_within, wiV_n, R, Bool.toNat_true, Nat.reduceEqDiff, Nat.reduceLeDiff, not_false_eq_true, ↓reduceIte]
        · by_cases h2 : y = nI 2
          · rw [h2] at R ⊢
            simp (disch := first | omega | assumption | (simp only [wL_1, wL_22, wI_2, wA_2, wQ_1, wQ_21] <;> first | assumption | omega)) only [LIT, LITm, nI_add, n_mul, fa_or, n_31m, n_shl0, n_le, n_lt, n_eq, Option.bind_some, B_m hn, m_within, wiV_n, R, Bool.toNat_true, Nat.reduceEqDiff, Nat.reduceLeDiff, not_false_eq_true, ↓reduceIte]
          · rw [if_neg h0, if_neg h1, if_neg h2] at hy'
            by_cases h3 : y = nI 3
            · rw [if_pos h3] at hy'
              rw [h3] at R ⊢
              simp (disch := first | omega | assumption | (simp only [wL_1, wL_22, wI_2, wA_2, wQ_1, wQ_21] <;> first | assumption | omega)) only [LIT, LITm, nI_add, n_mul, fa_or, n_31m, n_shl0, n_le, n_lt, n_eq, Option.bind_some, B_m hn, m_within, wiV_n, m_isWalker hn hTt, hy', R, Bool.toNat_true, Nat.reduceEqDiff, Nat.reduceLeDiff, not_false_eq_true, not_true_eq_false, ↓reduceIte]
            · rw [if_neg h3] at hy'
              by_cases h4 : y = nI 4
              · rw [if_pos h4] at hy'
                rw [h4] at R ⊢
                simp (disch := first | omega | assumption | (simp only [wL_1, wL_22, wI_2, wA_2, wQ_1, wQ_21] <;> first | assumption | omega)) only [LIT, LITm, nI_add, n_mul, fa_or, n_31m, n_shl0, n_le, n_lt, n_eq, Option.bind_some, B_m hn, m_within, wiV_n, m_isPath hn hTt, hy', R, Bool.toNat_true, Nat.reduceEqDiff, Nat.reduceLeDiff, not_false_eq_true, not_true_eq_false, ↓reduceIte]
              · rw [if_neg h4] at hy'
                cases hy'
    · rw [if_neg (fun h => hy h.2)]
      refine ⟨wI s 187 2 (nI 0), ?_, ft⟩
      unfold fX11_ahead fX11_ahead_38
      by_cases g : wiV 0 y 4 = true
      · obtain ⟨k, -, hk, rfl⟩ := wiV_t (by omega) (by omega) g
        unfold askV at hy
        rcases (by omega : k = 0 ∨ k = 1 ∨ k = 2 ∨ k = 3 ∨ k = 4) with rfl | rfl | rfl | rfl | rfl
        · exact absurd (by rw [if_pos rfl]) hy
        · exact absurd (by rw [if_neg (by decide), if_pos rfl]) hy
        · exact absurd (by rw [if_neg (by decide), if_neg (by decide), if_pos rfl]) hy
        · rw [if_neg (by decide), if_neg (by decide), if_neg (by decide), if_pos rfl] at hy
          simp (disch := first | omega | assumption | (simp only [wL_1, wL_22, wI_2, wA_2, wQ_1, wQ_21] <;> first | assumption | omega)) only [LIT, LITm, nI_add, n_mul, fa_or, n_31m, n_shl0, n_le, n_lt, n_eq, Option.bind_some, B_m hn, m_within, hx, wiV_n, m_isWalker hn hTt, bF hy, Bool.toNat_true, Bool.toNat_false, Nat.reduceEqDiff, Nat.reduceLeDiff, not_true_eq_false, ↓reduceIte]
        · rw [if_neg (by decide), if_neg (by decide), if_neg (by decide), if_neg (by decide), if_pos rfl] at hy
          simp (disch := first | omega | assumption | (simp only [wL_1, wL_22, wI_2, wA_2, wQ_1, wQ_21] <;> first | assumption | omega)) only [LIT, LITm, nI_add, n_mul, fa_or, n_31m, n_shl0, n_le, n_lt, n_eq, Option.bind_some, B_m hn, m_within, hx, wiV_n, m_isPath hn hTt, bF hy, Bool.toNat_true, Bool.toNat_false, Nat.reduceEqDiff, Nat.reduceLeDiff, not_true_eq_false, not_false_eq_true, ↓reduceIte]
      · simp (disch := first | omega | assumption | (simp only [wL_1, wL_22, wI_2, wA_2, wQ_1, wQ_21] <;> first | assumption | omega)) only [LIT, LITm, nI_add, n_mul, fa_or, n_31m, n_shl0, n_le, n_lt, n_eq, Option.bind_some, B_m hn, m_within, hx, bF g, Bool.toNat_true, Bool.toNat_false, Nat.reduceEqDiff, Nat.reduceLeDiff, ↓reduceIte]
  · rw [if_neg (fun h => hx h.1)]
    refine ⟨wI s 187 2 (nI 0), ?_, ft⟩
    unfold fX11_ahead
    simp (disch := first | omega | assumption | (simp only [wL_1, wL_22, wI_2, wA_2, wQ_1, wQ_21] <;> first | assumption | omega)) only [LIT, LITm, nI_add, n_mul, fa_or, n_31m, n_shl0, n_le, n_lt, n_eq, Option.bind_some, B_m hn, m_within, bF hx, Bool.toNat_false, ↓reduceIte]
theorem m_lapse (hn : 239 ≤ n) (hK : mK s A) (hA : wfA A) {x : Int32} : ∃ s' : zS, fX11_lapse n (mk s) 187 x = some (if inR x (aT A 0 1) = true then lapV (aT A) (aS A) x.toNatClampNeg 399 0 else m1, mk s') ∧ frT s s' := by
  have hW := hA.1
  have h0 := hW.1
  have ft := m_th s
  have hTt := mTd_T ft.1 hK.1
  by_cases hx : inR x (aT A 0 1) = true
  · rw [if_pos hx]
    obtain ⟨p, hp, rfl⟩ := inR_t (by omega) hx
    rw [cl_n (by omega)]
    have hKt := mK_T hW hK ft
    obtain ⟨sa, ea, fa, ga, hSa, oa, pl⟩ := m_lay hn hW (mSd_O (O := O0 (aT A) 1) hKt.2.1)
    have hTa := mTd_T fa.1 hTt
    have pre : fX11_lapse n (mk s) 187 (nI p) = fX11_lapse_21 n bi_K (mk sa) 187 (nI p) (nI 0) := by
      unfold fX11_lapse
      simp (disch := first | omega | assumption | (simp only [wL_1, wL_22, wI_2, wA_2, wQ_1, wQ_21] <;> first | assumption | omega)) only [LIT, LITm, nI_add, n_mul, fa_or, n_31m, n_shl0, n_le, n_lt, n_eq, Option.bind_some, B_m hn, m_isPath hn hTt, hx, ea, Bool.toNat_true, Nat.reduceEqDiff, Nat.reduceLeDiff, not_false_eq_true, ↓reduceIte]
    rw [pre]
    obtain ⟨R, hR⟩ : ∃ R, R = lapV (aT A) (aS A) p 399 0 := ⟨_, rfl⟩
    rw [← hR]
    have hn0 : (O0 (aT A) 1).1 ≠ 0 := by unfold O0; simp
    refine lp_up (F := fun k (s1 : zS) i => fX11_lapse_21 n k (mk s1) 187 (nI p) (nI i)) (N := 400) (P := fun i s1 => frY 1 (O0 (aT A) 1) sa s1 ∧ mSd s1 1 (aT A) (O0 (aT A) 1) (dyN (aT A) (O0 (aT A) 1) i (aS A)) ∧ (i < 400 → R = lapV (aT A) (aS A) p (399 - i) i) ∧ (i = 400 → R = m2)) (Q := fun r => ∃ s' : zS, r = some (R, mk s') ∧ frT s s') ?_ ?_ 400 bi_K sa 0 (by omega) (by unfold bi_K; omega) ⟨frY_r, hSa, fun _ => hR, fun h => by omega⟩
    · intro k sy i hi hP
      obtain ⟨f, hSy, hl, -⟩ := hP
      have hl := hl hi
      have q := (hSy.2.1 p hp).2.1
      simp only [Nat.mul_one] at q
      have fall := frT_t ft (frT_t fa (frY_T hn0 f))
      cases g : (dyN (aT A) (O0 (aT A) 1) i (aS A)).2.2.2.1.testBit p with
      | true =>
        rw [g] at q
        left
        obtain ⟨sz, ez, fz, hz⟩ := m_day hn hW (mTd_Y f hTa) (mOd_Y f oa) hSy (O0_w hW (by omega)) (dyN_w hW hA.2.1 i) (by omega)
        refine ⟨sz, ?_, frY_t f fz, hz, fun h => ?_, fun h => ?_⟩
        · simp (disch := first | omega | assumption | (simp only [wL_1, wL_22, wI_2, wA_2, wQ_1, wQ_21] <;> first | assumption | omega)) only [fX11_lapse_21, fX11_lapse_21b, LIT, LITm, nI_add, n_mul, fa_or, n_31m, n_shl0, n_le, n_lt, n_eq, Option.bind_some, B_m hn, B_mb hn, q, ez, Bool.toNat_true, Nat.reduceEqDiff, Nat.reduceLeDiff, not_false_eq_true, show ¬ 400 ≤ i by omega, ↓reduceIte]
        · rw [show 399 - i = (399 - (i + 1)) + 1 by omega, lapV, g, if_pos rfl] at hl
          exact hl
        · rw [show 399 - i = 0 by omega, lapV, g, if_pos rfl] at hl
          exact hl
      | false =>
        rw [g] at q
        right
        refine ⟨sy, ?_, fall⟩
        have hl' : R = nI i := by
          by_cases e : i = 399
          · rw [show 399 - i = 0 by omega, lapV, g, if_neg (by decide)] at hl
            exact hl
          · rw [show 399 - i = (399 - (i + 1)) + 1 by omega, lapV, g, if_neg (by decide)] at hl
            exact hl
        rw [hl']
        simp (disch := first | omega | assumption | (simp only [wL_1, wL_22, wI_2, wA_2, wQ_1, wQ_21] <;> first | assumption | omega)) only [fX11_lapse_21, fX11_lapse_21b, LIT, LITm, nI_add, n_mul, fa_or, n_31m, n_shl0, n_le, n_lt, n_eq, Option.bind_some, B_m hn, B_mb hn, q, Bool.toNat_false, not_true_eq_false, show ¬ 400 ≤ i by omega, ↓reduceIte]
    · intro k sy hP
      obtain ⟨f, hSy, -, hl⟩ := hP
      refine ⟨sy, ?_, frT_t ft (frT_t fa (frY_T hn0 f))⟩
      rw [hl rfl]
      simp (disch := first | omega | assumption | (simp only [wL_1, wL_22, wI_2, wA_2, wQ_1, wQ_21] <;> first | assumption | omega)) only [fX11_lapse_21, fX11_lapse_21b, LIT, LITm, nI_add, n_mul, fa_or, n_31m, n_shl0, n_le, n_lt, n_eq, Option.bind_some, Nat.le_refl, ↓reduceIte]
  · rw [if_neg hx]
    refine ⟨wI s 187 2 (nI 0), ?_, ft⟩
    unfold fX11_lapse
    simp (disch := first | omega | assumption | (simp only [wL_1, wL_22, wI_2, wA_2, wQ_1, wQ_21] <;> first | assumption | omega)) only [LIT, LITm, nI_add, n_mul, fa_or, n_31m, n_shl0, n_le, n_lt, n_eq, Option.bind_some, B_m hn, m_isPath hn hTt, bF hx, Bool.toNat_false, not_true_eq_false, ↓reduceIte]
theorem m_tried (hn : 239 ≤ n) (hK : mK s A) (hA : wfA A) {x y z : Int32} : (triedOk (aT A) x y z → ∃ s' : zS, fX11_tried n (mk s) 187 x y z = some (nI (pcV (dyN (aT A) (tryV (aT A) x.toNatClampNeg y) z.toNatClampNeg (aS A)).2.2.2.1), mk s') ∧ frT s s') ∧ (¬ triedOk (aT A) x y z → ∃ s' : zS, fX11_tried n (mk s) 187 x y z = some (m1, mk s') ∧ frT s s') := by
  have hW := hA.1
  have h0 := hW.1
  have ft := m_th s
  have hTt := mTd_T ft.1 hK.1
  refine ⟨fun h => ?_, fun h => ?_⟩
  · obtain ⟨hx, hz, hy⟩ := h
    obtain ⟨k, -, hk, rfl⟩ := wiV_t (by omega) (by omega) hx
    obtain ⟨j, -, hj, rfl⟩ := wiV_t (by omega) (by omega) hz
    rw [cl_n (by omega), cl_n (by omega)]
    have hKt := mK_T hW hK ft
    obtain ⟨sa, ea, fa, ga, hSa, oa, pl⟩ := m_lay hn hW (mSd_O (O := O0 (aT A) 1) hKt.2.1)
    have hTa := mTd_T fa.1 hTt
    obtain ⟨sb, esb⟩ : ∃ sb : zS, sb = wI (wI (wI (wI (wI sa 187 70 (nI (decide (k = 0)).toNat)) 187 71 (nI (decide (k = 1)).toNat)) 187 74 (if k = 2 then y else m1)) 187 72 (nI (decide (k = 3)).toNat)) 187 73 (nI (decide (k = 4)).toNat) := ⟨_, rfl⟩
    have fb : frT sa sb := by
      rw [esb]
      refine frT_t (frT_w ?_) (frT_t (frT_w ?_) (frT_t (frT_w ?_) (frT_t (frT_w ?_) (frT_w ?_)))) <;> (unfold scM; omega)
    have hTb := mTd_T fb.1 hTa
    have ob : mOd sb.1 (aT A) (tryV (aT A) k y) := by
      obtain ⟨⟨o1, o2, o3, o4⟩, o5, o6⟩ := oa
      have v75 : sb.1 187 75 = sa.1 187 75 := by rw [esb]; simp (disch := omega) only [wI_at, upd_ne]
      have v76 : sb.1 187 76 = sa.1 187 76 := by rw [esb]; simp (disch := omega) only [wI_at, upd_ne]
      have v69 : sb.1 187 69 = nI 0 := by rw [esb]; simp (disch := omega) only [wI_at, upd_ne, o1]; rfl
      have v70 : sb.1 187 70 = nI (decide (k = 0)).toNat := by rw [esb]; simp (disch := omega) only [wI_at, upd_ne, upd_at]
      have v71 : sb.1 187 71 = nI (decide (k = 1)).toNat := by rw [esb]; simp (disch := omega) only [wI_at, upd_ne, upd_at]
      have v74 : sb.1 187 74 = if k = 2 then y else m1 := by rw [esb]; simp (disch := omega) only [wI_at, upd_ne, upd_at]
      have v72 : sb.1 187 72 = nI (decide (k = 3)).toNat := by rw [esb]; simp (disch := omega) only [wI_at, upd_ne, upd_at]
      have v73 : sb.1 187 73 = nI (decide (k = 4)).toNat := by rw [esb]; simp (disch := omega) only [wI_at, upd_ne, upd_at]
      have lg : ∀ w, w < aT A 0 2 → (nI w = sb.1 187 75 → sb.1 187 76 = nI (aT A 10 w)) ∧ (nI w ≠ sb.1 187 75 → aT A 10 w = aT A 10 w) := by
        intro w hw
        rw [v75, v76]
        rcases o6 with ⟨p1, p2⟩ | ⟨p1, p2⟩
        · rw [pl.1] at p1
          exact absurd p1 (by decide)
        · exact ⟨(p2 w hw).1, fun _ => rfl⟩
      unfold mOd
      rw [v69, v70, v71, v72, v73, v74]
      rcases (by omega : k = 0 ∨ k = 1 ∨ k = 2 ∨ k = 3 ∨ k = 4) with rfl | rfl | rfl | rfl | rfl
      · exact ⟨⟨rfl, rfl, rfl, rfl⟩, Or.inr ⟨rfl, rfl, rfl⟩, Or.inr ⟨rfl, lg⟩⟩
      · exact ⟨⟨rfl, rfl, rfl, rfl⟩, Or.inr ⟨rfl, rfl, rfl⟩, Or.inr ⟨rfl, lg⟩⟩
      · exact ⟨⟨rfl, rfl, rfl, rfl⟩, Or.inr ⟨rfl, rfl, rfl⟩, Or.inr ⟨rfl, lg⟩⟩
      · exact ⟨⟨rfl, rfl, rfl, rfl⟩, Or.inr ⟨rfl, rfl, rfl⟩, Or.inl ⟨rfl, fun _ _ => rfl⟩⟩
      · exact ⟨⟨rfl, rfl, rfl, rfl⟩, Or.inl ⟨rfl, rfl, rfl⟩, Or.inr ⟨rfl, lg⟩⟩
    have hne : (tryV (aT A) k y).1 ≠ 0 := by
      unfold tryV
      split
      · simp
      · split
        · simp
        · split
          · simp
          · split <;> simp
    have hSb : mSd sb 1 (aT A) (tryV (aT A) k y) (aS A) := by
      refine mSd_x hne ?_
      unfold mSd
      have ec : ∀ a, a ≠ 187 → sb.1 a = sa.1 a := fun a ha => by rw [esb]; simp (disch := omega) only [wI_ne]
      rw [ec 219 (by omega), ec 220 (by omega), ec 221 (by omega), ec 222 (by omega), ec 223 (by omega), ec 224 (by omega), ec 225 (by omega), ec 226 (by omega)]
      exact ⟨⟨hSa.1.1, hSa.1.2.1, hSa.1.2.2.1, fun g => by cases g⟩, hSa.2⟩
    obtain ⟨sc, ec, fc, hSc⟩ := m_many (j := j) hn hW hTb ob hSb (tryV_w hW) hA.2.1 (by omega)
    obtain ⟨sd, ed, fd, gd, cd, od, pl2⟩ := m_plain (T := aT A) (s := sc) hn hW
    have hTd := mTd_T fd.1 (mTd_Y fc hTb)
    have hSd : mSd sd 1 (aT A) (tryV (aT A) k y) (dyN (aT A) (tryV (aT A) k y) j (aS A)) := by
      unfold mSd
      rw [cd 219 (by omega), cd 220 (by omega), cd 221 (by omega), cd 222 (by omega), cd 223 (by omega), cd 224 (by omega), cd 225 (by omega), cd 226 (by omega), gd]
      exact hSc
    have kp := m_kept hn hW hTd (by omega) hSd (dyN_w hW hA.2.1 j)
    refine ⟨sd, ?_, frT_t ft (frT_t fa (frT_t fb (frT_t (frY_T hne fc) fd)))⟩
    have p2 : fX11_tried_47 n (mk (wI s 187 2 (nI 0))) 187 (nI k) y (nI j) = some (nI (pcV (dyN (aT A) (tryV (aT A) k y) j (aS A)).2.2.2.1), mk sd) := by
      rcases (by omega : k = 0 ∨ k = 1 ∨ k = 2 ∨ k = 3 ∨ k = 4) with rfl | rfl | rfl | rfl | rfl <;> simp only [decide_true, decide_false, Bool.toNat_true, Bool.toNat_false, Nat.reduceEqDiff, Nat.reduceLeDiff, ↓reduceIte] at esb <;> unfold fX11_tried_47 fX11_tried_61 fX11_tried_75 fX11_tried_89 fX11_tried_103 fX11_tried_117 <;> simp (disch := first | omega | assumption | (simp only [wL_1, wL_22, wI_2, wA_2, wQ_1, wQ_21] <;> first | assumption | omega)) only [LIT, LITm, nI_add, n_mul, fa_or, n_31m, n_shl0, n_le, n_lt, n_eq, Option.bind_some, B_m hn, B_mz hn, ea, Nat.reduceEqDiff, Nat.reduceLeDiff, not_false_eq_true, not_true_eq_false, ↓reduceIte, ← esb, ec, ed, kp]
    unfold fX11_tried
    rcases hy with ⟨h2, hy⟩ | ⟨h2, rfl⟩
    · have h2' : k = 2 := (nI_eq (by omega) (by omega)).mp h2
      subst h2'
      simp (disch := first | omega | assumption | (simp only [wL_1, wL_22, wI_2, wA_2, wQ_1, wQ_21] <;> first | assumption | omega)) only [LIT, LITm, nI_add, n_mul, fa_or, n_31m, n_shl0, n_le, n_lt, n_eq, Option.bind_some, B_m hn, m_within, wiV_n, m_isWalker hn hTt, hy, p2, Bool.toNat_true, Nat.reduceEqDiff, Nat.reduceLeDiff, not_false_eq_true, not_true_eq_false, ↓reduceIte]
    · have h2' : ¬ k = 2 := fun e => h2 (by rw [e])
      simp (disch := first | omega | assumption | (simp only [wL_1, wL_22, wI_2, wA_2, wQ_1, wQ_21] <;> first | assumption | omega)) only [LIT, LITm, nI_add, n_mul, fa_or, n_31m, n_shl0, n_le, n_lt, n_eq, Option.bind_some, B_m hn, m_within, wiV_n, h2', p2, Bool.toNat_true, Nat.reduceEqDiff, Nat.reduceLeDiff, not_false_eq_true, ↓reduceIte]
  · refine ⟨wI s 187 2 (nI 0), ?_, ft⟩
    unfold fX11_tried
    by_cases hx : wiV 0 x 4 = true
    · by_cases hz : wiV 0 z 400 = true
      · by_cases h2 : x = nI 2
        · have hy : ¬ inR y (aT A 0 2) = true := fun g => h ⟨hx, hz, Or.inl ⟨h2, g⟩⟩
          rw [h2] at hx
          simp (disch := first | omega | assumption | (simp only [wL_1, wL_22, wI_2, wA_2, wQ_1, wQ_21] <;> first | assumption | omega)) only [LIT, LITm, nI_add, n_mul, fa_or, n_31m, n_shl0, n_le, n_lt, n_eq, Option.bind_some, B_m hn, m_within, hx, hz, h2, m_isWalker hn hTt, bF hy, Bool.toNat_true, Bool.toNat_false, Nat.reduceEqDiff, Nat.reduceLeDiff, not_false_eq_true, not_true_eq_false, ↓reduceIte]
        · have hy : ¬ y = nI 0 := fun g => h ⟨hx, hz, Or.inr ⟨h2, g⟩⟩
          simp (disch := first | omega | assumption | (simp only [wL_1, wL_22, wI_2, wA_2, wQ_1, wQ_21] <;> first | assumption | omega)) only [LIT, LITm, nI_add, n_mul, fa_or, n_31m, n_shl0, n_le, n_lt, n_eq, Option.bind_some, B_m hn, m_within, hx, hz, h2, hy, Bool.toNat_true, Nat.reduceEqDiff, Nat.reduceLeDiff, not_false_eq_true, ↓reduceIte]
      · simp (disch := first | omega | assumption | (simp only [wL_1, wL_22, wI_2, wA_2, wQ_1, wQ_21] <;> first | assumption | omega)) only [LIT, LITm, nI_add, n_mul, fa_or, n_31m, n_shl0, n_le, n_lt, n_eq, Option.bind_some, B_m hn, m_within, hx, bF hz, Bool.toNat_true, Bool.toNat_false, Nat.reduceEqDiff, Nat.reduceLeDiff, ↓reduceIte]
    · simp (disch := first | omega | assumption | (simp only [wL_1, wL_22, wI_2, wA_2, wQ_1, wQ_21] <;> first | assumption | omega)) only [LIT, LITm, nI_add, n_mul, fa_or, n_31m, n_shl0, n_le, n_lt, n_eq, Option.bind_some, B_m hn, m_within, bF hx, Bool.toNat_false, ↓reduceIte]
theorem m_chance (hn : 239 ≤ n) (hK : mK s A) (hA : wfA A) {x y z a : Int32} : (chcOk (aT A) x y z a → ∃ s' : zS, fX11_chance n (mk s) 187 x y z a = some (nI (chcV (aT A) (aS A) y.toNatClampNeg z.toNatClampNeg a 10 (0, x.toNatClampNeg)).1, mk s') ∧ frT s s') ∧ (¬ chcOk (aT A) x y z a → ∃ s' : zS, fX11_chance n (mk s) 187 x y z a = some (m1, mk s') ∧ frT s s') := by
  have hW := hA.1
  have h0 := hW.1
  have ft := m_th s
  have hTt := mTd_T ft.1 hK.1
  refine ⟨fun h => ?_, fun h => ?_⟩
  · obtain ⟨hx, hy, hz, ha⟩ := h
    obtain ⟨d, hd, rfl⟩ := nI_of (show ¬ x < 0 from hx)
    obtain ⟨j, hj1, hj, rfl⟩ := wiV_t (by omega) (by omega) hy
    obtain ⟨p, hp, rfl⟩ := inR_t (by omega) hz
    rw [cl_n hd, cl_n (by omega), cl_n (by omega)]
    obtain ⟨v, hv⟩ : ∃ v, v = s.2.1 187 68 := ⟨_, rfl⟩
    have pre : fX11_chance n (mk s) 187 (nI d) (nI j) (nI p) a = fX11_chance_59 n bi_K (mk (wL (wI s 187 2 (nI 0)) 187 68 (lN d))) 187 (nI j) (nI p) a v (nI 0) (nI 0) := by
      unfold fX11_chance
      simp (disch := first | omega | assumption | (simp only [wL_1, wL_22, wI_2, wA_2, wQ_1, wQ_21] <;> first | assumption | omega)) only [LIT, LITm, nI_add, n_mul, fa_or, n_31m, n_shl0, n_le, n_lt, n_eq, Option.bind_some, B_m hn, m_within, wiV_n, m_isPath hn hTt, hz, ha, Nat.not_lt_zero, Bool.toNat_true, Nat.reduceEqDiff, Nat.reduceLeDiff, not_false_eq_true, ↓reduceIte, nI_l, wI_2, ← hv]
    rw [pre]
    obtain ⟨R, hR⟩ : ∃ R, R = chcV (aT A) (aS A) j p a 10 (0, d) := ⟨_, rfl⟩
    rw [← hR]
    have f0 : frT0 s (wL (wI s 187 2 (nI 0)) 187 68 (lN d)) := frT0_t ft.1 ⟨rfl, fun _ _ _ => rfl, fun a j h1 h2 h3 => by rw [wL_g, if_neg h3]⟩
    have hS1 : mSd s 0 (aT A) (O0 (aT A) 1) (aS A) := mSd_O hK.2.1
    refine lp_up (F := fun k (q : zS × Nat × Nat) i => fX11_chance_59 n k (mk q.1) 187 (nI j) (nI p) a v (nI q.2.1) (nI i)) (N := 10) (P := fun i q => frT0 s q.1 ∧ q.1.2.1 187 68 = lN q.2.2 ∧ q.2.2 < 2147483648 ∧ R = chcV (aT A) (aS A) j p a (10 - i) q.2) (Q := fun r => ∃ s' : zS, r = some (nI R.1, mk s') ∧ frT s s') ?_ ?_ 10 bi_K (wL (wI s 187 2 (nI 0)) 187 68 (lN d), 0, d) 0 (by omega) (by unfold bi_K; omega) ⟨f0, by rw [wL_at, updL_at], hd, hR⟩
    · intro k q i hi hP
      obtain ⟨sy, c, m⟩ := q
      obtain ⟨f, hdm, hm, hr⟩ := hP
      simp only at f hdm hm hr ⊢
      left
      have hTy := mTd_T f hK.1
      obtain ⟨sa, ea, fa, ga, hSa, oa, pl⟩ := m_lay hn hW (mSd_T0 hW f hS1)
      obtain ⟨fb, ob⟩ := m_draw oa
      have hTb := mTd_T fb.1 (mTd_T fa.1 hTy)
      have hSb : mSd (wI sa 187 69 (nI 1)) 1 (aT A) (O0 (aT A) 0) ((aS A).1, (aS A).2.1, (aS A).2.2.1, (aS A).2.2.2.1, m) := by
        obtain ⟨⟨s1, s2, s3, -⟩, s5, s6⟩ := hSa
        unfold mSd
        have ec : ∀ a, a ≠ 187 → (wI sa 187 69 (nI 1)).1 a = sa.1 a := fun a ha => wI_ne ha
        rw [ec 219 (by omega), ec 220 (by omega), ec 221 (by omega), ec 222 (by omega), ec 223 (by omega), ec 224 (by omega), ec 225 (by omega), ec 226 (by omega)]
        refine ⟨⟨s1, s2, s3, fun _ => ?_⟩, s5, s6⟩
        show sa.2.1 187 68 = lN m
        rw [ga]
        exact hdm
      have hDb : wD (aT A) ((aS A).1, (aS A).2.1, (aS A).2.2.1, (aS A).2.2.2.1, m) := ⟨hm, hA.2.1.2⟩
      rw [show 10 - i = (10 - (i + 1)) + 1 by omega, chcV] at hr
      simp only at hr
      revert hr
      generalize ((aS A).1, (aS A).2.1, (aS A).2.2.1, (aS A).2.2.2.1, m) = Sm at hSb hDb
      intro hr
      obtain ⟨sc, ec, fc, hSc⟩ := m_many (j := j) hn hW hTb ob hSb (O0_w hW (by omega)) hDb (by omega)
      have fall : frT0 s sc := frT0_t f (frT0_t fa.1 (frT0_t fb.1 (frY_T0 fc)))
      have q1 := hSc.1.2.2.2 rfl
      have q2 := (hSc.2.1 p hp).1
      simp only [Nat.mul_one] at q2
      have hwd := dyN_w (O := O0 (aT A) 0) hW hDb j
      have lel : ∀ y : Int32, (a < y) = ¬ (y ≤ a) := fun y => propext ⟨fun h => by rw [fa_le]; rw [fa_lt] at h; omega, fun h => by rw [fa_lt]; rw [fa_le] at h; omega⟩
      by_cases g : (dyN (aT A) (O0 (aT A) 0) j Sm).2.1 p ≤ a
      · rw [if_pos g] at hr
        refine ⟨(sc, c + 1, (dyN (aT A) (O0 (aT A) 0) j Sm).2.2.2.2), ?_, fall, q1, hwd.1, hr⟩
        simp (disch := first | omega | assumption | (simp only [wL_1, wL_22, wI_2, wA_2, wQ_1, wQ_21] <;> first | assumption | omega)) only [fX11_chance_59, fX11_chance_59b, fX11_chance_101, LIT, LITm, nI_add, n_mul, fa_or, n_31m, n_shl0, n_le, n_lt, n_eq, Option.bind_some, B_m hn, B_mz hn, B_mb hn, ea, ec, q2, lel, g, not_true_eq_false, show ¬ 10 ≤ i by omega, ↓reduceIte]
      · rw [if_neg g] at hr
        refine ⟨(sc, c, (dyN (aT A) (O0 (aT A) 0) j Sm).2.2.2.2), ?_, fall, q1, hwd.1, hr⟩
        simp (disch := first | omega | assumption | (simp only [wL_1, wL_22, wI_2, wA_2, wQ_1, wQ_21] <;> first | assumption | omega)) only [fX11_chance_59, fX11_chance_59b, fX11_chance_101, LIT, LITm, nI_add, n_mul, fa_or, n_31m, n_shl0, n_le, n_lt, n_eq, Option.bind_some, B_m hn, B_mz hn, B_mb hn, ea, ec, q2, lel, g, not_false_eq_true, show ¬ 10 ≤ i by omega, ↓reduceIte, Nat.add_zero]
    · intro k q hP
      obtain ⟨sy, c, m⟩ := q
      obtain ⟨f, hdm, hm, hr⟩ := hP
      simp only at f hdm hm hr ⊢
      refine ⟨wL (wI sy 187 69 (nI 0)) 187 68 v, ?_, ⟨frT0_t f (frT0_t (frT_w (a := 187) (j := 69) (x := nI 0) (by unfold scM; omega)).1 ⟨rfl, fun _ _ _ => rfl, fun a j h1 h2 h3 => by rw [wL_g, if_neg h3]⟩), by rw [wL_at, updL_at, hv]⟩⟩
      rw [hr]
      simp (disch := first | omega | assumption | (simp only [wL_1, wL_22, wI_2, wA_2, wQ_1, wQ_21] <;> first | assumption | omega)) only [fX11_chance_59, fX11_chance_59b, LIT, LITm, nI_add, n_mul, fa_or, n_31m, n_shl0, n_le, n_lt, n_eq, Option.bind_some, B_m hn, B_mz hn, Nat.le_refl, ↓reduceIte, Nat.sub_self, chcV]
  · refine ⟨wI s 187 2 (nI 0), ?_, ft⟩
    unfold fX11_chance
    by_cases hx : x < nI 0
    · simp (disch := first | omega | assumption | (simp only [wL_1, wL_22, wI_2, wA_2, wQ_1, wQ_21] <;> first | assumption | omega)) only [LIT, LITm, nI_add, n_mul, fa_or, n_31m, n_shl0, n_le, n_lt, n_eq, Option.bind_some, B_m hn, hx, ↓reduceIte]
    · by_cases hy : wiV 1 y 99 = true
      · by_cases hz : inR z (aT A 0 1) = true
        · have ha : ¬ wiV 0 a 999 = true := fun g => h ⟨hx, hy, hz, g⟩
          simp (disch := first | omega | assumption | (simp only [wL_1, wL_22, wI_2, wA_2, wQ_1, wQ_21] <;> first | assumption | omega)) only [LIT, LITm, nI_add, n_mul, fa_or, n_31m, n_shl0, n_le, n_lt, n_eq, Option.bind_some, B_m hn, hx, m_within, hy, m_isPath hn hTt, hz, bF ha, Bool.toNat_true, Bool.toNat_false, Nat.reduceEqDiff, Nat.reduceLeDiff, not_true_eq_false, ↓reduceIte]
        · simp (disch := first | omega | assumption | (simp only [wL_1, wL_22, wI_2, wA_2, wQ_1, wQ_21] <;> first | assumption | omega)) only [LIT, LITm, nI_add, n_mul, fa_or, n_31m, n_shl0, n_le, n_lt, n_eq, Option.bind_some, B_m hn, hx, m_within, hy, m_isPath hn hTt, bF hz, Bool.toNat_true, Bool.toNat_false, Nat.reduceEqDiff, Nat.reduceLeDiff, ↓reduceIte]
      · simp (disch := first | omega | assumption | (simp only [wL_1, wL_22, wI_2, wA_2, wQ_1, wQ_21] <;> first | assumption | omega)) only [LIT, LITm, nI_add, n_mul, fa_or, n_31m, n_shl0, n_le, n_lt, n_eq, Option.bind_some, B_m hn, hx, m_within, bF hy, Bool.toNat_false, ↓reduceIte]
end Ms
