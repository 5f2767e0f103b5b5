/-! ===== keep, back, walk, mow, carry by the reference ===== -/
section Mf
variable {n t o p w : Nat} {s : zS} {A : zA} {T : zT} {S : zD} {x y z : Int32}
theorem m_keep (hn : 239 ≤ n) (hK : mK s A) (hA : wfA A) : ∃ s' : zS, fX11_keep n (mk s) 187 = some ((aS A).1 0, mk s') ∧ frM s s' ∧ mK s' (wtI A (true, aS A)) := by
  have hW := hA.1
  have ft := m_th s
  have hKt := mK_T hW hK ft
  obtain ⟨sb, esb⟩ : ∃ sb : zS, sb = wI (wI s 187 2 (nI 0)) 187 91 (nI 1) := ⟨_, rfl⟩
  have bS : mSd sb 0 (aT A) O00 (aS A) := by
    rw [esb]
    exact mSd_0 (s := wI s 187 2 (nI 0)) (fun c h1 h2 => wI_ne (by omega)) rfl hKt.2.1
  obtain ⟨sc, ec, g1, g2, g3, g4⟩ := m_put (a := 237) (b := 0) (L := 36) hn hW bS (Or.inr rfl) (by omega) (by omega) (fun s j x hj => by simp (disch := first | omega | assumption | (simp only [wL_1, wL_22, wI_2, wA_2, wQ_1, wQ_21] <;> first | assumption | omega)) only [B_mc hn])
  obtain ⟨⟨d1, d2, d3, d4⟩, d5, d6⟩ := bS
  have c222 : sc.1 225 0 = (aS A).1 2 := by rw [g1 225 (by omega)]; exact d3 rfl
  have c223 : sc.1 226 0 = (aS A).1 0 := by rw [g1 226 (by omega)]; exact d1
  have c68 : sc.2.1 187 68 = lN (aS A).2.2.2.2 := by rw [g2]; exact d4 rfl
  obtain ⟨sd, esd⟩ : ∃ sd : zS, sd = wL (wI (wI sc 187 93 ((aS A).1 2)) 187 94 ((aS A).1 0)) 187 95 (lN (aS A).2.2.2.2) := ⟨_, rfl⟩
  have di : ∀ c, c ≠ 187 → c ≠ 237 → sd.1 c = s.1 c := by
    intro c h1 h2
    rw [esd]
    show (wI (wI sc 187 93 ((aS A).1 2)) 187 94 ((aS A).1 0)).1 c = _
    rw [wI_ne h1, wI_ne h1, g1 c h2, esb, wI_ne h1, wI_ne h1]
  have dj : ∀ j, j ≠ 2 → j ≠ 91 → j ≠ 93 → j ≠ 94 → sd.1 187 j = s.1 187 j := by
    intro j h1 h2 h3 h4
    rw [esd]
    show (wI (wI sc 187 93 ((aS A).1 2)) 187 94 ((aS A).1 0)).1 187 j = _
    rw [wI_at, upd_ne h4, wI_at, upd_ne h3, g1 187 (by omega), esb, wI_at, upd_ne h2, wI_at, upd_ne h1]
  have d234 : sd.1 237 = sc.1 237 := by
    rw [esd]
    show (wI (wI sc 187 93 ((aS A).1 2)) 187 94 ((aS A).1 0)).1 237 = sc.1 237
    rw [wI_ne (by omega), wI_ne (by omega)]
  have dl : ∀ a, a ≠ 187 → sd.2.1 a = s.2.1 a := by
    intro a ha
    rw [esd, wL_ne ha]
    show sc.2.1 a = _
    rw [g2, esb]
    rfl
  have dl2 : ∀ j, j ≠ 95 → sd.2.1 187 j = s.2.1 187 j := by
    intro j hj
    rw [esd, wL_at, updL_ne hj]
    show sc.2.1 187 j = _
    rw [g2, esb]
    rfl
  refine ⟨sd, ?_, ⟨?_, fun a ha => ⟨di a (by omega) (by omega), dl a (by omega)⟩⟩, ?_⟩
  · unfold fX11_keep
    have c222' : ∀ x : Int32, (wI sc 187 93 x).1 226 0 = (aS A).1 0 := fun x => by rw [wI_ne (by omega)]; exact c223
    have c223' : (wL (wI (wI sc 187 93 ((aS A).1 2)) 187 94 ((aS A).1 0)) 187 95 (lN (aS A).2.2.2.2)).1 226 0 = (aS A).1 0 := by
      show (wI (wI sc 187 93 ((aS A).1 2)) 187 94 ((aS A).1 0)).1 226 0 = _
      rw [wI_ne (by omega), wI_ne (by omega)]
      exact c223
    have cl : (wI (wI sc 187 93 ((aS A).1 2)) 187 94 ((aS A).1 0)).2.1 187 68 = lN (aS A).2.2.2.2 := c68
    rw [esb] at ec
    simp (disch := first | omega | assumption | (simp only [wL_1, wL_22, wI_2, wA_2, wQ_1, wQ_21] <;> first | assumption | omega)) only [LIT, LITm, nI_add, n_mul, fa_or, n_31m, n_shl0, n_le, n_lt, n_eq, Option.bind_some, B_m hn, B_mz hn, B_mb hn, B_mc hn, ec, c222, c222', cl, c223', esd]
  · rw [esd]
    show sc.2.2 = _
    rw [g2, esb]
    rfl
  · refine mK_ed hK rfl rfl rfl rfl (fun j h1 _ _ _ h5 h6 h7 => dj j h1 h5 h6 h7) (fun a ha => di a (by omega) (by omega)) (mSd_0 (fun c h1 h2 => di c (by omega) (by omega)) (dl2 68 (by omega)) hK.2.1) ⟨?_, fun _ => ⟨?_, ?_, ?_, ?_⟩⟩ ⟨?_, fun i hi => ?_⟩
    · show sd.1 187 91 = nI 1
      rw [esd]
      show (wI (wI sc 187 93 ((aS A).1 2)) 187 94 ((aS A).1 0)).1 187 91 = _
      rw [wI_at, upd_ne (by omega), wI_at, upd_ne (by omega), g1 187 (by omega), esb, wI_at, upd_at]
    · rw [d234]
      exact mRw_fr hW g4 (fun j hj => by rw [Nat.zero_add])
    · rw [esd]
      show (wI (wI sc 187 93 ((aS A).1 2)) 187 94 ((aS A).1 0)).1 187 93 = _
      rw [wI_at, upd_ne (by omega), wI_at, upd_at]
      rfl
    · rw [esd]
      show (wI (wI sc 187 93 ((aS A).1 2)) 187 94 ((aS A).1 0)).1 187 94 = _
      rw [wI_at, upd_at]
      rfl
    · rw [esd, wL_at, updL_at]
      rfl
    · rw [dj 89 (by omega) (by omega) (by omega) (by omega)]
      exact hK.2.2.2.1.1
    · exact mRw_fr hW (hK.2.2.2.1.2 i hi) (fun j hj => by rw [di 236 (by omega) (by omega)])
theorem m_back (hn : 239 ≤ n) (hK : mK s A) (hA : wfA A) : ((aI A).1 = true → ∃ s' : zS, fX11_back n (mk s) 187 = some ((aI A).2.1 0, mk s') ∧ frM s s' ∧ mK s' (wtP (wtS A (aI A).2) (0, (aP A).2))) ∧ ((aI A).1 = false → ∃ s' : zS, fX11_back n (mk s) 187 = some (m1, mk s') ∧ frT s s') := by
  have hW := hA.1
  have ft := m_th s
  have hKt := mK_T hW hK ft
  obtain ⟨q1, q2⟩ := hKt.2.2.1
  refine ⟨fun h => ?_, fun h => ?_⟩
  · rw [h] at q1
    obtain ⟨r1, r2, r3, r4⟩ := q2 h
    have r1' : mRw (fun j => (wI s 187 2 (nI 0)).1 237 (0 + j)) (aT A) (aI A).2 := mRw_fr hW r1 (fun j hj => by rw [Nat.zero_add])
    obtain ⟨sc, ec, g1, g2, g3, g4, g5⟩ := m_take (a := 237) (b := 0) (L := 36) hn hW r1' (Or.inr rfl) (by omega) (by omega) (fun s j hj => by simp (disch := first | omega | assumption | (simp only [wL_1, wL_22, wI_2, wA_2, wQ_1, wQ_21] <;> first | assumption | omega)) only [B_mc hn])
    have c93 : sc.1 187 93 = (aI A).2.1 2 := by rw [g2 187 (by omega)]; exact r2
    have c94 : sc.1 187 94 = (aI A).2.1 0 := by rw [g2 187 (by omega)]; exact r3
    have c95 : sc.2.1 187 95 = lN (aI A).2.2.2.2.2 := by rw [g1]; exact r4
    obtain ⟨sd, esd⟩ : ∃ sd : zS, sd = wI (wL (wI (wI sc 225 0 ((aI A).2.1 2)) 226 0 ((aI A).2.1 0)) 187 68 (lN (aI A).2.2.2.2.2)) 187 89 (nI 0) := ⟨_, rfl⟩
    have di : ∀ c, c ≠ 187 → c < 225 ∨ 226 < c → sd.1 c = sc.1 c := by
      intro c h1 h2
      rw [esd, wI_ne h1]
      show (wI (wI sc 225 0 ((aI A).2.1 2)) 226 0 ((aI A).2.1 0)).1 c = _
      rw [wI_ne (by omega), wI_ne (by omega)]
    have dj : ∀ j, j ≠ 89 → sd.1 187 j = (wI s 187 2 (nI 0)).1 187 j := by
      intro j hj
      rw [esd, wI_at, upd_ne hj]
      show (wI (wI sc 225 0 ((aI A).2.1 2)) 226 0 ((aI A).2.1 0)).1 187 j = (wI s 187 2 (nI 0)).1 187 j
      rw [wI_ne (by omega), wI_ne (by omega), g2 187 (by omega)]
    have d223 : sd.1 226 0 = (aI A).2.1 0 := by
      rw [esd, wI_ne (by omega)]
      show (wI (wI sc 225 0 ((aI A).2.1 2)) 226 0 ((aI A).2.1 0)).1 226 0 = _
      rw [wI_at, upd_at]
    have d222 : sd.1 225 0 = (aI A).2.1 2 := by
      rw [esd, wI_ne (by omega)]
      show (wI (wI sc 225 0 ((aI A).2.1 2)) 226 0 ((aI A).2.1 0)).1 225 0 = _
      rw [wI_ne (by omega), wI_at, upd_at]
    have dl : ∀ a, a ≠ 187 → sd.2.1 a = (wI s 187 2 (nI 0)).2.1 a := by
      intro a ha
      rw [esd]
      show (wL _ 187 68 _).2.1 a = _
      rw [wL_ne ha]
      show sc.2.1 a = _
      rw [g1]
    have dl2 : ∀ j, j ≠ 68 → sd.2.1 187 j = (wI s 187 2 (nI 0)).2.1 187 j := by
      intro j hj
      rw [esd]
      show (wL _ 187 68 _).2.1 187 j = _
      rw [wL_at, updL_ne hj]
      show sc.2.1 187 j = _
      rw [g1]
    refine ⟨sd, ?_, frM_t (frT_M ft) ⟨?_, fun a ha => ⟨by rw [di a (by omega) (by omega)]; exact g2 a (by omega), dl a (by omega)⟩⟩, ?_⟩
    · unfold fX11_back
      have e94 : ∀ x : Int32, (wI sc 225 0 x).1 187 94 = (aI A).2.1 0 := fun x => by rw [wI_ne (by omega)]; exact c94
      have e95 : ∀ x y : Int32, (wI (wI sc 225 0 x) 226 0 y).2.1 187 95 = lN (aI A).2.2.2.2.2 := fun x y => c95
      rw [esd] at d223
      simp (disch := first | omega | assumption | (simp only [wL_1, wL_22, wI_2, wA_2, wQ_1, wQ_21] <;> first | assumption | omega)) only [LIT, LITm, nI_add, n_mul, fa_or, n_31m, n_shl0, n_le, n_lt, n_eq, Option.bind_some, B_m hn, B_mb hn, B_mc hn, q1, ec, c93, e94, e95, d223, esd, Bool.toNat_true, Nat.reduceEqDiff, Nat.reduceLeDiff, not_false_eq_true, ↓reduceIte]
    · rw [esd]
      show sc.2.2 = _
      rw [g1]
    · refine mK_ed hKt rfl rfl rfl rfl (fun j _ _ _ h4 _ _ _ => dj j h4) (fun a ha => by rw [di a (by omega) (by omega)]; exact g2 a (by omega)) ⟨⟨d223, ?_, fun _ => d222, fun _ => ?_⟩, fun p hp => ?_, fun w hw => ?_⟩ ?_ ⟨?_, fun i hi => absurd hi (Nat.not_lt_zero i)⟩
      · rw [di 224 (by omega) (by omega)]; exact g3
      · rw [esd]
        show (wL _ 187 68 _).2.1 187 68 = _
        rw [wL_at, updL_at]
        rfl
      · rw [di 221 (by omega) (by omega), di 222 (by omega) (by omega), di 223 (by omega) (by omega)]
        simp only [Nat.mul_zero, Nat.zero_add]
        exact g4 p hp
      · rw [di 219 (by omega) (by omega), di 220 (by omega) (by omega)]
        simp only [Nat.mul_zero, Nat.zero_add]
        exact g5 w hw
      · show mIm sd (aT A) (aI A)
        unfold mIm
        rw [dj 91 (by omega), dj 93 (by omega), dj 94 (by omega), di 237 (by omega) (by omega), g2 237 (by omega), dl2 95 (by omega)]
        exact hKt.2.2.1
      · rw [esd, wI_at, upd_at]
        rfl
  · refine ⟨wI s 187 2 (nI 0), ?_, ft⟩
    rw [h] at q1
    unfold fX11_back
    simp (disch := first | omega | assumption | (simp only [wL_1, wL_22, wI_2, wA_2, wQ_1, wQ_21] <;> first | assumption | omega)) only [LIT, LITm, nI_add, n_mul, fa_or, n_31m, n_shl0, n_le, n_lt, n_eq, Option.bind_some, B_m hn, q1, Bool.toNat_false, not_true_eq_false, ↓reduceIte]
theorem m_carry (hn : 239 ≤ n) (hK : mK s A) (hA : wfA A) : (carOk A x y → ∃ s' : zS, fX11_carry n (mk s) 187 x y = some (nI 1, mk s') ∧ frM s s' ∧ mK s' (donV A (crV (aS A) x.toNatClampNeg y.toNatClampNeg))) ∧ (¬ carOk A x y → ∃ s' : zS, fX11_carry n (mk s) 187 x y = some (nI 0, mk s') ∧ frT s s') := by
  have hW := hA.1
  have h0 := hW.1
  have ft := m_th s
  have hKt := mK_T hW hK ft
  have hT := hKt.1
  unfold fX11_carry carOk
  refine ⟨fun h => ?_, fun h => ?_⟩
  · obtain ⟨hx, hy, hne⟩ := h
    obtain ⟨w, hw, rfl⟩ := inR_t (by omega) hx
    obtain ⟨p, hp, rfl⟩ := inR_t (by omega) hy
    rw [cl_n (by omega), cl_n (by omega)] at hne ⊢
    have a2 := hA.2.1.2.2.1 w hw
    have q := (hKt.2.1.2.2 w hw).1
    simp only [Nat.mul_zero, Nat.zero_add] at q
    obtain ⟨sa, ea, fa, ka⟩ := m_remember hn hKt hA
    refine ⟨wI sa 219 w (nI p), ?_, frM_t (frT_M ft) (frM_t (frU_M fa) ⟨rfl, fun a ha => ⟨wI_ne (by omega), rfl⟩⟩), mK_nw ka (fun a j h1 h2 => by rw [wI_g, if_neg (fun e => h1 (by unfold hfM; omega))]) (fun _ _ => rfl) ?_⟩
    · simp (disch := first | omega | assumption | (simp only [wL_1, wL_22, wI_2, wA_2, wQ_1, wQ_21] <;> first | assumption | omega)) only [LIT, LITm, nI_add, n_mul, fa_or, n_31m, n_shl0, n_le, n_lt, n_eq, Option.bind_some, B_m hn, B_mb hn, m_isWalker hn hT, hx, m_isPlace hn hT, hy, q, hne, ea, Bool.toNat_true, Nat.reduceEqDiff, Nat.reduceLeDiff, not_false_eq_true, ↓reduceIte]
    · obtain ⟨⟨s1, s2, s3, s4⟩, s5, s6⟩ := ka.2.1
      refine ⟨⟨?_, ?_, fun g => ?_, s4⟩, fun q hq => ?_, fun v hv => ⟨?_, ?_⟩⟩
      · rw [wI_ne (by omega)]; exact s1
      · rw [wI_ne (by omega)]; exact s2
      · rw [wI_ne (by omega)]; exact s3 g
      · rw [wI_ne (by omega), wI_ne (by omega), wI_ne (by omega)]; exact s5 q hq
      · have := (s6 v hv).1
        simp only [Nat.mul_zero, Nat.zero_add] at this ⊢
        rw [wI_at]
        by_cases e : v = w
        · subst e
          rw [upd_at]
          simp only [crV, up2_g, and_self, ↓reduceIte]
        · rw [upd_ne e]
          simp only [crV, up2_g, e, and_false, ↓reduceIte]
          exact this
      · have := (s6 v hv).2
        rw [wI_ne (by omega)]
        simp only [crV, up2_g, Nat.reduceEqDiff, Nat.reduceLeDiff, false_and, ↓reduceIte]
        exact this
  · refine ⟨wI s 187 2 (nI 0), ?_, ft⟩
    by_cases hx : inR x (aT A 0 2) = true
    · by_cases hy : inR y (aT A 0 0) = true
      · obtain ⟨w, hw, rfl⟩ := inR_t (by omega) hx
        obtain ⟨p, hp, rfl⟩ := inR_t (by omega) hy
        rw [cl_n (by omega), cl_n (by omega)] at h
        have he : (aS A).2.2.1 0 w = p := Classical.byContradiction fun g => h ⟨hx, hy, g⟩
        have q := (hKt.2.1.2.2 w hw).1
        simp only [Nat.mul_zero, Nat.zero_add] at q
        rw [he] at q
        simp (disch := first | omega | assumption | (simp only [wL_1, wL_22, wI_2, wA_2, wQ_1, wQ_21] <;> first | assumption | omega)) only [LIT, LITm, nI_add, n_mul, fa_or, n_31m, n_shl0, n_le, n_lt, n_eq, Option.bind_some, B_m hn, B_mb hn, m_isWalker hn hT, hx, m_isPlace hn hT, hy, q, Bool.toNat_true, Nat.reduceEqDiff, Nat.reduceLeDiff, not_true_eq_false, ↓reduceIte]
      · simp (disch := first | omega | assumption | (simp only [wL_1, wL_22, wI_2, wA_2, wQ_1, wQ_21] <;> first | assumption | omega)) only [LIT, LITm, nI_add, n_mul, fa_or, n_31m, n_shl0, n_le, n_lt, n_eq, Option.bind_some, B_m hn, m_isWalker hn hT, hx, m_isPlace hn hT, bF hy, Bool.toNat_true, Bool.toNat_false, Nat.reduceEqDiff, Nat.reduceLeDiff, ↓reduceIte]
    · simp (disch := first | omega | assumption | (simp only [wL_1, wL_22, wI_2, wA_2, wQ_1, wQ_21] <;> first | assumption | omega)) only [LIT, LITm, nI_add, n_mul, fa_or, n_31m, n_shl0, n_le, n_lt, n_eq, Option.bind_some, B_m hn, m_isWalker hn hT, bF hx, Bool.toNat_false, ↓reduceIte]
theorem m_mow (hn : 239 ≤ n) (hK : mK s A) (hA : wfA A) : (mowOk A x → ∃ s' : zS, fX11_mow n (mk s) 187 x = some (nI 1, mk s') ∧ frM s s' ∧ mK s' (donV A (mwV (aS A) x.toNatClampNeg))) ∧ (¬ mowOk A x → ∃ s' : zS, fX11_mow n (mk s) 187 x = some (nI 0, mk s') ∧ frT s s') := by
  have hW := hA.1
  have h0 := hW.1
  have ft := m_th s
  have hKt := mK_T hW hK ft
  have hT := hKt.1
  unfold mowOk
  refine ⟨fun h => ?_, fun h => ?_⟩
  · obtain ⟨hx, hne⟩ := h
    obtain ⟨p, hp, rfl⟩ := inR_t (by omega) hx
    rw [cl_n (by omega)] at hne ⊢
    have hp9 : p < 9 := by omega
    obtain ⟨q1, q2, q3⟩ := hKt.2.1.2.1 p hp
    simp only [Nat.mul_zero, Nat.zero_add] at q1 q2 q3
    obtain ⟨sa, ea, fa, ka⟩ := m_remember hn hKt hA
    have hm : fX11_mow_33 n (mk (wI s 187 2 (nI 0))) 187 (nI p) = some (nI 1, mk (wI (wI sa 222 p (nI 1)) 221 p (nI 0))) := by
      unfold fX11_mow_33
      simp (disch := first | omega | assumption | (simp only [wL_1, wL_22, wI_2, wA_2, wQ_1, wQ_21] <;> first | assumption | omega)) only [LIT, LITm, nI_add, n_mul, fa_or, n_31m, n_shl0, n_le, n_lt, n_eq, Option.bind_some, B_m hn, B_mb hn, ea, nar_b]
    refine ⟨wI (wI sa 222 p (nI 1)) 221 p (nI 0), ?_, frM_t (frT_M ft) (frM_t (frU_M fa) ⟨rfl, fun a ha => ⟨by rw [wI_ne (by omega), wI_ne (by omega)], rfl⟩⟩), mK_nw ka (fun a j h1 h2 => by rw [wI_g, if_neg (fun e => h1 (by unfold hfM; omega)), wI_g, if_neg (fun e => h1 (by unfold hfM; omega))]) (fun _ _ => rfl) ?_⟩
    · unfold fX11_mow
      cases g : (aS A).2.2.2.1.testBit p with
      | false =>
        rw [g] at q2
        simp (disch := first | omega | assumption | (simp only [wL_1, wL_22, wI_2, wA_2, wQ_1, wQ_21] <;> first | assumption | omega)) only [LIT, LITm, nI_add, n_mul, fa_or, n_31m, n_shl0, n_le, n_lt, n_eq, Option.bind_some, B_m hn, B_mb hn, m_isPath hn hT, hx, q2, hm, Bool.toNat_true, Bool.toNat_false, Nat.reduceEqDiff, Nat.reduceLeDiff, ↓reduceIte]
      | true =>
        rw [g] at q2
        have ha : ¬ (aS A).2.1 p = nI 0 := fun e => hne ⟨g, e⟩
        simp (disch := first | omega | assumption | (simp only [wL_1, wL_22, wI_2, wA_2, wQ_1, wQ_21] <;> first | assumption | omega)) only [LIT, LITm, nI_add, n_mul, fa_or, n_31m, n_shl0, n_le, n_lt, n_eq, Option.bind_some, B_m hn, B_mb hn, m_isPath hn hT, hx, q2, q1, ha, hm, Bool.toNat_true, Nat.reduceEqDiff, Nat.reduceLeDiff, not_false_eq_true, ↓reduceIte]
    · obtain ⟨⟨s1, s2, s3, s4⟩, s5, s6⟩ := ka.2.1
      refine ⟨⟨?_, ?_, fun g => ?_, s4⟩, fun q hq => ?_, fun v hv => ?_⟩
      · rw [wI_ne (by omega), wI_ne (by omega)]; exact s1
      · rw [wI_ne (by omega), wI_ne (by omega)]; exact s2
      · rw [wI_ne (by omega), wI_ne (by omega)]; exact s3 g
      · have := s5 q hq
        simp only [Nat.mul_zero, Nat.zero_add] at this ⊢
        simp (disch := omega) only [wI_ne, wI_at]
        by_cases e : q = p
        · subst e
          simp only [upd_at, mwV]
          refine ⟨rfl, ?_, this.2.2⟩
          rw [fb_bit_set, decide_eq_true rfl, Bool.or_true]
          rfl
        · simp only [upd_ne e, mwV]
          refine ⟨this.1, ?_, this.2.2⟩
          rw [fb_bit_set, decide_eq_false e, Bool.or_false]
          exact this.2.1
      · have := s6 v hv
        simp (disch := omega) only [wI_ne]
        exact this
  · refine ⟨wI s 187 2 (nI 0), ?_, ft⟩
    unfold fX11_mow
    by_cases hx : inR x (aT A 0 1) = true
    · obtain ⟨p, hp, rfl⟩ := inR_t (by omega) hx
      rw [cl_n (by omega)] at h
      have hp9 : p < 9 := by omega
      obtain ⟨g, ha⟩ : (aS A).2.2.2.1.testBit p = true ∧ (aS A).2.1 p = nI 0 := Classical.byContradiction fun g => h ⟨hx, g⟩
      obtain ⟨q1, q2, q3⟩ := hKt.2.1.2.1 p hp
      simp only [Nat.mul_zero, Nat.zero_add] at q1 q2 q3
      rw [ha] at q1
      rw [g] at q2
      simp (disch := first | omega | assumption | (simp only [wL_1, wL_22, wI_2, wA_2, wQ_1, wQ_21] <;> first | assumption | omega)) only [LIT, LITm, nI_add, n_mul, fa_or, n_31m, n_shl0, n_le, n_lt, n_eq, Option.bind_some, B_m hn, B_mb hn, m_isPath hn hT, hx, q2, q1, Bool.toNat_true, Nat.reduceEqDiff, Nat.reduceLeDiff, not_true_eq_false, ↓reduceIte]
    · simp (disch := first | omega | assumption | (simp only [wL_1, wL_22, wI_2, wA_2, wQ_1, wQ_21] <;> first | assumption | omega)) only [LIT, LITm, nI_add, n_mul, fa_or, n_31m, n_shl0, n_le, n_lt, n_eq, Option.bind_some, B_m hn, m_isPath hn hT, bF hx, Bool.toNat_false, ↓reduceIte]
theorem m_walkX (hn : 239 ≤ n) (hK : mK s A) (hA : wfA A) (h : ¬ (inR x (aT A 0 2) = true ∧ inR y (aT A 0 1) = true)) : ∃ s' : zS, fX11_walk n (mk s) 187 x y = some (m1, mk s') ∧ frT s s' := by
  have ft := m_th s
  have hT := mTd_T ft.1 hK.1
  refine ⟨wI s 187 2 (nI 0), ?_, ft⟩
  unfold fX11_walk
  by_cases hx : inR x (aT A 0 2) = true
  · have hy : ¬ inR y (aT A 0 1) = true := fun g => h ⟨hx, g⟩
    simp (disch := first | omega | assumption | (simp only [wL_1, wL_22, wI_2, wA_2, wQ_1, wQ_21] <;> first | assumption | omega)) only [LIT, LITm, nI_add, n_mul, fa_or, n_31m, n_shl0, n_le, n_lt, n_eq, Option.bind_some, B_m hn, m_isWalker hn hT, hx, m_isPath hn hT, bF hy, Bool.toNat_true, Bool.toNat_false, Nat.reduceEqDiff, Nat.reduceLeDiff, not_true_eq_false, ↓reduceIte]
  · simp (disch := first | omega | assumption | (simp only [wL_1, wL_22, wI_2, wA_2, wQ_1, wQ_21] <;> first | assumption | omega)) only [LIT, LITm, nI_add, n_mul, fa_or, n_31m, n_shl0, n_le, n_lt, n_eq, Option.bind_some, B_m hn, m_isWalker hn hT, bF hx, Bool.toNat_false, ↓reduceIte]
theorem m_walk (hn : 239 ≤ n) (hK : mK s A) (hA : wfA A) (hw : w < aT A 0 2) (hp : p < aT A 0 1) : (canV (aT A) (O0 (aT A) 0) (aS A) w p = none → ∃ s' : zS, fX11_walk n (mk s) 187 (nI w) (nI p) = some (m2, mk s') ∧ frT s s') ∧ (∀ c, canV (aT A) (O0 (aT A) 0) (aS A) w p = some c → ∃ s' : zS, fX11_walk n (mk s) 187 (nI w) (nI p) = some (nI ((aS A).2.2.1 1 w - c), mk s') ∧ frM s s' ∧ mK s' (donV A (goV (aT A) (aS A) w p c))) := by
  have hW := hA.1
  have h0 := hW.1
  have ft := m_th s
  have hT := mTd_T ft.1 hK.1
  have hx := inR_n hw (by omega)
  have hy := inR_n hp (by omega)
  obtain ⟨sa, ea, fa, ga, ca, oa, pl⟩ := m_plain (T := aT A) (s := wI s 187 2 (nI 0)) hn hW
  have fta := frT_t ft fa
  have hKa := mK_T hW hK fta
  obtain ⟨sb, eb, fb⟩ := m_can hn hW hKa.1 oa (mSd_O hKa.2.1) (O0_w hW (by omega)) hA.2.1 (by omega) hp hw
  have ec : canV (aT A) (O0 (aT A) 1) (aS A) w p = canV (aT A) (O0 (aT A) 0) (aS A) w p := rfl
  rw [ec] at eb
  have ftb := frT_t fta (frQ_T fb)
  have hKb := mK_T hW hK ftb
  refine ⟨fun h => ?_, fun c h => ?_⟩
  · rw [h] at eb
    refine ⟨sb, ?_, ftb⟩
    unfold fX11_walk
    simp (disch := first | omega | assumption | (simp only [wL_1, wL_22, wI_2, wA_2, wQ_1, wQ_21] <;> first | assumption | omega)) only [LIT, LITm, nI_add, n_mul, fa_or, n_31m, n_shl0, n_le, n_lt, n_eq, Option.bind_some, B_m hn, m_isWalker hn hT, hx, m_isPath hn hT, hy, ea, eb, Option.isSome_none, Bool.toNat_true, Bool.toNat_false, Nat.reduceEqDiff, Nat.reduceLeDiff, not_true_eq_false, not_false_eq_true, ↓reduceIte]
  · rw [h] at eb
    obtain ⟨sc, ec2, fc, kc⟩ := m_remember hn hKb hA
    have oc : mOd sc.1 (aT A) (O0 (aT A) 1) := mOd_fr oa (fun j h1 h2 => by rw [fc.2.2 j (by omega), fb.2.1 187 j (by omega)])
    obtain ⟨sd, ed, fd, hSd⟩ := m_goes hn hW kc.1 oc (mSd_O (O := O0 (aT A) 1) kc.2.1) (O0_w hW (by omega)) hA.2.1 (by omega) hp hw (c := c) h
    have hw4 : w < 4 := by omega
    have q := (hSd.2.2 w hw).2
    simp only [Nat.mul_zero, Nat.zero_add] at q
    have eg : (goV (aT A) (aS A) w p c).2.2.1 1 w = (aS A).2.2.1 1 w - c := by simp [goV, up2_g]
    have eg' : (goV (aT A) (aS (wtP A (pushP (aP A) (aS A)))) w p c).2.2.1 1 w = (aS A).2.2.1 1 w - c := eg
    rw [eg'] at q
    have h68 : sd.2.1 187 68 = lN (aS A).2.2.2.2 := by
      rw [fd.2.2.2 (by unfold O0; simp)]
      exact kc.2.1.1.2.2.2 rfl
    refine ⟨sd, ?_, frM_t (frT_M ftb) (frM_t (frU_M fc) (frY_M fd)), mK_nw kc (fun a j h1 h2 => fd.2.1 a j h1 (fun g => h2 (Or.inr (Or.inl ⟨g.1, Or.inr (Or.inl g.2)⟩)))) (fun j hj => fd.2.2.1 187 j (by omega) (by omega) (by omega)) ⟨⟨hSd.1.1, hSd.1.2.1, fun _ => hSd.1.2.2.1 rfl, fun _ => h68⟩, hSd.2⟩⟩
    unfold fX11_walk
    simp (disch := first | omega | assumption | (simp only [wL_1, wL_22, wI_2, wA_2, wQ_1, wQ_21] <;> first | assumption | omega)) only [LIT, LITm, nI_add, n_mul, fa_or, n_31m, n_shl0, n_le, n_lt, n_eq, Option.bind_some, B_m hn, B_mb hn, m_isWalker hn hT, hx, m_isPath hn hT, hy, ea, eb, ec2, ed, q, Option.isSome_some, Bool.toNat_true, Nat.reduceEqDiff, Nat.reduceLeDiff, not_false_eq_true, ↓reduceIte]
end Mf
