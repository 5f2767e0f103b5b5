/-! ===== the text's tokens: the reference, the next one ===== -/
section Mx3
variable {n N i j e k v kd pl : Nat} {s : zS} {B D : Nat → Nat}
theorem m_word (hn : 239 ≤ n) (hT : mtT s B N) (hi : s.1 187 7 = nI i) (hN : i ≤ N) (h10 : s.1 187 10 = nI i) : ∃ s' : zS, fX11_token_90 n bi_K (mk s) 187 = some ((), mk s') ∧ frR s s' ∧ mTk s' (wdK B i (rnV (fun x => ltB (B x)) N i), pkV B i (rnV (fun x => ltB (B x)) N i), i, rnV (fun x => ltB (B x)) N i) := by
  have N7 := hT.2.1
  obtain ⟨e, ee⟩ : ∃ e, e = rnV (fun x => ltB (B x)) N i := ⟨_, rfl⟩
  have rp := rn_p (f := fun x => ltB (B x)) (N := N) (i := i)
  rw [← ee] at rp ⊢
  have eN := rp.2.1 hN
  have hl : ∀ j, i ≤ j → j < e → ltB (B j) = true := fun x h1 h2 => (rp.2.2.1 x h1 h2).2
  refine lp_up (F := fun f (s1 : zS) k => fX11_token_90 n f (mk s1) 187) (N := e - i) (P := fun k s1 => frR s s1 ∧ s1.1 187 10 = nI i ∧ s1.1 187 7 = nI (i + k)) (Q := fun r => ∃ s' : zS, r = some ((), mk s') ∧ frR s s' ∧ mTk s' (wdK B i e, pkV B i e, i, e)) ?_ ?_ (e - i) bi_K s 0 (by omega) (by unfold bi_K; omega) ⟨frR_r, h10, hi⟩
  · rintro f s1 k hk ⟨g1, g2, g3⟩
    left
    have hT1 := mtT_R hT g1
    have q := rp.2.2.1 (i + k) (by omega) (by omega)
    have sm := m_small hn hT1 (show i + k ≤ N by omega)
    rw [decide_eq_true q] at sm
    refine ⟨wI s1 187 7 (nI (i + k + 1)), ?_, frR_t g1 (frR_w (by omega)), ?_, ?_⟩
    · show fX11_token_90b n (fX11_token_90 n f) (mk s1) 187 = _
      unfold fX11_token_90b
      simp (disch := first | omega | assumption | (simp only [wL_1, wL_22, wI_2, wA_2, wQ_1, wQ_21] <;> first | assumption | omega)) only [LIT, LITm, nI_add, n_mul, fa_or, n_31m, n_shl0, n_le, n_lt, n_eq, Option.bind_some, B_m hn, g3, sm, Bool.toNat_true, Nat.reduceEqDiff, Nat.reduceLeDiff, ↓reduceIte]
    · rw [wI_at, upd_ne (by omega)]; exact g2
    · rw [wI_at, upd_at]; rfl
  · rintro f s1 ⟨g1, g2, g3⟩
    rw [show i + (e - i) = e by omega] at g3
    have hT1 := mtT_R hT g1
    have sm := m_small hn hT1 eN
    rw [decide_eq_false rp.2.2.2] at sm
    obtain ⟨o, o1, o2, o3⟩ := m_wordAt hn hT1 rp.1 eN
    obtain ⟨r1, r2⟩ := wdK_ref rp.1 hl
    have pkl := pkV_lt hl
    obtain ⟨s2, es2⟩ : ∃ s2 : zS, s2 = wI s1 187 9 (oV o) := ⟨_, rfl⟩
    have f2 : frR s s2 := frR_t g1 (by rw [es2]; exact frR_w (by omega))
    have a9 : s2.1 187 9 = oV o := by rw [es2, wI_at, upd_at]
    have a7 : s2.1 187 7 = nI e := by rw [es2, wI_at, upd_ne (by omega)]; exact g3
    have a10 : s2.1 187 10 = nI i := by rw [es2, wI_at, upd_ne (by omega)]; exact g2
    have w9 : sF n (mk s1) 187 11 9 .int (.int (oV o)) = some (mk s2) := by rw [es2]; simp only [B_m hn]
    show ∃ s', fX11_token_90b n (fX11_token_90 n f) (mk s1) 187 = _ ∧ _
    unfold fX11_token_90b
    rw [bnd_s (v := nI e) (by simp only [B_m hn, g3]), bnd_s sm]
    cases o with
    | some k =>
      obtain ⟨k1, k2⟩ := o2 k rfl
      have wk := r1 k k1 k2
      have sk := sw_lt k1
      have nlt : (nI k < nI 0) = False := n_lt0 (by omega)
      have o3' : fX11_wordAt n (mk s1) 187 (nI i) (nI e) = some (nI k, mk s1) := o3
      have w9' : sF n (mk s1) 187 11 9 .int (.int (nI k)) = some (mk s2) := w9
      have a9' : s2.1 187 9 = nI k := a9
      refine ⟨wI s2 187 8 (nI 1), ?_, frR_t f2 (frR_w (by omega)), ?_, ?_, ?_⟩
      · unfold fX11_token_162
        rw [bnd_s (v := nI i) (by simp only [B_m hn, g2])]
        simp (disch := first | omega | assumption | (simp only [wL_1, wL_22, wI_2, wA_2, wQ_1, wQ_21] <;> first | assumption | omega)) only [LIT, LITm, n_le, n_lt, n_eq, Option.bind_some, Bool.toNat_false, B_m hn, g2, g3, o3', w9', a9', nlt, if_false, ↓reduceIte]
        rw [es2]
        simp (disch := first | omega | assumption | (simp only [wL_1, wL_22, wI_2, wA_2, wQ_1, wQ_21] <;> first | assumption | omega)) only [LIT, LITm, n_le, n_lt, n_eq, Option.bind_some, B_m hn, wI_at, upd_at, upd_ne, oV, nlt, if_false, Nat.reduceEqDiff, Nat.reduceLeDiff, not_false_eq_true, ↓reduceIte]
      · show tkR _ _ (wdK B i e) (pkV B i e)
        rw [wI_at, upd_at, upd_ne (by omega), wk]
        exact Or.inr (Or.inl ⟨sk.1, rfl, by rw [a9', sk.2]⟩)
      · rw [wI_at, upd_ne (by omega)]; exact a10
      · rw [wI_at, upd_ne (by omega)]; exact a7
    | none =>
      have wk := r2 (o1 rfl)
      have o3' : fX11_wordAt n (mk s1) 187 (nI i) (nI e) = some (m1, mk s1) := o3
      have w9' : sF n (mk s1) 187 11 9 .int (.int m1) = some (mk s2) := w9
      have a9' : s2.1 187 9 = m1 := a9
      have sub' : nI e - nI i = nI (e - i) := n_sub rp.1
      by_cases q6 : e - i ≤ 6
      · rw [if_neg (by omega)] at wk
        obtain ⟨s3, es3⟩ : ∃ s3 : zS, s3 = wI s2 187 8 (nI 2) := ⟨_, rfl⟩
        have f3 : frR s s3 := frR_t f2 (by rw [es3]; exact frR_w (by omega))
        have hT3 := mtT_R hT f3
        have pk := m_packed hn hT3 rp.1 eN hl
        have b8 : s3.1 187 8 = nI 2 := by rw [es3, wI_at, upd_at]
        have b7 : s3.1 187 7 = nI e := by rw [es3, wI_at, upd_ne (by omega)]; exact a7
        have b10 : s3.1 187 10 = nI i := by rw [es3, wI_at, upd_ne (by omega)]; exact a10
        refine ⟨wI s3 187 9 (nI (pkV B i e)), ?_, frR_t f3 (frR_w (by omega)), ?_, ?_, ?_⟩
        · unfold fX11_token_162
          have g9 : pI n (mk s2) 187 11 9 = some m1 := by simp only [B_m hn, a9']
          have g7 : pI n (mk s2) 187 11 7 = some (nI e) := by simp only [B_m hn, a7]
          have g10 : pI n (mk s2) 187 11 10 = some (nI i) := by simp only [B_m hn, a10]
          have w8 : sF n (mk s2) 187 11 8 .int (.int (nI 2)) = some (mk s3) := by rw [es3]; simp only [B_m hn]
          have h8 : pI n (mk s3) 187 11 8 = some (nI 2) := by simp only [B_m hn, b8]
          have h7 : pI n (mk s3) 187 11 7 = some (nI e) := by simp only [B_m hn, b7]
          have h10' : pI n (mk s3) 187 11 10 = some (nI i) := by simp only [B_m hn, b10]
          have u10 : pI n (mk s1) 187 11 10 = some (nI i) := by simp only [B_m hn, g2]
          have u7 : pI n (mk s1) 187 11 7 = some (nI e) := by simp only [B_m hn, g3]
          have wz : sF n (mk s3) 187 11 9 .int (.int (nI (pkV B i e))) = some (mk (wI s3 187 9 (nI (pkV B i e)))) := by simp only [B_m hn]
          simp (disch := first | omega | assumption | (simp only [wL_1, wL_22, wI_2, wA_2, wQ_1, wQ_21] <;> first | assumption | omega)) only [LIT, LITm, n_le, n_lt, n_eq, Option.bind_some, Bool.toNat_false, u10, u7, o3', w9', g9, n_m1lt, g7, g10, sub', q6, w8, h8, h7, h10', pk, wz, if_true, not_true_eq_false, ↓reduceIte]
        · show tkR _ _ (wdK B i e) (pkV B i e)
          rw [wI_at, upd_ne (by omega), upd_at, wk, b8]
          exact Or.inr (Or.inr (Or.inl ⟨rfl, rfl, rfl⟩))
        · rw [wI_at, upd_ne (by omega)]; exact b10
        · rw [wI_at, upd_ne (by omega)]; exact b7
      · rw [if_pos (by omega)] at wk
        refine ⟨wI s2 187 8 (nI 6), ?_, frR_t f2 (frR_w (by omega)), ?_, ?_, ?_⟩
        · unfold fX11_token_162
          have g9 : pI n (mk s2) 187 11 9 = some m1 := by simp only [B_m hn, a9']
          have g7 : pI n (mk s2) 187 11 7 = some (nI e) := by simp only [B_m hn, a7]
          have g10 : pI n (mk s2) 187 11 10 = some (nI i) := by simp only [B_m hn, a10]
          have w8 : sF n (mk s2) 187 11 8 .int (.int (nI 6)) = some (mk (wI s2 187 8 (nI 6))) := by simp only [B_m hn]
          have h8 : pI n (mk (wI s2 187 8 (nI 6))) 187 11 8 = some (nI 6) := by simp only [B_m hn, wI_at, upd_at]
          have u10 : pI n (mk s1) 187 11 10 = some (nI i) := by simp only [B_m hn, g2]
          have u7 : pI n (mk s1) 187 11 7 = some (nI e) := by simp only [B_m hn, g3]
          simp (disch := first | omega | assumption | (simp only [wL_1, wL_22, wI_2, wA_2, wQ_1, wQ_21] <;> first | assumption | omega)) only [LIT, LITm, n_le, n_lt, n_eq, Option.bind_some, Bool.toNat_false, u10, u7, o3', w9', g9, n_m1lt, g7, g10, sub', q6, w8, h8, Nat.reduceEqDiff, Nat.reduceLeDiff, if_true, not_false_eq_true, ↓reduceIte]
        · show tkR _ _ (wdK B i e) (pkV B i e)
          rw [wI_at, upd_at, wk]
          exact Or.inr (Or.inr (Or.inr (Or.inr (Or.inr (Or.inr ⟨rfl, Or.inl rfl⟩)))))
        · rw [wI_at, upd_ne (by omega)]; exact a10
        · rw [wI_at, upd_ne (by omega)]; exact a7
theorem m_digits (hn : 239 ≤ n) (hT : mtT s B N) (hi : s.1 187 7 = nI i) (hN : i ≤ N) (h10 : s.1 187 10 = nI i) (h8 : s.1 187 8 = nI 3) (h9 : s.1 187 9 = nI 0) : ∃ s' : zS, fX11_token_213 n bi_K (mk s) 187 = some ((), mk s') ∧ frR s s' ∧ mTk s' (23, dvA B i (rnV (fun x => dtB (B x)) N i - i), i, rnV (fun x => dtB (B x)) N i) := by
  have N7 := hT.2.1
  obtain ⟨e, ee⟩ : ∃ e, e = rnV (fun x => dtB (B x)) N i := ⟨_, rfl⟩
  have rp := rn_p (f := fun x => dtB (B x)) (N := N) (i := i)
  rw [← ee] at rp ⊢
  have eN := rp.2.1 hN
  have n48 : (48 : Int32) = nI 48 := rfl
  have n99 : (99999 : Int32) = nI 99999 := rfl
  refine lp_up (F := fun f (s1 : zS) k => fX11_token_213 n f (mk s1) 187) (N := e - i) (P := fun k s1 => frR s s1 ∧ s1.1 187 10 = nI i ∧ s1.1 187 8 = nI 3 ∧ s1.1 187 7 = nI (i + k) ∧ s1.1 187 9 = nI (dvA B i k)) (Q := fun r => ∃ s' : zS, r = some ((), mk s') ∧ frR s s' ∧ mTk s' (23, dvA B i (e - i), i, e)) ?_ ?_ (e - i) bi_K s 0 (by omega) (by unfold bi_K; omega) ⟨frR_r, h10, h8, hi, h9⟩
  · rintro f s1 k hk ⟨g1, g2, g8, g3, g9⟩
    left
    have hT1 := mtT_R hT g1
    have q := rp.2.2.1 (i + k) (by omega) (by omega)
    have ql := of_decide_eq_true q.2
    have sm := m_digitB hn hT1 (show i + k ≤ N by omega)
    rw [decide_eq_true q] at sm
    have bv := hT1.2.2.1 (i + k) q.1
    have dl := dvA_le (B := B) (i := i) (k := k) (fun x h1 h2 => (rp.2.2.1 x h1 (by omega)).2)
    have un : dvA B i (k + 1) = if dvA B i k < 100000 then dvA B i k * 10 + (B (i + k) - 48) else dvA B i k := rfl
    refine ⟨wI (wI s1 187 9 (nI (dvA B i (k + 1)))) 187 7 (nI (i + k + 1)), ?_, frR_t g1 (frR_t (frR_w (by omega)) (frR_w (by omega))), ?_, ?_, ?_, ?_⟩
    · show fX11_token_213b n (fX11_token_213 n f) (mk s1) 187 = _
      unfold fX11_token_213b fX11_token_261
      rw [n99, n48, un]
      by_cases c : dvA B i k < 100000
      · rw [if_pos c]
        have sub' : nI 10 * nI (dvA B i k) + nI (B (i + k)) - nI 48 = nI (dvA B i k * 10 + (B (i + k) - 48)) := by
          rw [n_mul, nI_add, n_sub (by omega)]
          congr 1
          omega
        rw [show (10 : Int32) = nI 10 from rfl]
        simp (disch := first | omega | assumption | (simp only [wL_1, wL_22, wI_2, wA_2, wQ_1, wQ_21] <;> first | assumption | omega)) only [LIT, LITm, nI_add, n_le, n_lt, n_eq, Option.bind_some, B_m hn, B_ma hn, g3, g9, sm, bv, Bool.toNat_true, Nat.reduceEqDiff, Nat.reduceLeDiff, wI_at, upd_ne, show dvA B i k ≤ 99999 by omega, ↓reduceIte]
        rw [sub']
      · rw [if_neg c]
        simp (disch := first | omega | assumption | (simp only [wL_1, wL_22, wI_2, wA_2, wQ_1, wQ_21] <;> first | assumption | omega)) only [LIT, LITm, nI_add, n_le, n_lt, n_eq, Option.bind_some, B_m hn, g3, g9, sm, Bool.toNat_true, Nat.reduceEqDiff, Nat.reduceLeDiff, wI_at, upd_ne, show ¬ dvA B i k ≤ 99999 by omega, ↓reduceIte]
    · rw [wI_at, upd_ne (by omega), wI_at, upd_ne (by omega)]; exact g2
    · rw [wI_at, upd_ne (by omega), wI_at, upd_ne (by omega)]; exact g8
    · rw [wI_at, upd_at]; rfl
    · rw [wI_at, upd_ne (by omega), wI_at, upd_at]
  · rintro f s1 ⟨g1, g2, g8, g3, g9⟩
    rw [show i + (e - i) = e by omega] at g3
    have hT1 := mtT_R hT g1
    have sm := m_digitB hn hT1 eN
    rw [decide_eq_false rp.2.2.2] at sm
    refine ⟨s1, ?_, g1, ?_, g2, g3⟩
    · show fX11_token_213b n (fX11_token_213 n f) (mk s1) 187 = _
      unfold fX11_token_213b
      simp (disch := first | omega | assumption | (simp only [wL_1, wL_22, wI_2, wA_2, wQ_1, wQ_21] <;> first | assumption | omega)) only [LIT, LITm, nI_add, n_mul, fa_or, n_31m, n_shl0, n_le, n_lt, n_eq, Option.bind_some, B_m hn, g3, sm, Bool.toNat_false, ↓reduceIte]
    · show tkR _ _ 23 _
      rw [g8, g9]
      exact Or.inr (Or.inr (Or.inr (Or.inl ⟨rfl, rfl, rfl⟩)))
theorem m_tok (hn : 239 ≤ n) (hT : mtT s B N) (hi : s.1 187 7 = nI i) (hN : i ≤ N) : ∃ s' : zS, fX11_token n (mk s) 187 = some ((), mk s') ∧ frR s s' ∧ mTk s' (lxV B N i) := by
  have N7 := hT.2.1
  have n32 : (32 : Int32) = nI 32 := rfl
  have n10 : (10 : Int32) = nI 10 := rfl
  unfold fX11_token
  simp only [B_m hn, Option.bind_some]
  have tl : ∀ (s1 : zS) (j : Nat), frR s s1 → s1.1 187 7 = nI j → j ≤ N → ∃ s' : zS, fX11_token_52 n (mk s1) 187 = some ((), mk s') ∧ frR s s' ∧ mTk s' (lxJ B N j) := by
    intro s1 j f1 g3 jN
    obtain ⟨s2, es2⟩ : ∃ s2 : zS, s2 = wI s1 187 10 (nI j) := ⟨_, rfl⟩
    have f2 : frR s s2 := frR_t f1 (by rw [es2]; exact frR_w (by omega))
    have hT2 := mtT_R hT f2
    have i2 : s2.1 187 7 = nI j := by rw [es2, wI_at, upd_ne (by omega)]; exact g3
    have p2 : s2.1 187 10 = nI j := by rw [es2, wI_at, upd_at]
    have t6 := hT2.1
    have sm := m_small hn hT2 jN
    have sd := m_digitB hn hT2 jN
    have w1 : sF n (mk s1) 187 11 10 .int (.int (nI j)) = some (mk s2) := by rw [es2]; simp only [B_m hn]
    have g7 : pI n (mk s2) 187 11 7 = some (nI j) := by simp only [B_m hn, i2]
    have g6 : pI n (mk s2) 187 11 6 = some (nI N) := by simp only [B_m hn, t6]
    unfold fX11_token_52 lxJ
    rw [bnd_s (v := nI j) (by simp only [B_m hn, g3]), bnd_s w1, bnd_s g7, bnd_s g6]
    by_cases gN : j < N
    · rw [if_neg (show ¬ N ≤ j by omega)]
      have ne : ¬ nI j = nI N := by rw [n_eq (by omega) (by omega)]; omega
      rw [if_pos ne, bnd_s g7]
      by_cases gl : ltB (B j) = true
      · rw [if_pos gl]
        rw [decide_eq_true ⟨gN, gl⟩] at sm
        obtain ⟨s3, e3, f3, k3⟩ := m_word hn hT2 i2 jN p2
        refine ⟨s3, ?_, frR_t f2 f3, k3⟩
        simp (disch := first | omega | assumption | (simp only [wL_1, wL_22, wI_2, wA_2, wQ_1, wQ_21] <;> first | assumption | omega)) only [LIT, n_eq, Option.bind_some, sm, e3, Bool.toNat_true, Nat.reduceEqDiff, Nat.reduceLeDiff, ↓reduceIte]
      · rw [if_neg gl]
        rw [decide_eq_false (fun q => gl q.2)] at sm
        by_cases gd : dtB (B j) = true
        · rw [if_pos gd]
          rw [decide_eq_true ⟨gN, gd⟩] at sd
          obtain ⟨s4, es4⟩ : ∃ s4 : zS, s4 = wI (wI s2 187 8 (nI 3)) 187 9 (nI 0) := ⟨_, rfl⟩
          have f4 : frR s2 s4 := by rw [es4]; exact frR_t (frR_w (by omega)) (frR_w (by omega))
          obtain ⟨s3, e3, f3, k3⟩ := m_digits hn (mtT_R hT2 f4) (i := j) (by rw [es4, wI_at, upd_ne (by omega), wI_at, upd_ne (by omega)]; exact i2) jN (by rw [es4, wI_at, upd_ne (by omega), wI_at, upd_ne (by omega)]; exact p2) (by rw [es4, wI_at, upd_ne (by omega), wI_at, upd_at]) (by rw [es4, wI_at, upd_at])
          refine ⟨s3, ?_, frR_t f2 (frR_t f4 f3), k3⟩
          rw [es4] at e3
          simp (disch := first | omega | assumption | (simp only [wL_1, wL_22, wI_2, wA_2, wQ_1, wQ_21] <;> first | assumption | omega)) only [LIT, n_eq, Option.bind_some, g7, sm, sd, e3, B_m hn, i2, Bool.toNat_true, Bool.toNat_false, Nat.reduceEqDiff, Nat.reduceLeDiff, ↓reduceIte]
        · rw [if_neg gd]
          rw [decide_eq_false (fun q => gd q.2)] at sd
          obtain ⟨s3, e3, f3, a10, aR, a7⟩ := m_sign hn hT2 i2 gN gl gd
          refine ⟨s3, ?_, frR_t f2 f3, aR, by rw [a10]; exact p2, a7⟩
          simp (disch := first | omega | assumption | (simp only [wL_1, wL_22, wI_2, wA_2, wQ_1, wQ_21] <;> first | assumption | omega)) only [LIT, n_eq, Option.bind_some, g7, sm, sd, e3, Bool.toNat_false, ↓reduceIte]
    · rw [if_pos (show N ≤ j by omega)]
      have je : j = N := by omega
      have eq : ¬ ¬ nI j = nI N := by rw [je]; exact fun h => h rfl
      rw [if_neg eq]
      refine ⟨wI s2 187 8 (nI 0), ?_, frR_t f2 (frR_w (by omega)), ?_, ?_, ?_⟩
      · simp (disch := first | omega | assumption | (simp only [wL_1, wL_22, wI_2, wA_2, wQ_1, wQ_21] <;> first | assumption | omega)) only [LIT, Option.bind_some, B_m hn]
      · show tkR _ _ 37 0
        rw [wI_at, upd_at]
        exact Or.inl ⟨rfl, rfl⟩
      · rw [wI_at, upd_ne (by omega)]; exact p2
      · rw [wI_at, upd_ne (by omega)]; exact i2
  refine lp_ms (F := fun f (q : zS × Nat) => fX11_token_0 n f (mk q.1) 187) (μ := fun q => N - q.2) (P := fun q => frR s q.1 ∧ q.1.1 187 7 = nI q.2 ∧ q.2 ≤ N ∧ rnV (fun x => bkB (B x)) N q.2 = rnV (fun x => bkB (B x)) N i) (Q := fun r => ∃ s' : zS, r = some ((), mk s') ∧ frR s s' ∧ mTk s' (lxV B N i)) ?_ N bi_K (s, i) (by show N - i ≤ N; omega) (by unfold bi_K; omega) ⟨frR_r, hi, hN, rfl⟩
  rintro f ⟨s1, j⟩ ⟨g1, g3, g5, g6⟩
  have g1 : frR s s1 := g1
  have g3 : s1.1 187 7 = nI j := g3
  have g5 : j ≤ N := g5
  have g6 : rnV (fun x => bkB (B x)) N j = rnV (fun x => bkB (B x)) N i := g6
  have hT1 := mtT_R hT g1
  have t6 := hT1.1
  obtain ⟨s2, e2, f2, k2⟩ := tl s1 j g1 g3 g5
  have stop : ¬ (j < N ∧ bkB (B j) = true) → ∃ s' : zS, fX11_token_52 n (mk s1) 187 = some ((), mk s') ∧ frR s s' ∧ mTk s' (lxV B N i) := fun g => by
    refine ⟨s2, e2, f2, ?_⟩
    unfold lxV
    rw [← g6, rn_0 (f := fun x => bkB (B x)) g]
    exact k2
  show (∃ q : zS × Nat, fX11_token_0b n (fX11_token_0 n f) (mk s1) 187 = _ ∧ _) ∨ ∃ s', fX11_token_0b n (fX11_token_0 n f) (mk s1) 187 = _ ∧ _
  unfold fX11_token_0b fX11_token_39
  rw [n32, n10]
  by_cases gN : j < N
  · have bv := hT1.2.2.1 j gN
    have b5 := hT1.2.2.2.1 j
    have on : bkB (B j) = true → (∃ q : zS × Nat, fX11_token_0 n f (mk (wI s1 187 7 (nI (j + 1)))) 187 = fX11_token_0 n f (mk q.1) 187 ∧ (frR s q.1 ∧ q.1.1 187 7 = nI q.2 ∧ q.2 ≤ N ∧ rnV (fun x => bkB (B x)) N q.2 = rnV (fun x => bkB (B x)) N i) ∧ N - q.2 < N - j) := fun g => by
      refine ⟨(wI s1 187 7 (nI (j + 1)), j + 1), rfl, ⟨frR_t g1 (frR_w (by omega)), ?_, by show j + 1 ≤ N; omega, ?_⟩, by show N - (j + 1) < N - j; omega⟩
      · show (wI s1 187 7 _).1 187 7 = _
        rw [wI_at, upd_at]
      · show rnV _ N (j + 1) = _
        rw [← rn_s (f := fun x => bkB (B x)) gN g]
        exact g6
    by_cases b10 : B j = 10
    · left
      obtain ⟨q, q1, q2⟩ := on (decide_eq_true (Or.inl b10))
      refine ⟨q, ?_, q2⟩
      rw [← q1]
      rw [b10] at bv
      simp (disch := first | omega | assumption | (simp only [wL_1, wL_22, wI_2, wA_2, wQ_1, wQ_21] <;> first | assumption | omega)) only [LIT, LITm, nI_add, n_mul, fa_or, n_31m, n_shl0, n_le, n_lt, n_eq, Option.bind_some, B_m hn, B_ma hn, g3, t6, bv, show ¬ N ≤ j by omega, ↓reduceIte]
    · by_cases b32 : B j = 32
      · left
        obtain ⟨q, q1, q2⟩ := on (decide_eq_true (Or.inr b32))
        refine ⟨q, ?_, q2⟩
        rw [← q1]
        rw [b32] at bv
        simp (disch := first | omega | assumption | (simp only [wL_1, wL_22, wI_2, wA_2, wQ_1, wQ_21] <;> first | assumption | omega)) only [LIT, LITm, nI_add, n_mul, fa_or, n_31m, n_shl0, n_le, n_lt, n_eq, Option.bind_some, B_m hn, B_ma hn, g3, t6, bv, Nat.reduceEqDiff, Nat.reduceLeDiff, not_true_eq_false, show ¬ N ≤ j by omega, ↓reduceIte]
      · right
        have st := stop (fun q => by
          have := of_decide_eq_true q.2
          omega)
        simp (disch := first | omega | assumption | (simp only [wL_1, wL_22, wI_2, wA_2, wQ_1, wQ_21] <;> first | assumption | omega)) only [LIT, LITm, nI_add, n_mul, fa_or, n_31m, n_shl0, n_le, n_lt, n_eq, Option.bind_some, B_m hn, B_ma hn, g3, t6, bv, b10, b32, not_false_eq_true, show ¬ N ≤ j by omega, ↓reduceIte]
        exact st
  · right
    have st := stop (fun q => gN q.1)
    simp (disch := first | omega | assumption | (simp only [wL_1, wL_22, wI_2, wA_2, wQ_1, wQ_21] <;> first | assumption | omega)) only [LIT, LITm, nI_add, n_mul, fa_or, n_31m, n_shl0, n_le, n_lt, n_eq, Option.bind_some, B_m hn, g3, t6, show N ≤ j by omega, ↓reduceIte]
    exact st
end Mx3
