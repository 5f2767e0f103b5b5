/-! ===== the text's tokens: the class's words, and all of them ===== -/
section Cx3
variable {n N i j e k v kd pl : Nat} {s : zS} {B D : Nat → Nat}
def vlK (D : Nat → Nat) (k : Nat) : Nat := pkD D k * 2 ^ (5 * (6 - k))
theorem pkD_or (hd : D k < 32) : (pkD D k <<< 5) ||| D k = pkD D (k + 1) := by
  rw [Nat.shiftLeft_eq, Nat.mul_comm, ← Nat.two_pow_add_eq_or_of_lt (i := 5) hd, Nat.mul_comm]
  rfl
theorem pkD_z (h : ∀ j, k ≤ j → D j = 0) : ∀ m, pkD D (k + m) = pkD D k * 32 ^ m
  | 0 => by rw [Nat.pow_zero, Nat.mul_one, Nat.add_zero]
  | m + 1 => by
    show pkD D (k + m) * 32 + D (k + m) = _
    rw [pkD_z h m, h (k + m) (by omega), Nat.add_zero, Nat.pow_succ, Nat.mul_assoc]
theorem vlK_e (h : ∀ j, k ≤ j → D j = 0) (hk : k ≤ 6) : vlK D k = pkD D 6 := by
  have e := pkD_z h (6 - k)
  rw [show k + (6 - k) = 6 by omega] at e
  rw [e]
  unfold vlK
  congr 1
  rw [show (32 : Nat) = 2 ^ 5 from rfl, ← Nat.pow_mul]
/-- the class's word loop: which word of the language -/
theorem c_rw124 (hn : 239 ≤ n) (hT : btT s B N) (h6 : s.1 4 6 = nI v) (hv : v < 1073741824) (h4 : s.1 4 4 = nI kd) (hkd : kd = 22 ∨ kd = 38) : ∃ s' : zS, fX7_readWord_124 n bi_K (mk s) 4 (nI 0) = some ((), mk s') ∧ frK s s' ∧ (∀ j, j ≠ 4 → s'.1 4 j = s.1 4 j) ∧ s'.1 4 4 = nI (if kd = 38 then 38 else wfW v 22 0) := by
  have n22 : (22 : Int32) = nI 22 := rfl
  refine lp_up (F := fun f (q : zS × Bool) k => fX7_readWord_124 n f (mk q.1) 4 (nI k)) (N := 22) (P := fun k q => frK s q.1 ∧ (∀ j, j ≠ 4 → q.1.1 4 j = s.1 4 j) ∧ ((q.2 = true ∧ q.1.1 4 4 = nI (if kd = 38 then 38 else wfW v 22 0) ∧ (if kd = 38 then 38 else wfW v 22 0) ≠ 22 ∧ (if kd = 38 then 38 else wfW v 22 0) ≤ 38) ∨ (q.2 = false ∧ kd = 22 ∧ q.1.1 4 4 = nI 22 ∧ wfW v 22 0 = wfW v (22 - k) k))) (Q := fun r => ∃ s' : zS, r = some ((), mk s') ∧ frK s s' ∧ (∀ j, j ≠ 4 → s'.1 4 j = s.1 4 j) ∧ s'.1 4 4 = nI (if kd = 38 then 38 else wfW v 22 0)) ?_ ?_ 22 bi_K (s, decide (kd = 38)) 0 (by omega) (by unfold bi_K; omega) ⟨frK_r, fun _ _ => rfl, ?_⟩
  · rintro f ⟨s1, b⟩ k hk ⟨g1, g2, g3⟩
    have g1 : frK s s1 := g1
    have g2 : ∀ j, j ≠ 4 → s1.1 4 j = s.1 4 j := g2
    have hT1 := btT_K hT g1
    have wk := hT1.2.2.2.2.2 k hk
    have v6 : s1.1 4 6 = nI v := by rw [g2 6 (by omega)]; exact h6
    have wd := W_pos ⟨k, hk⟩
    have wd2 : WD k < 1073741824 := wd.2
    show (∃ q : zS × Bool, fX7_readWord_124b n (fX7_readWord_124 n f) (mk s1) 4 (nI k) = _ ∧ _) ∨ ∃ s', fX7_readWord_124b n (fX7_readWord_124 n f) (mk s1) 4 (nI k) = _ ∧ _
    unfold fX7_readWord_124b fX7_readWord_157
    rw [n22]
    rcases g3 with ⟨b1, b2, b3, b4⟩ | ⟨b1, b2, b3, b4⟩
    · right
      have b2 : s1.1 4 4 = nI (if kd = 38 then 38 else wfW v 22 0) := b2
      refine ⟨s1, ?_, g1, g2, b2⟩
      simp (disch := first | omega | assumption | (simp only [wL_1, wL_22, wI_2, wA_2, wQ_1, wQ_21] <;> first | assumption | omega)) only [LIT, LITm, nI_add, n_mul, fa_or, n_31m, n_shl0, n_le, n_lt, n_eq, Option.bind_some, B_rd hn, b2, b3, not_false_eq_true, show ¬ 22 ≤ k by omega, ↓reduceIte]
    · left
      have b3 : s1.1 4 4 = nI 22 := b3
      have un : wfW v (22 - k) k = if WD k = v then k else wfW v (22 - (k + 1)) (k + 1) := by
        rw [show 22 - k = (22 - (k + 1)) + 1 by omega]
        rfl
      by_cases g : WD k = v
      · rw [un, if_pos g] at b4
        refine ⟨(wI s1 4 4 (nI k), true), ?_, frK_t g1 (frK_w (by omega)), fun j hj => ?_, Or.inl ⟨rfl, ?_, ?_, ?_⟩⟩
        · simp (disch := first | omega | assumption | (simp only [wL_1, wL_22, wI_2, wA_2, wQ_1, wQ_21] <;> first | assumption | omega)) only [LIT, LITm, nI_add, n_mul, fa_or, n_31m, n_shl0, n_le, n_lt, n_eq, Option.bind_some, B_rd hn, b3, wk, v6, g, not_true_eq_false, show ¬ 22 ≤ k by omega, ↓reduceIte]
        · show (wI s1 4 4 _).1 4 j = _
          rw [wI_at, upd_ne hj]; exact g2 j hj
        · show (wI s1 4 4 _).1 4 4 = _
          rw [wI_at, upd_at, b2, if_neg (by omega), b4]
        · rw [b2, if_neg (by omega), b4]; omega
        · rw [b2, if_neg (by omega), b4]; omega
      · rw [un, if_neg g] at b4
        refine ⟨(s1, false), ?_, g1, g2, Or.inr ⟨rfl, b2, b3, b4⟩⟩
        simp (disch := first | omega | assumption | (simp only [wL_1, wL_22, wI_2, wA_2, wQ_1, wQ_21] <;> first | assumption | omega)) only [LIT, LITm, nI_add, n_mul, fa_or, n_31m, n_shl0, n_le, n_lt, n_eq, Option.bind_some, B_rd hn, b3, wk, v6, g, not_true_eq_false, not_false_eq_true, show ¬ 22 ≤ k by omega, ↓reduceIte]
  · rintro f ⟨s1, b⟩ ⟨g1, g2, g3⟩
    refine ⟨s1, ?_, g1, g2, ?_⟩
    · show fX7_readWord_124b n (fX7_readWord_124 n f) (mk s1) 4 (nI 22) = _
      unfold fX7_readWord_124b
      rw [n22]
      simp (disch := first | omega | assumption | (simp only [wL_1, wL_22, wI_2, wA_2, wQ_1, wQ_21] <;> first | assumption | omega)) only [LIT, LITm, nI_add, n_mul, fa_or, n_31m, n_shl0, n_le, n_lt, n_eq, Option.bind_some, Nat.le_refl, ↓reduceIte]
    · rcases g3 with ⟨b1, b2, b3, b4⟩ | ⟨b1, b2, b3, b4⟩
      · exact b2
      · show s1.1 4 4 = _
        rw [b2, if_neg (by omega), b4]
        exact b3
  · rcases hkd with h | h
    · right
      refine ⟨decide_eq_false (by omega), h, ?_, rfl⟩
      rw [← h]; exact h4
    · left
      refine ⟨decide_eq_true h, ?_, ?_, ?_⟩
      · show s.1 4 4 = _
        rw [if_pos h, ← h]; exact h4
      · rw [if_pos h]; omega
      · rw [if_pos h]; omega
theorem c_word (hn : 239 ≤ n) (hT : btT s B N) (hi : s.1 4 3 = nI i) (hN : i ≤ N) (h6 : s.1 4 6 = nI 0) (h5 : s.1 4 5 = nI pl) : ∃ s' : zS, fX7_readWord n (mk s) 4 = some ((), mk s') ∧ frK s s' ∧ cTk s' (wdK B i (rnV (fun x => ltB (B x)) N i), pkV B i (rnV (fun x => ltB (B x)) N i), pl, rnV (fun x => ltB (B x)) N i) := by
  have N7 := hT.2.2.1
  obtain ⟨e, ee⟩ : ∃ e, e = rnV (fun x => ltB (B x)) N i := ⟨_, rfl⟩
  have rp := rn_p (f := fun x => ltB (B x)) (N := N) (i := i)
  rw [← ee] at rp ⊢
  have lt32 := ld_lt (B := B) (i := i) (e := e) (fun x h1 h2 => (rp.2.2.1 x h1 h2).2)
  have n97 : (97 : Int32) = nI 97 := rfl
  have n122 : (122 : Int32) = nI 122 := rfl
  have n22 : (22 : Int32) = nI 22 := rfl
  have n38 : (38 : Int32) = nI 38 := rfl
  have eN := rp.2.1 hN
  have main : ∃ s' : zS, fX7_readWord n (mk s) 4 = some ((), mk s') ∧ frK s s' ∧ cTk s' (wdK B i e, pkV B i e, pl, e) := by
    unfold fX7_readWord
    simp only [B_rd hn, Option.bind_some, LIT]
    refine lp_up (F := fun f (s1 : zS) k => fX7_readWord_2 n f (mk s1) 4 (nI k)) (N := e - i) (P := fun k s1 => frK s s1 ∧ s1.1 4 5 = nI pl ∧ s1.1 4 3 = nI (i + k) ∧ s1.1 4 6 = nI (pkD (ldV B i e) (if k < 6 then k else 6))) (Q := fun r => ∃ s' : zS, r = some ((), mk s') ∧ frK s s' ∧ cTk s' (wdK B i e, pkV B i e, pl, e)) ?_ ?_ (e - i) bi_K s 0 (by omega) (by unfold bi_K; omega) ⟨frK_r, h5, hi, ?_⟩
    · rintro f s1 k hk ⟨g1, g2, g3, g4⟩
      left
      have hT1 := btT_K hT g1
      have r1 := B_r1 hn hT1
      have t2 := hT1.2.1
      have q := rp.2.2.1 (i + k) (by omega) (by omega)
      have ql := of_decide_eq_true q.2
      have bv : s1.1 2 (i + k) = nI (B (i + k)) := by rw [hT1.2.2.2.1 (i + k) q.1, by8_n (by omega)]
      show ∃ s', fX7_readWord_2b n (fX7_readWord_2 n f) (mk s1) 4 (nI k) = _ ∧ _
      unfold fX7_readWord_2b fX7_readWord_72
      rw [n97, n122]
      by_cases k6 : k < 6
      · rw [if_pos k6] at g4
        have dk : ldV B i e k = B (i + k) - 96 := by
          unfold ldV
          rw [if_pos (by omega)]
        have vs := pkD_or (D := ldV B i e) (k := k) (lt32 k)
        rw [dk] at vs
        refine ⟨wI (wI s1 4 6 (nI (pkD (ldV B i e) (k + 1)))) 4 3 (nI (i + k + 1)), ?_, frK_t g1 (frK_t (frK_w (by omega)) (frK_w (by omega))), ?_, ?_, ?_⟩
        · have orr : (nI (pkD (ldV B i e) k) <<< (nI 5 &&& nI 31)) ||| (nI (B (i + k)) - nI 97 + nI 1) = nI (pkD (ldV B i e) (k + 1)) := by
            rw [n_shl (by omega), n_sub ql.1, nI_add, show B (i + k) - 97 + 1 = B (i + k) - 96 by omega, fa_or, vs]
          simp (disch := first | omega | assumption | (simp only [wL_1, wL_22, wI_2, wA_2, wQ_1, wQ_21] <;> first | assumption | omega)) only [LIT, LITm, nI_add, n_le, n_lt, n_eq, Option.bind_some, B_rd hn, r1, g3, g4, t2, bv, orr, wI_at, upd_ne, Nat.reduceEqDiff, Nat.reduceLeDiff, show ¬ B (i + k) < 97 by omega, show ¬ 122 < B (i + k) by omega, show ¬ N ≤ i + k by omega, show ¬ 6 ≤ k by omega, ↓reduceIte]
        · rw [wI_at, upd_ne (by omega), wI_at, upd_ne (by omega)]; exact g2
        · rw [wI_at, upd_at]; rfl
        · rw [wI_at, upd_ne (by omega), wI_at, upd_at]
          congr 2
          by_cases q6 : k + 1 < 6
          · rw [if_pos q6]
          · rw [if_neg q6]; omega
      · rw [if_neg k6] at g4
        refine ⟨wI s1 4 3 (nI (i + k + 1)), ?_, frK_t g1 (frK_w (by omega)), ?_, ?_, ?_⟩
        · simp (disch := first | omega | assumption | (simp only [wL_1, wL_22, wI_2, wA_2, wQ_1, wQ_21] <;> first | assumption | omega)) only [LIT, LITm, nI_add, n_le, n_lt, n_eq, Option.bind_some, B_rd hn, r1, g3, t2, bv, Nat.reduceEqDiff, Nat.reduceLeDiff, show ¬ B (i + k) < 97 by omega, show ¬ 122 < B (i + k) by omega, show ¬ N ≤ i + k by omega, show 6 ≤ k by omega, ↓reduceIte]
        · rw [wI_at, upd_ne (by omega)]; exact g2
        · rw [wI_at, upd_at]; rfl
        · rw [wI_at, upd_ne (by omega), if_neg (by omega)]; exact g4
    · rintro f s1 ⟨g1, g2, g3, g4⟩
      rw [show i + (e - i) = e by omega] at g3
      have hT1 := btT_K hT g1
      have t2 := hT1.2.1
      have r1 := B_r1 hn hT1
      have zz : ∀ k, e - i ≤ k → ldV B i e k = 0 := fun k hk => by
        unfold ldV
        rw [if_neg (by omega)]
      have pl' := pkV_lt (B := B) (i := i) (e := e) (fun x h1 h2 => (rp.2.2.1 x h1 h2).2)
      have pre : ∃ s3 : zS, fX7_readWord_88 n (mk s1) 4 (nI (e - i)) = some ((), mk s3) ∧ frK s1 s3 ∧ s3.1 4 4 = nI (wdK B i e) ∧ s3.1 4 6 = nI (pkV B i e) ∧ s3.1 4 5 = s1.1 4 5 ∧ s3.1 4 3 = s1.1 4 3 := by
        unfold fX7_readWord_88
        rw [n22, n38]
        by_cases q6 : e - i ≤ 6
        · have g4' : s1.1 4 6 = nI (pkD (ldV B i e) (e - i)) := by
            rw [g4]
            congr 2
            by_cases q : e - i < 6
            · rw [if_pos q]
            · rw [if_neg q]; omega
          have sh : nI (pkD (ldV B i e) (e - i)) <<< ((nI 5 * (nI 6 - nI (e - i))) &&& nI 31) = nI (pkV B i e) := by
            rw [n_sub q6, n_mul, n_shl (by omega), Nat.shiftLeft_eq]
            congr 1
            exact vlK_e zz q6
          obtain ⟨s2, es2⟩ : ∃ s2 : zS, s2 = wI (wI s1 4 6 (nI (pkV B i e))) 4 4 (nI 22) := ⟨_, rfl⟩
          have f2 : frK s1 s2 := by rw [es2]; exact frK_t (frK_w (by omega)) (frK_w (by omega))
          have v2 : s2.1 4 6 = nI (pkV B i e) := by rw [es2, wI_at, upd_ne (by omega), wI_at, upd_at]
          obtain ⟨s3, e3, f3, o3, k3⟩ := c_rw124 (kd := 22) hn (btT_K hT1 f2) v2 pl' (by rw [es2, wI_at, upd_at]) (Or.inl rfl)
          refine ⟨s3, ?_, frK_t f2 f3, ?_, by rw [o3 6 (by omega)]; exact v2, ?_, ?_⟩
          · have w1 : sF n (mk s1) 4 7 6 .int (.int (nI (pkD (ldV B i e) (e - i)) <<< (((5 : Int32) * ((6 : Int32) - nI (e - i))) &&& 31))) = some (mk (wI s1 4 6 (nI (pkV B i e)))) := by
              rw [show (5 : Int32) = nI 5 from rfl, show (6 : Int32) = nI 6 from rfl, show (31 : Int32) = nI 31 from rfl, sh]
              simp only [B_rd hn]
            rw [if_pos (show nI (e - i) ≤ 6 by rw [show (6 : Int32) = nI 6 from rfl, n_le (by omega) (by omega)]; exact q6), bnd_s (v := nI (pkD (ldV B i e) (e - i))) (by simp only [B_rd hn, g4']), bnd_s w1, bnd_s (v := mk s2) (by rw [es2]; simp only [B_rd hn])]
            exact e3
          · rw [k3, if_neg (by omega)]
            unfold wdK
            rw [if_neg (by omega)]
          · rw [o3 5 (by omega), es2, wI_at, upd_ne (by omega), wI_at, upd_ne (by omega)]
          · rw [o3 3 (by omega), es2, wI_at, upd_ne (by omega), wI_at, upd_ne (by omega)]
        · rw [if_neg (show ¬ e - i < 6 by omega)] at g4
          refine ⟨wI s1 4 4 (nI 38), ?_, frK_w (by omega), ?_, ?_, ?_, ?_⟩
          · rw [if_neg (show ¬ nI (e - i) ≤ 6 by rw [show (6 : Int32) = nI 6 from rfl, n_le (by omega) (by omega)]; exact q6)]
            simp only [B_rd hn, Option.bind_some]
          · rw [wI_at, upd_at]
            unfold wdK
            rw [if_pos (by omega)]
          · rw [wI_at, upd_ne (by omega)]; exact g4
          · rw [wI_at, upd_ne (by omega)]
          · rw [wI_at, upd_ne (by omega)]
      obtain ⟨s3, e3, f3, a4, a6, a5, a3⟩ := pre
      refine ⟨s3, ?_, frK_t g1 f3, a4, a6, by rw [a5]; exact g2, by rw [a3]; exact g3⟩
      show fX7_readWord_2b n (fX7_readWord_2 n f) (mk s1) 4 (nI (e - i)) = _
      unfold fX7_readWord_2b
      rw [n97, n122]
      by_cases gN : e < N
      · have bv := hT1.2.2.2.1 e gN
        rcases by8_out (l := 97) (h := 122) (hT1.2.2.2.2.1 e) (by omega) (by omega) (fun q => rp.2.2.2 ⟨gN, decide_eq_true q⟩) with c1 | ⟨c1, c2⟩
        · simp (disch := first | omega | assumption | (simp only [wL_1, wL_22, wI_2, wA_2, wQ_1, wQ_21] <;> first | assumption | omega)) only [LIT, LITm, n_le, Option.bind_some, B_rd hn, r1, g3, t2, bv, c1, if_true, show ¬ N ≤ e by omega, ↓reduceIte]
          exact e3
        · simp (disch := first | omega | assumption | (simp only [wL_1, wL_22, wI_2, wA_2, wQ_1, wQ_21] <;> first | assumption | omega)) only [LIT, LITm, n_le, Option.bind_some, B_rd hn, r1, g3, t2, bv, c1, c2, if_true, if_false, show ¬ N ≤ e by omega, ↓reduceIte]
          exact e3
      · simp (disch := first | omega | assumption | (simp only [wL_1, wL_22, wI_2, wA_2, wQ_1, wQ_21] <;> first | assumption | omega)) only [LIT, LITm, n_le, Option.bind_some, B_rd hn, g3, t2, show N ≤ e by omega, ↓reduceIte]
        exact e3
    · rw [if_pos (by omega)]
      exact h6
  exact main
theorem c_adv (hn : 239 ≤ n) (hT : btT s B N) (hi : s.1 4 3 = nI i) (hN : i ≤ N) : ∃ s' : zS, fX7_advance n (mk s) 4 = some ((), mk s') ∧ frK s s' ∧ cTk s' (lxV B N i) := by
  have N7 := hT.2.2.1
  have n32 : (32 : Int32) = nI 32 := rfl
  have n10 : (10 : Int32) = nI 10 := rfl
  have n97 : (97 : Int32) = nI 97 := rfl
  have n122 : (122 : Int32) = nI 122 := rfl
  have n48 : (48 : Int32) = nI 48 := rfl
  have n57 : (57 : Int32) = nI 57 := rfl
  have n37 : (37 : Int32) = nI 37 := rfl
  unfold fX7_advance
  simp only [B_rd hn, Option.bind_some]
  have tl : ∀ (s1 : zS) (j : Nat), frK s s1 → s1.1 4 3 = nI j → j ≤ N → ∃ s' : zS, fX7_advance_52 n (mk s1) 4 = some ((), mk s') ∧ frK s s' ∧ cTk s' (lxJ B N j) := by
    intro s1 j f1 g3 jN
    obtain ⟨s2, es2⟩ : ∃ s2 : zS, s2 = wI (wI s1 4 5 (nI j)) 4 6 (nI 0) := ⟨_, rfl⟩
    have f2 : frK s s2 := frK_t f1 (by rw [es2]; exact frK_t (frK_w (by omega)) (frK_w (by omega)))
    have hT2 := btT_K hT f2
    have i2 : s2.1 4 3 = nI j := by rw [es2, wI_at, upd_ne (by omega), wI_at, upd_ne (by omega)]; exact g3
    have p2 : s2.1 4 5 = nI j := by rw [es2, wI_at, upd_ne (by omega), wI_at, upd_at]
    have v2 : s2.1 4 6 = nI 0 := by rw [es2, wI_at, upd_at]
    have t2 := hT2.2.1
    have r1 := B_r1 hn hT2
    have hB := hT2.2.2.2.2.1
    have w1 : sF n (mk s1) 4 7 5 .int (.int (nI j)) = some (mk (wI s1 4 5 (nI j))) := by simp only [B_rd hn]
    have w2 : sF n (mk (wI s1 4 5 (nI j))) 4 7 6 .int (.int (0 : Int32)) = some (mk s2) := by
      rw [show (0 : Int32) = nI 0 from rfl, es2]
      simp only [B_rd hn]
    have rd : pI n (mk s2) 4 7 3 = some (nI j) := by simp only [B_rd hn, i2]
    unfold fX7_advance_52 lxJ
    rw [bnd_s (v := nI j) (by simp only [B_rd hn, g3]), bnd_s w1, bnd_s w2, bnd_s rd, bnd_s (v := nI N) (by simp only [B_rd hn, t2]), n97, n122, n37]
    by_cases gN : j < N
    · rw [if_neg (show ¬ N ≤ j by omega), if_pos (show nI j < nI N by rw [n_lt (by omega) (by omega)]; exact gN)]
      have gb : gB n (mk s2) 2 (nI j) = some (by8 (B j)) := by
        rw [← hT2.2.2.2.1 j gN]
        simp (disch := omega) only [B_rd hn]
      by_cases gl : ltB (B j) = true
      · rw [if_pos gl]
        have q := by8_in (l := 97) (h := 122) (hB j) (by omega) (of_decide_eq_true gl)
        obtain ⟨s3, e3, f3, k3⟩ := c_word (pl := j) hn hT2 i2 jN v2 p2
        refine ⟨s3, ?_, frK_t f2 f3, k3⟩
        rw [bnd_s r1, bnd_s rd, bnd_s gb, if_neg (fun h => q.1.mp h), bnd_s r1, bnd_s rd, bnd_s gb, if_neg (fun h => q.2.mp h), bnd_s e3]
      · rw [if_neg gl]
        have e120 : ∀ r, fX7_advance_120 n (mk s2) 4 = r → ((pR n (mk s2) 4 7 1).bind fun x6 => (pI n (mk s2) 4 7 3).bind fun x7 => (gB n (mk s2) x6 x7).bind fun x8 => if x8 < nI 97 then fX7_advance_120 n (mk s2) 4 else (pR n (mk s2) 4 7 1).bind fun x9 => (pI n (mk s2) 4 7 3).bind fun x10 => (gB n (mk s2) x9 x10).bind fun x11 => if nI 122 < x11 then fX7_advance_120 n (mk s2) 4 else (fX7_readWord n (mk s2) 4).bind fun q12 => some ((), q12.2)) = r := by
          intro r hr
          rw [bnd_s r1, bnd_s rd, bnd_s gb]
          rcases by8_out (l := 97) (h := 122) (hB j) (by omega) (by omega) (fun q => gl (decide_eq_true q)) with c1 | ⟨c1, c2⟩
          · rw [if_pos (c1.mpr trivial)]; exact hr
          · rw [if_neg (fun h => c1.mp h), bnd_s r1, bnd_s rd, bnd_s gb, if_pos (c2.mpr trivial)]; exact hr
        by_cases gd : dtB (B j) = true
        · rw [if_pos gd]
          have q := by8_in (l := 48) (h := 57) (hB j) (by omega) (of_decide_eq_true gd)
          obtain ⟨s3, e3, f3, a5, a4, a6, a3⟩ := c_digits hn hT2 i2 jN v2
          refine ⟨s3, e120 _ ?_, frK_t f2 f3, a4, a6, by rw [a5]; exact p2, a3⟩
          unfold fX7_advance_120
          rw [n48, n57, bnd_s r1, bnd_s rd, bnd_s gb, if_neg (fun h => q.1.mp h), bnd_s r1, bnd_s rd, bnd_s gb, if_neg (fun h => q.2.mp h), bnd_s e3]
        · rw [if_neg gd]
          have fin : ∀ s3 : zS, frK s2 s3 → s3.1 4 3 = nI (sgV B N j).2 → s3.1 4 5 = s2.1 4 5 → s3.1 4 6 = s2.1 4 6 → fX7_advance_155 n (mk s2) 4 = (sF n (mk s3) 4 7 4 .int (.int (nI (sgV B N j).1))).bind (fun h => some ((), h)) → ∃ s' : zS, fX7_advance_120 n (mk s2) 4 = some ((), mk s') ∧ frK s s' ∧ cTk s' ((sgV B N j).1, 0, j, (sgV B N j).2) := by
            intro s3 f3 a3 a5 a6 e3
            refine ⟨wI s3 4 4 (nI (sgV B N j).1), ?_, frK_t f2 (frK_t f3 (frK_w (by omega))), ?_, ?_, ?_, ?_⟩
            · have e4 : fX7_advance_155 n (mk s2) 4 = some ((), mk (wI s3 4 4 (nI (sgV B N j).1))) := by
                rw [e3]
                simp only [B_rd hn, Option.bind_some]
              unfold fX7_advance_120
              rw [n48, n57, bnd_s r1, bnd_s rd, bnd_s gb]
              rcases by8_out (l := 48) (h := 57) (hB j) (by omega) (by omega) (fun q => gd (decide_eq_true q)) with c1 | ⟨c1, c2⟩
              · rw [if_pos (c1.mpr trivial)]; exact e4
              · rw [if_neg (fun h => c1.mp h), bnd_s r1, bnd_s rd, bnd_s gb, if_pos (c2.mpr trivial)]; exact e4
            · rw [wI_at, upd_at]
            · rw [wI_at, upd_ne (by omega), a6]; exact v2
            · rw [wI_at, upd_ne (by omega), a5]; exact p2
            · rw [wI_at, upd_ne (by omega)]; exact a3
          have x60 := by8_eq (k := 60) (hB j) (by omega)
          have x62 := by8_eq (k := 62) (hB j) (by omega)
          have go : ∃ s3 : zS, frK s2 s3 ∧ s3.1 4 3 = nI (sgV B N j).2 ∧ s3.1 4 5 = s2.1 4 5 ∧ s3.1 4 6 = s2.1 4 6 ∧ fX7_advance_155 n (mk s2) 4 = (sF n (mk s3) 4 7 4 .int (.int (nI (sgV B N j).1))).bind (fun h => some ((), h)) := by
            unfold fX7_advance_155 fX7_advance_183
            rw [show (60 : Int32) = nI 60 from rfl, show (62 : Int32) = nI 62 from rfl]
            by_cases h60 : B j = 60
            · obtain ⟨s3, e3, f3, a3, a5, a6⟩ := c_cmp hn hT2 i2 gN (Or.inl h60)
              refine ⟨s3, f3, a3, a5, a6, ?_⟩
              rw [bnd_s r1, bnd_s rd, bnd_s gb, if_pos (x60.mpr h60), bnd_s e3]
            · by_cases h62 : B j = 62
              · obtain ⟨s3, e3, f3, a3, a5, a6⟩ := c_cmp hn hT2 i2 gN (Or.inr h62)
                refine ⟨s3, f3, a3, a5, a6, ?_⟩
                rw [bnd_s r1, bnd_s rd, bnd_s gb, if_neg (fun e => h60 (x60.mp e)), bnd_s r1, bnd_s rd, bnd_s gb, if_neg (not_not_intro (x62.mpr h62)), bnd_s e3]
              · obtain ⟨s3, e3, f3, a3, a5, a6⟩ := c_sign hn hT2 i2 gN h60 h62
                refine ⟨s3, f3, a3, a5, a6, ?_⟩
                rw [bnd_s r1, bnd_s rd, bnd_s gb, if_neg (fun e => h60 (x60.mp e)), bnd_s r1, bnd_s rd, bnd_s gb, if_pos (fun e => h62 (x62.mp e)), bnd_s e3]
          obtain ⟨s3, f3, a3, a5, a6, e3⟩ := go
          obtain ⟨s4, e4, f4, k4⟩ := fin s3 f3 a3 a5 a6 e3
          exact ⟨s4, e120 _ e4, f4, k4⟩
    · rw [if_pos (show N ≤ j by omega)]
      refine ⟨wI s2 4 4 (nI 37), ?_, frK_t f2 (frK_w (by omega)), ?_, ?_, ?_, ?_⟩
      · rw [if_neg (show ¬ nI j < nI N by rw [n_lt (by omega) (by omega)]; exact gN)]
        simp only [B_rd hn, Option.bind_some]
      · rw [wI_at, upd_at]
      · rw [wI_at, upd_ne (by omega)]; exact v2
      · rw [wI_at, upd_ne (by omega)]; exact p2
      · rw [wI_at, upd_ne (by omega)]; exact i2
  refine lp_ms (F := fun f (q : zS × Nat) => fX7_advance_0 n f (mk q.1) 4) (μ := fun q => N - q.2) (P := fun q => frK s q.1 ∧ q.1.1 4 3 = nI q.2 ∧ q.2 ≤ N ∧ rnV (fun x => bkB (B x)) N q.2 = rnV (fun x => bkB (B x)) N i) (Q := fun r => ∃ s' : zS, r = some ((), mk s') ∧ frK s s' ∧ cTk s' (lxV B N i)) ?_ N bi_K (s, i) (by show N - i ≤ N; omega) (by unfold bi_K; omega) ⟨frK_r, hi, hN, rfl⟩
  rintro f ⟨s1, j⟩ ⟨g1, g3, g5, g6⟩
  have g1 : frK s s1 := g1
  have g3 : s1.1 4 3 = nI j := g3
  have g5 : j ≤ N := g5
  have g6 : rnV (fun x => bkB (B x)) N j = rnV (fun x => bkB (B x)) N i := g6
  have hT1 := btT_K hT g1
  have r1 := B_r1 hn hT1
  have t2 := hT1.2.1
  obtain ⟨s2, e2, f2, k2⟩ := tl s1 j g1 g3 g5
  have stop : ¬ (j < N ∧ bkB (B j) = true) → ∃ s' : zS, fX7_advance_52 n (mk s1) 4 = some ((), mk s') ∧ frK s s' ∧ cTk s' (lxV B N i) := fun g => by
    refine ⟨s2, e2, f2, ?_⟩
    unfold lxV
    rw [← g6, rn_0 (f := fun x => bkB (B x)) g]
    exact k2
  show (∃ q : zS × Nat, fX7_advance_0b n (fX7_advance_0 n f) (mk s1) 4 = _ ∧ _) ∨ ∃ s', fX7_advance_0b n (fX7_advance_0 n f) (mk s1) 4 = _ ∧ _
  unfold fX7_advance_0b fX7_advance_39
  rw [n32, n10]
  by_cases gN : j < N
  · have bv := hT1.2.2.2.1 j gN
    have c32 := by8_eq (k := 32) (hT1.2.2.2.2.1 j) (by omega)
    have c10 := by8_eq (k := 10) (hT1.2.2.2.2.1 j) (by omega)
    have on : bkB (B j) = true → (∃ q : zS × Nat, fX7_advance_0 n f (mk (wI s1 4 3 (nI (j + 1)))) 4 = fX7_advance_0 n f (mk q.1) 4 ∧ (frK s q.1 ∧ q.1.1 4 3 = nI q.2 ∧ q.2 ≤ N ∧ rnV (fun x => bkB (B x)) N q.2 = rnV (fun x => bkB (B x)) N i) ∧ N - q.2 < N - j) := fun g => by
      refine ⟨(wI s1 4 3 (nI (j + 1)), j + 1), rfl, ⟨frK_t g1 (frK_w (by omega)), ?_, by show j + 1 ≤ N; omega, ?_⟩, by show N - (j + 1) < N - j; omega⟩
      · show (wI s1 4 3 _).1 4 3 = _
        rw [wI_at, upd_at]
      · show rnV _ N (j + 1) = _
        rw [← rn_s (f := fun x => bkB (B x)) gN g]
        exact g6
    by_cases b32 : B j = 32
    · left
      have c32' : (by8 (B j) = nI 32) = True := by rw [c32]; simp [b32]
      obtain ⟨q, q1, q2⟩ := on (decide_eq_true (Or.inr b32))
      refine ⟨q, ?_, q2⟩
      rw [← q1]
      simp (disch := first | omega | assumption | (simp only [wL_1, wL_22, wI_2, wA_2, wQ_1, wQ_21] <;> first | assumption | omega)) only [LIT, LITm, nI_add, n_mul, fa_or, n_31m, n_shl0, n_le, n_lt, n_eq, Option.bind_some, B_rd hn, r1, g3, t2, bv, c32', if_true, show ¬ N ≤ j by omega, ↓reduceIte]
    · have c32' : (by8 (B j) = nI 32) = False := by rw [c32]; simp [b32]
      by_cases b10 : B j = 10
      · left
        have c10' : (by8 (B j) = nI 10) = True := by rw [c10]; simp [b10]
        obtain ⟨q, q1, q2⟩ := on (decide_eq_true (Or.inl b10))
        refine ⟨q, ?_, q2⟩
        rw [← q1]
        simp (disch := first | omega | assumption | (simp only [wL_1, wL_22, wI_2, wA_2, wQ_1, wQ_21] <;> first | assumption | omega)) only [LIT, LITm, nI_add, n_mul, fa_or, n_31m, n_shl0, n_le, n_lt, n_eq, Option.bind_some, B_rd hn, r1, g3, t2, bv, c32', c10', if_false, not_true_eq_false, show ¬ N ≤ j by omega, ↓reduceIte]
      · right
        have c10' : (by8 (B j) = nI 10) = False := by rw [c10]; simp [b10]
        have st := stop (fun q => by
          have := of_decide_eq_true q.2
          omega)
        simp (disch := first | omega | assumption | (simp only [wL_1, wL_22, wI_2, wA_2, wQ_1, wQ_21] <;> first | assumption | omega)) only [LIT, LITm, nI_add, n_mul, fa_or, n_31m, n_shl0, n_le, n_lt, n_eq, Option.bind_some, B_rd hn, r1, g3, t2, bv, c32', c10', if_false, not_false_eq_true, show ¬ N ≤ j by omega, ↓reduceIte]
        exact st
  · right
    have st := stop (fun q => gN q.1)
    simp (disch := first | omega | assumption | (simp only [wL_1, wL_22, wI_2, wA_2, wQ_1, wQ_21] <;> first | assumption | omega)) only [LIT, LITm, nI_add, n_mul, fa_or, n_31m, n_shl0, n_le, n_lt, n_eq, Option.bind_some, B_rd hn, g3, t2, show N ≤ j by omega, ↓reduceIte]
    exact st
end Cx3
