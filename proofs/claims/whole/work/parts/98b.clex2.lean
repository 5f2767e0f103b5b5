/-! ===== the text's tokens: the class's words, and all of them ===== -/
section Cx3
variable {n N i j e k v kd pl : Nat} {s : zS} {B D : Nat → Nat}
def vlK (D : Nat → Nat) (k : Nat) : Nat := pkD D k * 2 ^ (5 * (6 - k))
theorem vlK_s (hk : k < 6) (hd : D k < 32) : vlK D k ||| D k * 2 ^ (5 * (5 - k)) = vlK D (k + 1) := by
  unfold vlK
  have e1 : 2 ^ (5 * (6 - k)) = 32 * 2 ^ (5 * (5 - k)) := by
    rw [show 5 * (6 - k) = 5 + 5 * (5 - k) by omega, Nat.pow_add]
  have hlt : D k * 2 ^ (5 * (5 - k)) < 2 ^ (5 * (6 - k)) := by
    rw [e1]
    exact Nat.mul_lt_mul_of_pos_right hd (Nat.pow_pos (by decide))
  have h := Nat.two_pow_add_eq_or_of_lt hlt (pkD D k)
  rw [Nat.mul_comm] at h
  rw [← h, e1, show 6 - (k + 1) = 5 - k by omega]
  show pkD D k * (32 * 2 ^ (5 * (5 - k))) + D k * 2 ^ (5 * (5 - k)) = (pkD D k * 32 + D k) * 2 ^ (5 * (5 - k))
  rw [Nat.add_mul, Nat.mul_assoc]
theorem pkD_z (h : ∀ j, k ≤ j → D j = 0) : ∀ m, pkD D (k + m) = pkD D k * 32 ^ m
  | 0 => by rw [Nat.pow_zero, Nat.mul_one, Nat.add_zero]
  | m + 1 => by
    show pkD D (k + m) * 32 + D (k + m) = _
    rw [pkD_z h m, h (k + m) (by omega), Nat.add_zero, Nat.pow_succ, Nat.mul_assoc]
theorem vlK_e (h : ∀ j, k ≤ j → D j = 0) (hk : k ≤ 6) : vlK D k = pkD D 6 := by
  have e := pkD_z h (6 - k)
  rw [show k + (6 - k) = 6 by omega] at e
  rw [e]
  unfold vlK
  congr 1
  rw [show (32 : Nat) = 2 ^ 5 from rfl, ← Nat.pow_mul]
theorem vlK_lt (hk : k ≤ 6) (hd : ∀ j, D j < 32) : vlK D k < 1073741824 := by
  have h := pkD_lt k (D := D) (fun j _ => hd j)
  unfold vlK
  have e : 2 ^ (5 * (6 - k)) * 32 ^ k = 1073741824 := by
    rw [show (32 : Nat) = 2 ^ 5 from rfl, ← Nat.pow_mul, ← Nat.pow_add, show 5 * (6 - k) + 5 * k = 30 by omega]
  rw [← e, Nat.mul_comm]
  exact Nat.mul_lt_mul_of_pos_left h (Nat.pow_pos (by decide))
theorem c_packed {h : ai_H} {c : Nat} (hc : 97 ≤ c) (hc2 : c ≤ 122) (hk : k < 6) : fX7_packed n h (nI c) (nI k) = some (nI ((c - 96) * 2 ^ (5 * (5 - k))), h) := by
  unfold fX7_packed
  have e1 : nI c - (97 : Int32) + (1 : Int32) = nI (c - 96) := by
    rw [show (97 : Int32) = nI 97 from rfl, show (1 : Int32) = nI 1 from rfl, n_sub hc, nI_add]
    congr 1
    omega
  have e2 : (5 : Int32) * ((5 : Int32) - nI k) = nI (5 * (5 - k)) := by
    rw [show (5 : Int32) = nI 5 from rfl, n_sub (by omega), n_mul]
  rw [e1, e2, show (31 : Int32) = nI 31 from rfl, n_shl (by omega), Nat.shiftLeft_eq]
/-- the class's word loop: which word of the language -/
theorem c_rw87 (hn : 236 ≤ n) (hT : btT s B N) (h6 : s.1 4 6 = nI v) (hv : v < 1073741824) (h4 : s.1 4 4 = nI kd) (hkd : kd = 22 ∨ kd = 38) : ∃ s' : zS, fX7_readWord_87 n bi_K (mk s) 4 (nI 0) = some ((), mk s') ∧ frK s s' ∧ (∀ j, j ≠ 4 → s'.1 4 j = s.1 4 j) ∧ s'.1 4 4 = nI (if kd = 38 then 38 else wfW v 22 0) := by
  have n22 : (22 : Int32) = nI 22 := rfl
  refine lp_up (F := fun f (q : zS × Bool) k => fX7_readWord_87 n f (mk q.1) 4 (nI k)) (N := 22) (P := fun k q => frK s q.1 ∧ (∀ j, j ≠ 4 → q.1.1 4 j = s.1 4 j) ∧ ((q.2 = true ∧ q.1.1 4 4 = nI (if kd = 38 then 38 else wfW v 22 0) ∧ (if kd = 38 then 38 else wfW v 22 0) ≠ 22 ∧ (if kd = 38 then 38 else wfW v 22 0) ≤ 38) ∨ (q.2 = false ∧ kd = 22 ∧ q.1.1 4 4 = nI 22 ∧ wfW v 22 0 = wfW v (22 - k) k))) (Q := fun r => ∃ s' : zS, r = some ((), mk s') ∧ frK s s' ∧ (∀ j, j ≠ 4 → s'.1 4 j = s.1 4 j) ∧ s'.1 4 4 = nI (if kd = 38 then 38 else wfW v 22 0)) ?_ ?_ 22 bi_K (s, decide (kd = 38)) 0 (by omega) (by unfold bi_K; omega) ⟨frK_r, fun _ _ => rfl, ?_⟩
  · rintro f ⟨s1, b⟩ k hk ⟨g1, g2, g3⟩
    have g1 : frK s s1 := g1
    have g2 : ∀ j, j ≠ 4 → s1.1 4 j = s.1 4 j := g2
    have hT1 := btT_K hT g1
    have wk := hT1.2.2.2.2.2 k hk
    have v6 : s1.1 4 6 = nI v := by rw [g2 6 (by omega)]; exact h6
    have wd := W_pos ⟨k, hk⟩
    have wd2 : WD k < 1073741824 := wd.2
    show (∃ q : zS × Bool, fX7_readWord_87b n (fX7_readWord_87 n f) (mk s1) 4 (nI k) = _ ∧ _) ∨ ∃ s', fX7_readWord_87b n (fX7_readWord_87 n f) (mk s1) 4 (nI k) = _ ∧ _
    unfold fX7_readWord_87b fX7_readWord_120
    rw [n22]
    rcases g3 with ⟨b1, b2, b3, b4⟩ | ⟨b1, b2, b3, b4⟩
    · right
      have b2 : s1.1 4 4 = nI (if kd = 38 then 38 else wfW v 22 0) := b2
      refine ⟨s1, ?_, g1, g2, b2⟩
      simp (disch := first | omega | assumption | (simp only [wL_1, wL_22, wI_2, wA_2, wQ_1, wQ_21] <;> first | assumption | omega)) only [LIT, LITm, nI_add, n_mul, fa_or, n_31m, n_shl0, n_le, n_lt, n_eq, Option.bind_some, B_rd hn, b2, b3, not_false_eq_true, show ¬ 22 ≤ k by omega, ↓reduceIte]
    · left
      have b3 : s1.1 4 4 = nI 22 := b3
      have un : wfW v (22 - k) k = if WD k = v then k else wfW v (22 - (k + 1)) (k + 1) := by
        rw [show 22 - k = (22 - (k + 1)) + 1 by omega]
        rfl
      by_cases g : WD k = v
      · rw [un, if_pos g] at b4
        refine ⟨(wI s1 4 4 (nI k), true), ?_, frK_t g1 (frK_w (by omega)), fun j hj => ?_, Or.inl ⟨rfl, ?_, ?_, ?_⟩⟩
        · simp (disch := first | omega | assumption | (simp only [wL_1, wL_22, wI_2, wA_2, wQ_1, wQ_21] <;> first | assumption | omega)) only [LIT, LITm, nI_add, n_mul, fa_or, n_31m, n_shl0, n_le, n_lt, n_eq, Option.bind_some, B_rd hn, b3, wk, v6, g, not_true_eq_false, show ¬ 22 ≤ k by omega, ↓reduceIte]
        · show (wI s1 4 4 _).1 4 j = _
          rw [wI_at, upd_ne hj]; exact g2 j hj
        · show (wI s1 4 4 _).1 4 4 = _
          rw [wI_at, upd_at, b2, if_neg (by omega), b4]
        · rw [b2, if_neg (by omega), b4]; omega
        · rw [b2, if_neg (by omega), b4]; omega
      · rw [un, if_neg g] at b4
        refine ⟨(s1, false), ?_, g1, g2, Or.inr ⟨rfl, b2, b3, b4⟩⟩
        simp (disch := first | omega | assumption | (simp only [wL_1, wL_22, wI_2, wA_2, wQ_1, wQ_21] <;> first | assumption | omega)) only [LIT, LITm, nI_add, n_mul, fa_or, n_31m, n_shl0, n_le, n_lt, n_eq, Option.bind_some, B_rd hn, b3, wk, v6, g, not_true_eq_false, not_false_eq_true, show ¬ 22 ≤ k by omega, ↓reduceIte]
  · rintro f ⟨s1, b⟩ ⟨g1, g2, g3⟩
    refine ⟨s1, ?_, g1, g2, ?_⟩
    · show fX7_readWord_87b n (fX7_readWord_87 n f) (mk s1) 4 (nI 22) = _
      unfold fX7_readWord_87b
      rw [n22]
      simp (disch := first | omega | assumption | (simp only [wL_1, wL_22, wI_2, wA_2, wQ_1, wQ_21] <;> first | assumption | omega)) only [LIT, LITm, nI_add, n_mul, fa_or, n_31m, n_shl0, n_le, n_lt, n_eq, Option.bind_some, Nat.le_refl, ↓reduceIte]
    · rcases g3 with ⟨b1, b2, b3, b4⟩ | ⟨b1, b2, b3, b4⟩
      · exact b2
      · show s1.1 4 4 = _
        rw [b2, if_neg (by omega), b4]
        exact b3
  · rcases hkd with h | h
    · right
      refine ⟨decide_eq_false (by omega), h, ?_, rfl⟩
      rw [← h]; exact h4
    · left
      refine ⟨decide_eq_true h, ?_, ?_, ?_⟩
      · show s.1 4 4 = _
        rw [if_pos h, ← h]; exact h4
      · rw [if_pos h]; omega
      · rw [if_pos h]; omega
theorem c_word (hn : 236 ≤ n) (hT : btT s B N) (hi : s.1 4 3 = nI i) (hN : i ≤ N) (h6 : s.1 4 6 = nI 0) (h5 : s.1 4 5 = nI pl) : ∃ s' : zS, fX7_readWord n (mk s) 4 = some ((), mk s') ∧ frK s s' ∧ cTk s' (wdK B i (rnV (fun x => ltB (B x)) N i), pkV B i (rnV (fun x => ltB (B x)) N i), pl, rnV (fun x => ltB (B x)) N i) := by
  have N7 := hT.2.2.1
  obtain ⟨e, ee⟩ : ∃ e, e = rnV (fun x => ltB (B x)) N i := ⟨_, rfl⟩
  have rp := rn_p (f := fun x => ltB (B x)) (N := N) (i := i)
  rw [← ee] at rp ⊢
  have lt32 := ld_lt (B := B) (i := i) (e := e) (fun x h1 h2 => (rp.2.2.1 x h1 h2).2)
  have n97 : (97 : Int32) = nI 97 := rfl
  have n122 : (122 : Int32) = nI 122 := rfl
  have n22 : (22 : Int32) = nI 22 := rfl
  have n38 : (38 : Int32) = nI 38 := rfl
  have eN := rp.2.1 hN
  have main : ∃ s' : zS, fX7_readWord n (mk s) 4 = some ((), mk s') ∧ frK s s' ∧ cTk s' (wdK B i e, pkV B i e, pl, e) := by
    unfold fX7_readWord
    simp only [B_rd hn, Option.bind_some, LIT]
    refine lp_up (F := fun f (s1 : zS) k => fX7_readWord_2 n f (mk s1) 4 (nI k)) (N := e - i) (P := fun k s1 => frK s s1 ∧ s1.1 4 5 = nI pl ∧ s1.1 4 3 = nI (i + k) ∧ s1.1 4 6 = nI (vlK (ldV B i e) (if k < 6 then k else 6))) (Q := fun r => ∃ s' : zS, r = some ((), mk s') ∧ frK s s' ∧ cTk s' (wdK B i e, pkV B i e, pl, e)) ?_ ?_ (e - i) bi_K s 0 (by omega) (by unfold bi_K; omega) ⟨frK_r, h5, hi, ?_⟩
    · rintro f s1 k hk ⟨g1, g2, g3, g4⟩
      left
      have hT1 := btT_K hT g1
      have r1 := B_r1 hn hT1
      have t2 := hT1.2.1
      have q := rp.2.2.1 (i + k) (by omega) (by omega)
      have ql := of_decide_eq_true q.2
      have bw := c_between (l := 97) (h := 122) hn hT1 g3 (by omega) (by omega) (by omega) (by omega)
      rw [decide_eq_true ⟨q.1, ql⟩] at bw
      have bv : s1.1 2 (i + k) = nI (B (i + k)) := by rw [hT1.2.2.2.1 (i + k) q.1, by8_n (by omega)]
      show ∃ s', fX7_readWord_2b n (fX7_readWord_2 n f) (mk s1) 4 (nI k) = _ ∧ _
      unfold fX7_readWord_2b fX7_readWord_52
      rw [n97, n122]
      by_cases k6 : k < 6
      · rw [if_pos k6] at g4
        have dk : ldV B i e k = B (i + k) - 96 := by
          unfold ldV
          rw [if_pos (by omega)]
        have pk := c_packed (n := n) (h := mk s1) ql.1 ql.2 k6
        have vs := vlK_s (D := ldV B i e) k6 (lt32 k)
        rw [dk] at vs
        refine ⟨wI (wI s1 4 6 (nI (vlK (ldV B i e) (k + 1)))) 4 3 (nI (i + k + 1)), ?_, frK_t g1 (frK_t (frK_w (by omega)) (frK_w (by omega))), ?_, ?_, ?_⟩
        · have orr : nI (vlK (ldV B i e) k) ||| nI ((B (i + k) - 96) * 2 ^ (5 * (5 - k))) = nI (vlK (ldV B i e) (k + 1)) := by rw [fa_or, vs]
          simp (disch := first | omega | assumption | (simp only [wL_1, wL_22, wI_2, wA_2, wQ_1, wQ_21] <;> first | assumption | omega)) only [LIT, LITm, nI_add, n_le, n_lt, n_eq, Option.bind_some, B_rd hn, r1, g3, g4, t2, bw, bv, pk, orr, wI_at, upd_ne, Bool.toNat_true, Nat.reduceEqDiff, Nat.reduceLeDiff, show ¬ N ≤ i + k by omega, show ¬ 6 ≤ k by omega, ↓reduceIte]
        · rw [wI_at, upd_ne (by omega), wI_at, upd_ne (by omega)]; exact g2
        · rw [wI_at, upd_at]; rfl
        · rw [wI_at, upd_ne (by omega), wI_at, upd_at]
          congr 2
          by_cases q6 : k + 1 < 6
          · rw [if_pos q6]
          · rw [if_neg q6]; omega
      · rw [if_neg k6] at g4
        refine ⟨wI s1 4 3 (nI (i + k + 1)), ?_, frK_t g1 (frK_w (by omega)), ?_, ?_, ?_⟩
        · simp (disch := first | omega | assumption | (simp only [wL_1, wL_22, wI_2, wA_2, wQ_1, wQ_21] <;> first | assumption | omega)) only [LIT, LITm, nI_add, n_le, n_lt, n_eq, Option.bind_some, B_rd hn, g3, t2, bw, Bool.toNat_true, Nat.reduceEqDiff, Nat.reduceLeDiff, show ¬ N ≤ i + k by omega, show 6 ≤ k by omega, ↓reduceIte]
        · rw [wI_at, upd_ne (by omega)]; exact g2
        · rw [wI_at, upd_at]; rfl
        · rw [wI_at, upd_ne (by omega), if_neg (by omega)]; exact g4
    · rintro f s1 ⟨g1, g2, g3, g4⟩
      rw [show i + (e - i) = e by omega] at g3
      have hT1 := btT_K hT g1
      have t2 := hT1.2.1
      have bw := c_between (l := 97) (h := 122) hn hT1 g3 eN (by omega) (by omega) (by omega)
      rw [decide_eq_false (fun q => rp.2.2.2 ⟨q.1, decide_eq_true q.2⟩)] at bw
      have e6 : s1.1 4 6 = nI (pkV B i e) := by
        rw [g4]
        congr 1
        have zz : ∀ k, e - i ≤ k → ldV B i e k = 0 := fun k hk => by
          unfold ldV
          rw [if_neg (by omega)]
        by_cases q6 : e - i < 6
        · rw [if_pos q6]
          exact vlK_e zz (by omega)
        · rw [if_neg q6]
          unfold vlK
          rw [Nat.sub_self, Nat.mul_zero, Nat.pow_zero, Nat.mul_one]
          rfl
      have pl' := pkV_lt (B := B) (i := i) (e := e) (fun x h1 h2 => (rp.2.2.1 x h1 h2).2)
      obtain ⟨kd, ekd⟩ : ∃ kd, kd = if e - i ≤ 6 then 22 else 38 := ⟨_, rfl⟩
      obtain ⟨s2, es2⟩ : ∃ s2 : zS, s2 = wI s1 4 4 (nI kd) := ⟨_, rfl⟩
      have f2 : frK s1 s2 := by rw [es2]; exact frK_w (by omega)
      obtain ⟨s3, e3, f3, o3, k3⟩ := c_rw87 (kd := kd) hn (btT_K hT1 f2) (by rw [es2, wI_at, upd_ne (by omega)]; exact e6) pl' (by rw [es2, wI_at, upd_at]) (by rw [ekd]; split <;> omega)
      refine ⟨s3, ?_, frK_t g1 (frK_t f2 f3), ?_, ?_, ?_, ?_⟩
      · have pre : fX7_readWord_68 n (mk s1) 4 (nI (e - i)) = some ((), mk s3) := by
          unfold fX7_readWord_68 fX7_readWord_82
          rw [n22, n38]
          by_cases q6 : e - i ≤ 6
          · rw [if_pos q6] at ekd
            rw [ekd] at es2
            simp (disch := first | omega | assumption | (simp only [wL_1, wL_22, wI_2, wA_2, wQ_1, wQ_21] <;> first | assumption | omega)) only [LIT, LITm, nI_add, n_mul, fa_or, n_31m, n_shl0, n_le, n_lt, n_eq, Option.bind_some, B_rd hn, q6, ↓reduceIte]
            rw [← es2]
            exact e3
          · rw [if_neg q6] at ekd
            rw [ekd] at es2
            simp (disch := first | omega | assumption | (simp only [wL_1, wL_22, wI_2, wA_2, wQ_1, wQ_21] <;> first | assumption | omega)) only [LIT, LITm, nI_add, n_mul, fa_or, n_31m, n_shl0, n_le, n_lt, n_eq, Option.bind_some, B_rd hn, q6, ↓reduceIte]
            rw [← es2]
            exact e3
        show fX7_readWord_2b n (fX7_readWord_2 n f) (mk s1) 4 (nI (e - i)) = _
        unfold fX7_readWord_2b
        rw [n97, n122]
        by_cases gN : e < N
        · simp (disch := first | omega | assumption | (simp only [wL_1, wL_22, wI_2, wA_2, wQ_1, wQ_21] <;> first | assumption | omega)) only [LIT, LITm, n_le, n_lt, n_eq, Option.bind_some, B_rd hn, g3, t2, bw, Bool.toNat_false, show ¬ N ≤ e by omega, ↓reduceIte]
          exact pre
        · simp (disch := first | omega | assumption | (simp only [wL_1, wL_22, wI_2, wA_2, wQ_1, wQ_21] <;> first | assumption | omega)) only [LIT, LITm, n_le, n_lt, n_eq, Option.bind_some, B_rd hn, g3, t2, show N ≤ e by omega, ↓reduceIte]
          exact pre
      · show s3.1 4 4 = nI (wdK B i e)
        rw [k3, ekd]
        unfold wdK
        by_cases q6 : e - i ≤ 6
        · rw [if_pos q6, if_neg (by omega), if_neg (by omega)]
        · rw [if_neg q6, if_pos rfl, if_pos (by omega)]
      · show s3.1 4 6 = nI (pkV B i e)
        rw [o3 6 (by omega), es2, wI_at, upd_ne (by omega)]; exact e6
      · show s3.1 4 5 = nI pl
        rw [o3 5 (by omega), es2, wI_at, upd_ne (by omega)]; exact g2
      · show s3.1 4 3 = nI e
        rw [o3 3 (by omega), es2, wI_at, upd_ne (by omega)]; exact g3
    · rw [if_pos (by omega)]
      unfold vlK
      show s.1 4 6 = nI (0 * _)
      rw [Nat.zero_mul]
      exact h6
  exact main
theorem c_adv (hn : 236 ≤ n) (hT : btT s B N) (hi : s.1 4 3 = nI i) (hN : i ≤ N) : ∃ s' : zS, fX7_advance n (mk s) 4 = some ((), mk s') ∧ frK s s' ∧ cTk s' (lxV B N i) := by
  have N7 := hT.2.2.1
  have n32 : (32 : Int32) = nI 32 := rfl
  have n10 : (10 : Int32) = nI 10 := rfl
  have n97 : (97 : Int32) = nI 97 := rfl
  have n122 : (122 : Int32) = nI 122 := rfl
  have n48 : (48 : Int32) = nI 48 := rfl
  have n57 : (57 : Int32) = nI 57 := rfl
  have n37 : (37 : Int32) = nI 37 := rfl
  unfold fX7_advance
  simp only [B_rd hn, Option.bind_some]
  have tl : ∀ (s1 : zS) (j : Nat), frK s s1 → s1.1 4 3 = nI j → j ≤ N → ∃ s' : zS, fX7_advance_52 n (mk s1) 4 = some ((), mk s') ∧ frK s s' ∧ cTk s' (lxJ B N j) := by
    intro s1 j f1 g3 jN
    obtain ⟨s2, es2⟩ : ∃ s2 : zS, s2 = wI (wI s1 4 5 (nI j)) 4 6 (nI 0) := ⟨_, rfl⟩
    have f2 : frK s s2 := frK_t f1 (by rw [es2]; exact frK_t (frK_w (by omega)) (frK_w (by omega)))
    have hT2 := btT_K hT f2
    have i2 : s2.1 4 3 = nI j := by rw [es2, wI_at, upd_ne (by omega), wI_at, upd_ne (by omega)]; exact g3
    have p2 : s2.1 4 5 = nI j := by rw [es2, wI_at, upd_ne (by omega), wI_at, upd_at]
    have v2 : s2.1 4 6 = nI 0 := by rw [es2, wI_at, upd_at]
    have t2 := hT2.2.1
    have bw := c_between (l := 97) (h := 122) hn hT2 i2 jN (by omega) (by omega) (by omega)
    have bd := c_between (l := 48) (h := 57) hn hT2 i2 jN (by omega) (by omega) (by omega)
    have w1 : sF n (mk s1) 4 7 5 .int (.int (nI j)) = some (mk (wI s1 4 5 (nI j))) := by simp only [B_rd hn]
    have w2 : sF n (mk (wI s1 4 5 (nI j))) 4 7 6 .int (.int (0 : Int32)) = some (mk s2) := by
      rw [show (0 : Int32) = nI 0 from rfl, es2]
      simp only [B_rd hn]
    unfold fX7_advance_52 lxJ
    rw [bnd_s (v := nI j) (by simp only [B_rd hn, g3]), bnd_s w1, bnd_s w2, bnd_s (v := nI j) (by simp only [B_rd hn, i2]), bnd_s (v := nI N) (by simp only [B_rd hn, t2]), n97, n122, n48, n57, n37]
    by_cases gN : j < N
    · rw [if_neg (show ¬ N ≤ j by omega)]
      by_cases gl : ltB (B j) = true
      · rw [if_pos gl]
        rw [decide_eq_true ⟨gN, of_decide_eq_true gl⟩] at bw
        obtain ⟨s3, e3, f3, k3⟩ := c_word (pl := j) hn hT2 i2 jN v2 p2
        refine ⟨s3, ?_, frK_t f2 f3, k3⟩
        simp (disch := first | omega | assumption | (simp only [wL_1, wL_22, wI_2, wA_2, wQ_1, wQ_21] <;> first | assumption | omega)) only [LIT, n_lt, n_eq, Option.bind_some, gN, bw, e3, Bool.toNat_true, Nat.reduceEqDiff, Nat.reduceLeDiff, ↓reduceIte]
      · rw [if_neg gl]
        rw [decide_eq_false (fun q => gl (decide_eq_true q.2))] at bw
        by_cases gd : dtB (B j) = true
        · rw [if_pos gd]
          rw [decide_eq_true ⟨gN, of_decide_eq_true gd⟩] at bd
          obtain ⟨s3, e3, f3, a5, a4, a6, a3⟩ := c_digits hn hT2 i2 jN v2
          refine ⟨s3, ?_, frK_t f2 f3, a4, a6, by rw [a5]; exact p2, a3⟩
          simp (disch := first | omega | assumption | (simp only [wL_1, wL_22, wI_2, wA_2, wQ_1, wQ_21] <;> first | assumption | omega)) only [LIT, n_lt, n_eq, Option.bind_some, gN, bw, bd, e3, Bool.toNat_true, Bool.toNat_false, Nat.reduceEqDiff, Nat.reduceLeDiff, ↓reduceIte]
        · rw [if_neg gd]
          rw [decide_eq_false (fun q => gd (decide_eq_true q.2))] at bd
          obtain ⟨s3, e3, f3, a3, a5, a6⟩ := c_sign hn hT2 i2 gN
          refine ⟨wI s3 4 4 (nI (sgV B N j).1), ?_, frK_t f2 (frK_t f3 (frK_w (by omega))), ?_, ?_, ?_, ?_⟩
          · simp (disch := first | omega | assumption | (simp only [wL_1, wL_22, wI_2, wA_2, wQ_1, wQ_21] <;> first | assumption | omega)) only [LIT, n_lt, n_eq, Option.bind_some, gN, bw, bd, e3, B_rd hn, Bool.toNat_false, ↓reduceIte]
          · rw [wI_at, upd_at]
          · rw [wI_at, upd_ne (by omega), a6]; exact v2
          · rw [wI_at, upd_ne (by omega), a5]; exact p2
          · rw [wI_at, upd_ne (by omega)]; exact a3
    · rw [if_pos (show N ≤ j by omega)]
      refine ⟨wI s2 4 4 (nI 37), ?_, frK_t f2 (frK_w (by omega)), ?_, ?_, ?_, ?_⟩
      · simp (disch := first | omega | assumption | (simp only [wL_1, wL_22, wI_2, wA_2, wQ_1, wQ_21] <;> first | assumption | omega)) only [n_lt, Option.bind_some, gN, B_rd hn, ↓reduceIte]
      · rw [wI_at, upd_at]
      · rw [wI_at, upd_ne (by omega)]; exact v2
      · rw [wI_at, upd_ne (by omega)]; exact p2
      · rw [wI_at, upd_ne (by omega)]; exact i2
  refine lp_ms (F := fun f (q : zS × Nat) => fX7_advance_0 n f (mk q.1) 4) (μ := fun q => N - q.2) (P := fun q => frK s q.1 ∧ q.1.1 4 3 = nI q.2 ∧ q.2 ≤ N ∧ rnV (fun x => bkB (B x)) N q.2 = rnV (fun x => bkB (B x)) N i) (Q := fun r => ∃ s' : zS, r = some ((), mk s') ∧ frK s s' ∧ cTk s' (lxV B N i)) ?_ N bi_K (s, i) (by show N - i ≤ N; omega) (by unfold bi_K; omega) ⟨frK_r, hi, hN, rfl⟩
  rintro f ⟨s1, j⟩ ⟨g1, g3, g5, g6⟩
  have g1 : frK s s1 := g1
  have g3 : s1.1 4 3 = nI j := g3
  have g5 : j ≤ N := g5
  have g6 : rnV (fun x => bkB (B x)) N j = rnV (fun x => bkB (B x)) N i := g6
  have hT1 := btT_K hT g1
  have r1 := B_r1 hn hT1
  have t2 := hT1.2.1
  obtain ⟨s2, e2, f2, k2⟩ := tl s1 j g1 g3 g5
  have stop : ¬ (j < N ∧ bkB (B j) = true) → ∃ s' : zS, fX7_advance_52 n (mk s1) 4 = some ((), mk s') ∧ frK s s' ∧ cTk s' (lxV B N i) := fun g => by
    refine ⟨s2, e2, f2, ?_⟩
    unfold lxV
    rw [← g6, rn_0 (f := fun x => bkB (B x)) g]
    exact k2
  show (∃ q : zS × Nat, fX7_advance_0b n (fX7_advance_0 n f) (mk s1) 4 = _ ∧ _) ∨ ∃ s', fX7_advance_0b n (fX7_advance_0 n f) (mk s1) 4 = _ ∧ _
  unfold fX7_advance_0b fX7_advance_39
  rw [n32, n10]
  by_cases gN : j < N
  · have bv := hT1.2.2.2.1 j gN
    have c32 := by8_eq (k := 32) (hT1.2.2.2.2.1 j) (by omega)
    have c10 := by8_eq (k := 10) (hT1.2.2.2.2.1 j) (by omega)
    have on : bkB (B j) = true → (∃ q : zS × Nat, fX7_advance_0 n f (mk (wI s1 4 3 (nI (j + 1)))) 4 = fX7_advance_0 n f (mk q.1) 4 ∧ (frK s q.1 ∧ q.1.1 4 3 = nI q.2 ∧ q.2 ≤ N ∧ rnV (fun x => bkB (B x)) N q.2 = rnV (fun x => bkB (B x)) N i) ∧ N - q.2 < N - j) := fun g => by
      refine ⟨(wI s1 4 3 (nI (j + 1)), j + 1), rfl, ⟨frK_t g1 (frK_w (by omega)), ?_, by show j + 1 ≤ N; omega, ?_⟩, by show N - (j + 1) < N - j; omega⟩
      · show (wI s1 4 3 _).1 4 3 = _
        rw [wI_at, upd_at]
      · show rnV _ N (j + 1) = _
        rw [← rn_s (f := fun x => bkB (B x)) gN g]
        exact g6
    by_cases b32 : B j = 32
    · left
      have c32' : (by8 (B j) = nI 32) = True := by rw [c32]; simp [b32]
      obtain ⟨q, q1, q2⟩ := on (decide_eq_true (Or.inr b32))
      refine ⟨q, ?_, q2⟩
      rw [← q1]
      simp (disch := first | omega | assumption | (simp only [wL_1, wL_22, wI_2, wA_2, wQ_1, wQ_21] <;> first | assumption | omega)) only [LIT, LITm, nI_add, n_mul, fa_or, n_31m, n_shl0, n_le, n_lt, n_eq, Option.bind_some, B_rd hn, r1, g3, t2, bv, c32', if_true, show ¬ N ≤ j by omega, ↓reduceIte]
    · have c32' : (by8 (B j) = nI 32) = False := by rw [c32]; simp [b32]
      by_cases b10 : B j = 10
      · left
        have c10' : (by8 (B j) = nI 10) = True := by rw [c10]; simp [b10]
        obtain ⟨q, q1, q2⟩ := on (decide_eq_true (Or.inl b10))
        refine ⟨q, ?_, q2⟩
        rw [← q1]
        simp (disch := first | omega | assumption | (simp only [wL_1, wL_22, wI_2, wA_2, wQ_1, wQ_21] <;> first | assumption | omega)) only [LIT, LITm, nI_add, n_mul, fa_or, n_31m, n_shl0, n_le, n_lt, n_eq, Option.bind_some, B_rd hn, r1, g3, t2, bv, c32', c10', if_false, not_true_eq_false, show ¬ N ≤ j by omega, ↓reduceIte]
      · right
        have c10' : (by8 (B j) = nI 10) = False := by rw [c10]; simp [b10]
        have st := stop (fun q => by
          have := of_decide_eq_true q.2
          omega)
        simp (disch := first | omega | assumption | (simp only [wL_1, wL_22, wI_2, wA_2, wQ_1, wQ_21] <;> first | assumption | omega)) only [LIT, LITm, nI_add, n_mul, fa_or, n_31m, n_shl0, n_le, n_lt, n_eq, Option.bind_some, B_rd hn, r1, g3, t2, bv, c32', c10', if_false, not_false_eq_true, show ¬ N ≤ j by omega, ↓reduceIte]
        exact st
  · right
    have st := stop (fun q => gN q.1)
    simp (disch := first | omega | assumption | (simp only [wL_1, wL_22, wI_2, wA_2, wQ_1, wQ_21] <;> first | assumption | omega)) only [LIT, LITm, nI_add, n_mul, fa_or, n_31m, n_shl0, n_le, n_lt, n_eq, Option.bind_some, B_rd hn, g3, t2, show N ≤ j by omega, ↓reduceIte]
    exact st
end Cx3
