/-! ===== the text's tokens: the reference ===== -/
section Mx
variable {n N i j e k v kd pl : Nat} {s : zS} {B D : Nat → Nat}
def mtT (s : zS) (B : Nat → Nat) (N : Nat) : Prop := s.1 187 6 = nI N ∧ N ≤ 700 ∧ (∀ i, i < N → s.1 188 i = nI (B i)) ∧ (∀ i, B i < 256) ∧ ∀ i, i < 108 → s.1 189 i = nI (WC i)
def frR (s s' : zS) : Prop := s'.2 = s.2 ∧ (∀ a, a ≠ 187 → s'.1 a = s.1 a) ∧ ∀ j, j ≠ 7 → j ≠ 8 → j ≠ 9 → j ≠ 10 → s'.1 187 j = s.1 187 j
theorem frR_r : frR s s := ⟨rfl, fun _ _ => rfl, fun _ _ _ _ _ => rfl⟩
theorem frR_t {s1 s2 : zS} (h : frR s s1) (g : frR s1 s2) : frR s s2 := ⟨g.1.trans h.1, fun a ha => (g.2.1 a ha).trans (h.2.1 a ha), fun j h1 h2 h3 h4 => (g.2.2 j h1 h2 h3 h4).trans (h.2.2 j h1 h2 h3 h4)⟩
theorem frR_w {x : Int32} (h : j = 7 ∨ j = 8 ∨ j = 9 ∨ j = 10) : frR s (wI s 187 j x) := ⟨rfl, fun a ha => wI_ne ha, fun k h1 h2 h3 h4 => by rw [wI_at, upd_ne (by omega)]⟩
theorem mtT_R {s' : zS} (h : mtT s B N) (f : frR s s') : mtT s' B N := ⟨by rw [f.2.2 6 (by omega) (by omega) (by omega) (by omega)]; exact h.1, h.2.1, fun i hi => by rw [f.2.1 188 (by omega)]; exact h.2.2.1 i hi, h.2.2.2.1, fun k hk => by rw [f.2.1 189 (by omega)]; exact h.2.2.2.2 k hk⟩
def sgC (k : Nat) : Nat := if k = 24 then 59 else if k = 25 then 40 else if k = 26 then 41 else if k = 33 then 43 else if k = 34 then 45 else if k = 35 then 42 else if k = 36 then 47 else 0
/-- the reference's kind and number for the class's -/
def tkR (x y : Int32) (kd vl : Nat) : Prop :=
  (kd = 37 ∧ x = nI 0) ∨ (kd < 22 ∧ x = nI 1 ∧ y = nI (sw kd)) ∨ (kd = 22 ∧ x = nI 2 ∧ y = nI vl) ∨ (kd = 23 ∧ x = nI 3 ∧ y = nI vl) ∨ (27 ≤ kd ∧ kd ≤ 32 ∧ x = nI 5 ∧ y = nI (kd - 27)) ∨ (sgC kd ≠ 0 ∧ x = nI 4 ∧ y = nI (sgC kd)) ∨ (kd = 38 ∧ (x = nI 6 ∨ (x = nI 4 ∧ y = nI 37)))
def mTk (s : zS) (k : zK) : Prop := tkR (s.1 187 8) (s.1 187 9) k.1 k.2.1 ∧ s.1 187 10 = nI k.2.2.1 ∧ s.1 187 7 = nI k.2.2.2
theorem m_small (hn : 239 ≤ n) (hT : mtT s B N) (hN : i ≤ N) : fX11_isSmall n (mk s) 187 (nI i) = some (nI (decide (i < N ∧ ltB (B i) = true)).toNat, mk s) := by
  obtain ⟨t1, t2, t3, t4, t5⟩ := hT
  have n97 : (97 : Int32) = nI 97 := rfl
  have n122 : (122 : Int32) = nI 122 := rfl
  unfold fX11_isSmall
  rw [n97, n122]
  by_cases g : i < N
  · have b := t3 i g
    have b5 := t4 i
    by_cases g1 : B i < 97
    · rw [decide_eq_false (fun q => by have := of_decide_eq_true q.2; omega)]
      simp (disch := first | omega | assumption | (simp only [wL_1, wL_22, wI_2, wA_2, wQ_1, wQ_21] <;> first | assumption | omega)) only [LIT, LITm, nI_add, n_mul, fa_or, n_31m, n_shl0, n_le, n_lt, n_eq, Option.bind_some, B_m hn, B_ma hn, t1, b, g1, Bool.toNat_false, show ¬ N ≤ i by omega, ↓reduceIte]
    · by_cases g2 : 122 < B i
      · rw [decide_eq_false (fun q => by have := of_decide_eq_true q.2; omega)]
        simp (disch := first | omega | assumption | (simp only [wL_1, wL_22, wI_2, wA_2, wQ_1, wQ_21] <;> first | assumption | omega)) only [LIT, LITm, nI_add, n_mul, fa_or, n_31m, n_shl0, n_le, n_lt, n_eq, Option.bind_some, B_m hn, B_ma hn, t1, b, g1, g2, Bool.toNat_false, show ¬ N ≤ i by omega, ↓reduceIte]
      · rw [decide_eq_true ⟨g, decide_eq_true (by omega)⟩]
        simp (disch := first | omega | assumption | (simp only [wL_1, wL_22, wI_2, wA_2, wQ_1, wQ_21] <;> first | assumption | omega)) only [LIT, LITm, nI_add, n_mul, fa_or, n_31m, n_shl0, n_le, n_lt, n_eq, Option.bind_some, B_m hn, B_ma hn, t1, b, g1, g2, Bool.toNat_true, show ¬ N ≤ i by omega, ↓reduceIte]
  · rw [decide_eq_false (fun q => g q.1)]
    simp (disch := first | omega | assumption | (simp only [wL_1, wL_22, wI_2, wA_2, wQ_1, wQ_21] <;> first | assumption | omega)) only [LIT, LITm, nI_add, n_mul, fa_or, n_31m, n_shl0, n_le, n_lt, n_eq, Option.bind_some, B_m hn, t1, Bool.toNat_false, show N ≤ i by omega, ↓reduceIte]
theorem m_digitB (hn : 239 ≤ n) (hT : mtT s B N) (hN : i ≤ N) : fX11_isDigit n (mk s) 187 (nI i) = some (nI (decide (i < N ∧ dtB (B i) = true)).toNat, mk s) := by
  obtain ⟨t1, t2, t3, t4, t5⟩ := hT
  have n97 : (48 : Int32) = nI 48 := rfl
  have n122 : (57 : Int32) = nI 57 := rfl
  unfold fX11_isDigit
  rw [n97, n122]
  by_cases g : i < N
  · have b := t3 i g
    have b5 := t4 i
    by_cases g1 : B i < 48
    · rw [decide_eq_false (fun q => by have := of_decide_eq_true q.2; omega)]
      simp (disch := first | omega | assumption | (simp only [wL_1, wL_22, wI_2, wA_2, wQ_1, wQ_21] <;> first | assumption | omega)) only [LIT, LITm, nI_add, n_mul, fa_or, n_31m, n_shl0, n_le, n_lt, n_eq, Option.bind_some, B_m hn, B_ma hn, t1, b, g1, Bool.toNat_false, show ¬ N ≤ i by omega, ↓reduceIte]
    · by_cases g2 : 57 < B i
      · rw [decide_eq_false (fun q => by have := of_decide_eq_true q.2; omega)]
        simp (disch := first | omega | assumption | (simp only [wL_1, wL_22, wI_2, wA_2, wQ_1, wQ_21] <;> first | assumption | omega)) only [LIT, LITm, nI_add, n_mul, fa_or, n_31m, n_shl0, n_le, n_lt, n_eq, Option.bind_some, B_m hn, B_ma hn, t1, b, g1, g2, Bool.toNat_false, show ¬ N ≤ i by omega, ↓reduceIte]
      · rw [decide_eq_true ⟨g, decide_eq_true (by omega)⟩]
        simp (disch := first | omega | assumption | (simp only [wL_1, wL_22, wI_2, wA_2, wQ_1, wQ_21] <;> first | assumption | omega)) only [LIT, LITm, nI_add, n_mul, fa_or, n_31m, n_shl0, n_le, n_lt, n_eq, Option.bind_some, B_m hn, B_ma hn, t1, b, g1, g2, Bool.toNat_true, show ¬ N ≤ i by omega, ↓reduceIte]
  · rw [decide_eq_false (fun q => g q.1)]
    simp (disch := first | omega | assumption | (simp only [wL_1, wL_22, wI_2, wA_2, wQ_1, wQ_21] <;> first | assumption | omega)) only [LIT, LITm, nI_add, n_mul, fa_or, n_31m, n_shl0, n_le, n_lt, n_eq, Option.bind_some, B_m hn, t1, Bool.toNat_false, show N ≤ i by omega, ↓reduceIte]
theorem m_wordAt (hn : 239 ≤ n) (hT : mtT s B N) (hie : i ≤ e) (heN : e ≤ N) : ∃ o : Option Nat, (o = none → ∀ k, k < 22 → ¬ isW B i e k) ∧ (∀ k, o = some k → k < 22 ∧ isW B i e k) ∧ fX11_wordAt n (mk s) 187 (nI i) (nI e) = some (oV o, mk s) := by
  obtain ⟨t1, t2, t3, t4, t5⟩ := hT
  have n32 : (32 : Int32) = nI 32 := rfl
  have WB22 : WB 22 = 108 := W_tab.2.2
  have WB0 : WB 0 = 0 := W_tab.2.1
  have la : lA n (mk s) 189 = some (nI 108) := by simp only [B_ma hn]
  unfold fX11_wordAt
  simp only [B_m hn, Option.bind_some, LIT]
  rw [show nI 0 = nI (WB 0) by rw [WB0]]
  refine lp_up (F := fun f (_ : Unit) k => fX11_wordAt_5 n f (mk s) 187 (nI i) (nI e) (nI k) (nI (WB k))) (N := 22) (P := fun k _ => ∀ k', k' < k → ¬ isW B i e k') (Q := fun r => ∃ o : Option Nat, (o = none → ∀ k, k < 22 → ¬ isW B i e k) ∧ (∀ k, o = some k → k < 22 ∧ isW B i e k) ∧ r = some (oV o, mk s)) ?_ ?_ 22 bi_K () 0 (by omega) (by unfold bi_K; omega) (fun j h => absurd h (Nat.not_lt_zero j))
  · intro f _ k hk hP
    obtain ⟨w1, w2, w3, w4, w5, w6, w7⟩ := W_tab.1 ⟨k, hk⟩
    have w1 : WB (k + 1) = WB k + WN k + 1 := w1
    have w3 : WN k ≤ 6 := w3
    have w4 : WC (WB k + WN k) = 32 := w4
    have w6 : WB k + WN k < 108 := w6
    have w7 : ∀ j, j < WN k → 97 ≤ WC (WB k + j) ∧ WC (WB k + j) ≤ 122 := fun j hj => w7 ⟨j, by omega⟩ hj
    have pre : fX11_wordAt_5 n (f + 1) (mk s) 187 (nI i) (nI e) (nI k) (nI (WB k)) = fX11_wordAt_18 n (fX11_wordAt_5 n f) bi_K (mk s) 187 (nI i) (nI e) (nI k) (nI (WB k)) (nI 0) := by
      show fX11_wordAt_5b n (fX11_wordAt_5 n f) (mk s) 187 (nI i) (nI e) (nI k) (nI (WB k)) = _
      unfold fX11_wordAt_5b
      simp (disch := first | omega | assumption | (simp only [wL_1, wL_22, wI_2, wA_2, wQ_1, wQ_21] <;> first | assumption | omega)) only [LIT, LITm, nI_add, n_mul, fa_or, n_31m, n_shl0, n_le, n_lt, n_eq, Option.bind_some, B_m hn, la, show ¬ 108 ≤ WB k by omega, ↓reduceIte]
    have l18 : fX11_wordAt_18 n (fX11_wordAt_5 n f) bi_K (mk s) 187 (nI i) (nI e) (nI k) (nI (WB k)) (nI 0) = fX11_wordAt_57 n (fX11_wordAt_5 n f) bi_K (mk s) 187 (nI i) (nI e) (nI k) (nI (WB k)) (nI (WN k)) (nI (decide (WN k = e - i)).toNat) (nI 0) := by
      refine lp_up (F := fun f' (_ : Unit) m => fX11_wordAt_18 n (fX11_wordAt_5 n f) f' (mk s) 187 (nI i) (nI e) (nI k) (nI (WB k)) (nI m)) (N := WN k) (P := fun _ _ => True) (Q := fun r => r = fX11_wordAt_57 n (fX11_wordAt_5 n f) bi_K (mk s) 187 (nI i) (nI e) (nI k) (nI (WB k)) (nI (WN k)) (nI (decide (WN k = e - i)).toNat) (nI 0)) ?_ ?_ (WN k) bi_K () 0 (by omega) (by unfold bi_K; omega) trivial
      · intro f' _ m hm _
        left
        refine ⟨(), ?_, trivial⟩
        have c := t5 (WB k + m) (by omega)
        have w := w7 m hm
        show fX11_wordAt_18b n (fX11_wordAt_5 n f) (fX11_wordAt_18 n (fX11_wordAt_5 n f) f') (mk s) 187 (nI i) (nI e) (nI k) (nI (WB k)) (nI m) = _
        unfold fX11_wordAt_18b
        rw [n32]
        simp (disch := first | omega | assumption | (simp only [wL_1, wL_22, wI_2, wA_2, wQ_1, wQ_21] <;> first | assumption | omega)) only [LIT, LITm, nI_add, n_mul, fa_or, n_31m, n_shl0, n_le, n_lt, n_eq, Option.bind_some, B_m hn, B_ma hn, c, show ¬ WC (WB k + m) = 32 by omega, ↓reduceIte]
      · intro f' _ _
        have c := t5 (WB k + WN k) (by omega)
        rw [w4] at c
        show fX11_wordAt_18b n (fX11_wordAt_5 n f) (fX11_wordAt_18 n (fX11_wordAt_5 n f) f') (mk s) 187 (nI i) (nI e) (nI k) (nI (WB k)) (nI (WN k)) = _
        unfold fX11_wordAt_18b fX11_wordAt_52
        rw [n32]
        by_cases q : WN k = e - i
        · rw [decide_eq_true q]
          simp (disch := first | omega | assumption | (simp only [wL_1, wL_22, wI_2, wA_2, wQ_1, wQ_21] <;> first | assumption | omega)) only [LIT, LITm, nI_add, n_mul, fa_or, n_31m, n_shl0, n_le, n_lt, n_eq, Option.bind_some, B_m hn, B_ma hn, c, n_sub, ← q, not_true_eq_false, Bool.toNat_true, ↓reduceIte]
        · rw [decide_eq_false q]
          simp (disch := first | omega | assumption | (simp only [wL_1, wL_22, wI_2, wA_2, wQ_1, wQ_21] <;> first | assumption | omega)) only [LIT, LITm, nI_add, n_mul, fa_or, n_31m, n_shl0, n_le, n_lt, n_eq, Option.bind_some, B_m hn, B_ma hn, c, n_sub, q, not_false_eq_true, Bool.toNat_false, ↓reduceIte]
    show (∃ s', fX11_wordAt_5 n (f + 1) (mk s) 187 (nI i) (nI e) (nI k) (nI (WB k)) = fX11_wordAt_5 n f (mk s) 187 (nI i) (nI e) (nI (k + 1)) (nI (WB (k + 1))) ∧ _) ∨ ∃ o : Option Nat, _ ∧ _ ∧ fX11_wordAt_5 n (f + 1) (mk s) 187 (nI i) (nI e) (nI k) (nI (WB k)) = _
    rw [pre, l18]
    have out : ∀ b : Bool, fX11_wordAt_104 n (fX11_wordAt_5 n f) (mk s) 187 (nI i) (nI e) (nI k) (nI (WB k)) (nI (WN k)) (nI b.toNat) = if b = true then some (nI k, mk s) else fX11_wordAt_5 n f (mk s) 187 (nI i) (nI e) (nI (k + 1)) (nI (WB (k + 1))) := by
      intro b
      unfold fX11_wordAt_104
      rw [w1]
      cases b with
      | true => simp (disch := first | omega | assumption | (simp only [wL_1, wL_22, wI_2, wA_2, wQ_1, wQ_21] <;> first | assumption | omega)) only [LIT, LITm, nI_add, n_mul, fa_or, n_31m, n_shl0, n_le, n_lt, n_eq, Option.bind_some, Bool.toNat_true, Nat.reduceEqDiff, Nat.reduceLeDiff, if_true, ↓reduceIte]
      | false =>
        simp (disch := first | omega | assumption | (simp only [wL_1, wL_22, wI_2, wA_2, wQ_1, wQ_21] <;> first | assumption | omega)) only [LIT, LITm, nI_add, n_mul, fa_or, n_31m, n_shl0, n_le, n_lt, n_eq, Option.bind_some, Bool.toNat_false, Bool.false_eq_true, if_false, ↓reduceIte]
        rw [Nat.add_assoc]
    have l57 : ∃ b : Bool, (b = true ↔ isW B i e k) ∧ fX11_wordAt_57 n (fX11_wordAt_5 n f) bi_K (mk s) 187 (nI i) (nI e) (nI k) (nI (WB k)) (nI (WN k)) (nI (decide (WN k = e - i)).toNat) (nI 0) = if b = true then some (nI k, mk s) else fX11_wordAt_5 n f (mk s) 187 (nI i) (nI e) (nI (k + 1)) (nI (WB (k + 1))) := by
      refine lp_up (F := fun f' (b : Bool) m => fX11_wordAt_57 n (fX11_wordAt_5 n f) f' (mk s) 187 (nI i) (nI e) (nI k) (nI (WB k)) (nI (WN k)) (nI b.toNat) (nI m)) (N := WN k) (P := fun m b => b = true ↔ (WN k = e - i ∧ ∀ j, j < m → B (i + j) = WC (WB k + j))) (Q := fun r => ∃ b : Bool, (b = true ↔ isW B i e k) ∧ r = if b = true then some (nI k, mk s) else fX11_wordAt_5 n f (mk s) 187 (nI i) (nI e) (nI (k + 1)) (nI (WB (k + 1)))) ?_ ?_ (WN k) bi_K (decide (WN k = e - i)) 0 (by omega) (by unfold bi_K; omega) ⟨fun h => ⟨of_decide_eq_true h, fun j hj => absurd hj (Nat.not_lt_zero j)⟩, fun h => decide_eq_true h.1⟩
      · intro f' b m hm hb
        show (∃ b', fX11_wordAt_57b n (fX11_wordAt_5 n f) (fX11_wordAt_57 n (fX11_wordAt_5 n f) f') (mk s) 187 (nI i) (nI e) (nI k) (nI (WB k)) (nI (WN k)) (nI b.toNat) (nI m) = _ ∧ _) ∨ ∃ b' : Bool, _ ∧ fX11_wordAt_57b n (fX11_wordAt_5 n f) (fX11_wordAt_57 n (fX11_wordAt_5 n f) f') (mk s) 187 (nI i) (nI e) (nI k) (nI (WB k)) (nI (WN k)) (nI b.toNat) (nI m) = _
        unfold fX11_wordAt_57b fX11_wordAt_96
        cases b with
        | false =>
          right
          refine ⟨false, ⟨fun h => (by cases h), fun h => hb.mpr ⟨h.1.symm, fun j hj => h.2 j (by omega)⟩⟩, ?_⟩
          rw [← out false]
          simp (disch := first | omega | assumption | (simp only [wL_1, wL_22, wI_2, wA_2, wQ_1, wQ_21] <;> first | assumption | omega)) only [LIT, LITm, nI_add, n_mul, fa_or, n_31m, n_shl0, n_le, n_lt, n_eq, Option.bind_some, Bool.toNat_false, show ¬ WN k ≤ m by omega, ↓reduceIte]
        | true =>
          left
          obtain ⟨q1, q2⟩ := hb.mp rfl
          have c := t5 (WB k + m) (by omega)
          have b1 := t3 (i + m) (by omega)
          have b2 := t4 (i + m)
          have w := w7 m hm
          by_cases q : WC (WB k + m) = B (i + m)
          · refine ⟨true, ?_, ⟨fun _ => ⟨q1, fun j hj => ?_⟩, fun _ => rfl⟩⟩
            · simp (disch := first | omega | assumption | (simp only [wL_1, wL_22, wI_2, wA_2, wQ_1, wQ_21] <;> first | assumption | omega)) only [LIT, LITm, nI_add, n_mul, fa_or, n_31m, n_shl0, n_le, n_lt, n_eq, Option.bind_some, B_m hn, B_ma hn, c, b1, q, Bool.toNat_true, Nat.reduceEqDiff, Nat.reduceLeDiff, not_true_eq_false, show ¬ WN k ≤ m by omega, ↓reduceIte]
            · by_cases r : j = m
              · rw [r]; exact q.symm
              · exact q2 j (by omega)
          · refine ⟨false, ?_, ⟨fun h => (by cases h), fun h => absurd (h.2 m (by omega)).symm q⟩⟩
            simp (disch := first | omega | assumption | (simp only [wL_1, wL_22, wI_2, wA_2, wQ_1, wQ_21] <;> first | assumption | omega)) only [LIT, LITm, nI_add, n_mul, fa_or, n_31m, n_shl0, n_le, n_lt, n_eq, Option.bind_some, B_m hn, B_ma hn, c, b1, q, Bool.toNat_true, Bool.toNat_false, Nat.reduceEqDiff, Nat.reduceLeDiff, not_false_eq_true, show ¬ WN k ≤ m by omega, ↓reduceIte]
      · intro f' b hb
        refine ⟨b, ⟨fun h => ⟨(hb.mp h).1.symm, (hb.mp h).2⟩, fun h => hb.mpr ⟨h.1.symm, h.2⟩⟩, ?_⟩
        rw [← out b]
        show fX11_wordAt_57b n (fX11_wordAt_5 n f) (fX11_wordAt_57 n (fX11_wordAt_5 n f) f') (mk s) 187 (nI i) (nI e) (nI k) (nI (WB k)) (nI (WN k)) (nI b.toNat) (nI (WN k)) = _
        unfold fX11_wordAt_57b
        simp (disch := first | omega | assumption | (simp only [wL_1, wL_22, wI_2, wA_2, wQ_1, wQ_21] <;> first | assumption | omega)) only [LIT, LITm, nI_add, n_mul, fa_or, n_31m, n_shl0, n_le, n_lt, n_eq, Option.bind_some, Nat.le_refl, ↓reduceIte]
    obtain ⟨b, hb, eb⟩ := l57
    rw [eb]
    cases b with
    | true =>
      right
      refine ⟨some k, fun h => (by cases h), fun k' h => ?_, rfl⟩
      cases h
      exact ⟨hk, hb.mp rfl⟩
    | false =>
      left
      refine ⟨(), rfl, fun k' hk' => ?_⟩
      by_cases q : k' = k
      · rw [q]
        exact fun h => by have := hb.mpr h; cases this
      · exact hP k' (by omega)
  · intro f _ hP
    refine ⟨none, fun _ => hP, fun k h => (by cases h), ?_⟩
    show fX11_wordAt_5b n (fX11_wordAt_5 n f) (mk s) 187 (nI i) (nI e) (nI 22) (nI (WB 22)) = _
    unfold fX11_wordAt_5b
    rw [WB22]
    simp (disch := first | omega | assumption | (simp only [wL_1, wL_22, wI_2, wA_2, wQ_1, wQ_21] <;> first | assumption | omega)) only [LIT, LITm, nI_add, n_mul, fa_or, n_31m, n_shl0, n_le, n_lt, n_eq, Option.bind_some, B_m hn, la, Nat.le_refl, ↓reduceIte, oV]
theorem m_packed (hn : 239 ≤ n) (hT : mtT s B N) (hie : i ≤ e) (heN : e ≤ N) (hl : ∀ j, i ≤ j → j < e → ltB (B j) = true) : fX11_packed n (mk s) 187 (nI i) (nI e) = some (nI (pkV B i e), mk s) := by
  obtain ⟨t1, t2, t3, t4, t5⟩ := hT
  have n96 : (96 : Int32) = nI 96 := rfl
  have d32 := ld_lt hl
  unfold fX11_packed
  simp only [B_m hn, Option.bind_some, LIT]
  refine lp_up (F := fun f (_ : Unit) m => fX11_packed_5 n f (mk s) 187 (nI i) (nI e) (nI (pkD (ldV B i e) m)) (nI (i + m))) (N := 6) (P := fun _ _ => True) (Q := fun r => r = some (nI (pkV B i e), mk s)) ?_ ?_ 6 bi_K () 0 (by omega) (by unfold bi_K; omega) trivial
  · intro f _ m hm _
    left
    refine ⟨(), ?_, trivial⟩
    have lt := pkD_lt m (D := ldV B i e) (fun j _ => d32 j)
    have l6 : 32 ^ m ≤ 32 ^ 5 := Nat.pow_le_pow_right (by decide) (by omega)
    have l7 : (32 : Nat) ^ 5 = 33554432 := by decide
    have sh : nI (pkD (ldV B i e) m) <<< nI 5 = nI (pkD (ldV B i e) m * 32) := by
      have h := n_shl (a := pkD (ldV B i e) m) (p := 5) (by omega)
      rw [n_31m (by omega)] at h
      rw [h, Nat.shiftLeft_eq]
    have orr : ∀ d, d < 32 → nI (pkD (ldV B i e) m * 32) ||| nI d = nI (pkD (ldV B i e) m * 32 + d) := fun d hd => by
      rw [fa_or]
      congr 1
      have h := Nat.two_pow_add_eq_or_of_lt (i := 5) (b := d) hd (pkD (ldV B i e) m)
      rw [Nat.mul_comm] at h
      exact h.symm
    show fX11_packed_5b n (fX11_packed_5 n f) (mk s) 187 (nI i) (nI e) (nI (pkD (ldV B i e) m)) (nI (i + m)) = fX11_packed_5 n f (mk s) 187 (nI i) (nI e) (nI (pkD (ldV B i e) m * 32 + ldV B i e m)) (nI (i + (m + 1)))
    unfold fX11_packed_5b fX11_packed_37
    rw [n96, ← orr _ (d32 m)]
    unfold ldV
    by_cases q : i + m < e
    · rw [if_pos q]
      have b1 := t3 (i + m) (by omega)
      have ql := of_decide_eq_true (hl (i + m) (by omega) q)
      have sb : nI (B (i + m)) - nI 96 = nI (B (i + m) - 96) := n_sub (by omega)
      simp (disch := first | omega | assumption | (simp only [wL_1, wL_22, wI_2, wA_2, wQ_1, wQ_21] <;> first | assumption | omega)) only [LIT, LITm, nI_add, n_31m, n_le, n_lt, n_eq, Option.bind_some, B_m hn, B_ma hn, b1, sb, show ¬ i + 6 ≤ i + m by omega, show ¬ e ≤ i + m by omega, ↓reduceIte]
      have := sh
      unfold ldV at this
      rw [this]
      rfl
    · rw [if_neg q]
      simp (disch := first | omega | assumption | (simp only [wL_1, wL_22, wI_2, wA_2, wQ_1, wQ_21] <;> first | assumption | omega)) only [LIT, LITm, nI_add, n_31m, n_le, n_lt, n_eq, Option.bind_some, show ¬ i + 6 ≤ i + m by omega, show e ≤ i + m by omega, ↓reduceIte]
      have := sh
      unfold ldV at this
      rw [this]
      rfl
  · intro f _ _
    show fX11_packed_5b n (fX11_packed_5 n f) (mk s) 187 (nI i) (nI e) (nI (pkD (ldV B i e) 6)) (nI (i + 6)) = _
    unfold fX11_packed_5b
    simp (disch := first | omega | assumption | (simp only [wL_1, wL_22, wI_2, wA_2, wQ_1, wQ_21] <;> first | assumption | omega)) only [LIT, LITm, nI_add, n_mul, fa_or, n_31m, n_shl0, n_le, n_lt, n_eq, Option.bind_some, Nat.le_refl, ↓reduceIte]
    rfl
end Mx
