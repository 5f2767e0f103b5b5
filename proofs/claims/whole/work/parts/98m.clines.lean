/-! ===== lines on the class: the reader's steps, and the tables ===== -/
section Cm
variable {n t i N k a m L W sz nb cb v : Nat} {nm : Bool} {B f : Nat → Nat} {s s' s1 s2 : zS} {q q' : zQ} {T T' : zT} {I I' : Nat → Nat → Int32}
/-- one step: a number and where it stands now, or a fault -/
def ouC {α : Type} (B : Nat → Nat) (N t : Nat) (g : Nat → α) (s s0 : zS) (c : Option ((α ⊕ Nat) × ai_H)) : Except (Nat × Nat) (Nat × zQ) → Prop
  | .ok a => ∃ s', c = some (.inl (g a.1), mk s') ∧ frK s0 s' ∧ cX B N t s' a.2
  | .error e => erC t s c e
theorem er1 (hn : 239 ≤ n) (hX : cX B N t s q) {α β : Type} (g : Unit → ai_H → Option ((β ⊕ Nat) × ai_H)) : erC t s (bt (fX3_fail n (mk s) 3 (nI k)) g) (k, q.1.2.2.1) := bt_er (c_fail (k := k) hn hX.2.2.1)
theorem o_row (hn : 239 ≤ n) (ht : t = 6 ∨ t = 29) (hX : cX B N t s q) (h : TB n a L W) (hm : s.1 a 4 = nI m) (hL : L < 100) (hmL : m ≤ L) : ouC B N t (fun _ => ()) s s (fX3_beginRow n (mk s) 3 a) (rwV B N L m q) := by
  have fu := c_full (s := s) h hm hL hmL
  unfold fX3_beginRow fX3_beginRow_12 rwV
  by_cases g : L ≤ m
  · rw [if_pos g]
    rw [decide_eq_true g] at fu
    have f := bt_er (c_fail (t := t) (k := 2) hn hX.2.2.1) (f := fun (x2 : Unit) h3 => fX3_beginRow_12 n h3 3)
    simp (disch := first | omega | assumption | (simp only [wL_1, wL_22, wI_2, wA_2, wQ_1, wQ_21] <;> first | assumption | omega)) only [LIT, LITm, nI_add, n_mul, fa_or, n_31m, n_shl0, n_le, n_lt, n_eq, Option.bind_some, B_rd hn, fu, Bool.toNat_true, ↓reduceIte]
    exact f
  · rw [if_neg g]
    rw [decide_eq_false g] at fu
    obtain ⟨s', a, b, c⟩ := c_kadv hn ht hX
    refine ⟨s', ?_, b, c⟩
    simp (disch := first | omega | assumption | (simp only [wL_1, wL_22, wI_2, wA_2, wQ_1, wQ_21] <;> first | assumption | omega)) only [LIT, LITm, nI_add, n_mul, fa_or, n_31m, n_shl0, n_le, n_lt, n_eq, Option.bind_some, B_rd hn, fu, Bool.toNat_false, ↓reduceIte, a]
theorem o_exp (hn : 239 ≤ n) (ht : t = 6 ∨ t = 29) (hX : cX B N t s q) (hk : k < 64) : ouC B N t (fun _ => ()) s s (fX3_expect n (mk s) 3 (nI k)) (exV B N k q) := by
  have e := c_exp hn ht hX hk
  unfold exV
  by_cases g : q.1.1 = k
  · rw [if_pos g]
    exact e.1 g
  · rw [if_neg g]
    exact e.2 g
theorem cX_w (hX : cX B N t s q) (ht : t = 6 ∨ t = 29) {j : Nat} {x : Int32} (h1 : a ≠ 2) (h2 : a ≠ 3) (h3 : a ≠ 4) (h4 : a ≠ 5) (h5 : a ≠ t + 16) (h6 : a ≠ t + 19) (h7 : a ≠ t + 20) : cX B N t (wI s a j x) q := by
  obtain ⟨a1, b, c, d, e1, e2, e3⟩ := hX
  refine ⟨⟨a1.1, ?_, a1.2.2.1, ?_, a1.2.2.2.2.1, ?_⟩, b, ⟨?_, ?_, ?_, ?_⟩, d, ?_, ?_, ?_⟩
  · rw [wI_ne (by omega)]; exact a1.2.1
  · intro i hi; rw [wI_ne (by omega)]; exact a1.2.2.2.1 i hi
  · intro i hi; rw [wI_ne (by omega)]; exact a1.2.2.2.2.2 i hi
  · rw [wI_ne (by omega)]; exact c.1
  · rw [wI_ne (by omega)]; exact c.2.1
  · rw [wI_ne (by omega)]; exact c.2.2.1
  · rw [wI_ne (by omega)]; exact c.2.2.2
  · rw [wI_ne (by omega)]; exact e1
  · rw [wI_ne (by omega)]; exact e2
  · exact lsC_f (q := q) e3 (wI_ne (by omega)) (wI_ne (by omega))
theorem frJ_w {j : Nat} {x : Int32} (h : (t ≤ a ∧ a ≤ t + 22) ∨ a = 3) (h4 : a ≠ 4) : frJ t s (wI s a j x) := ⟨rfl, fun b h1 h2 h3 => wI_ne (by omega), by rw [wI_ne (fun g => h4 g.symm)]⟩
theorem o_new (hn : 239 ≤ n) (ht : t = 6 ∨ t = 29) (hX : cX B N t s q) (h : TB n a L W) (hm : s.1 a 4 = nI m) (hL : L < 100) (hmL : m < L) (ha : t + 1 ≤ a ∧ a + 1 ≤ t + 15) (hf : ∀ i, i < m → s.1 (a + 1) i = nI (f i) ∧ f i < 1073741824) : ouC B N t (fun _ => ()) s (wI s (a + 1) m (nI q.1.2.1)) (fX3_readNewName n (mk s) 3 a) (nwV B N f m q) := by
  have fu := c_full (s := s) h hm hL (by omega)
  rw [decide_eq_false (by omega)] at fu
  obtain ⟨w1, w2, w3, w4⟩ := hX.2.2.2.1
  have fd := c_tfind (s := s) (v := q.1.2.1) h hm hL (by omega) hf w2
  obtain ⟨h0, h1, h2, h3, h4, h5, h6, h7, h8, h9⟩ := h
  have w8 := h8 s m (nI q.1.2.1) hmL
  have k4 := hX.2.2.1.1
  have k6 := hX.2.2.1.2.1
  have pn : fX6_putName n (mk s) a (nI q.1.2.1) = some ((), mk (wI s (a + 1) m (nI q.1.2.1))) := by
    unfold fX6_putName
    simp (disch := first | omega | assumption | (simp only [wL_1, wL_22, wI_2, wA_2, wQ_1, wQ_21] <;> first | assumption | omega)) only [LIT, LITm, nI_add, n_mul, fa_or, n_31m, n_shl0, n_le, n_lt, n_eq, Option.bind_some, h0, fu, h3, h5, hm, w8, Bool.toNat_false, not_true_eq_false, ↓reduceIte]
  have X1 : cX B N t (wI s (a + 1) m (nI q.1.2.1)) q := cX_w hX ht (by omega) (by omega) (by omega) (by omega) (by omega) (by omega) (by omega)
  obtain ⟨s', e1, f1, Y⟩ := c_kadv hn ht X1
  have t36 : fX3_readNewName_36 n (mk s) 3 a = some (.inl (), mk s') := by
    unfold fX3_readNewName_36
    simp (disch := first | omega | assumption | (simp only [wL_1, wL_22, wI_2, wA_2, wQ_1, wQ_21] <;> first | assumption | omega)) only [LIT, LITm, nI_add, n_mul, fa_or, n_31m, n_shl0, n_le, n_lt, n_eq, Option.bind_some, B_rd hn, k6, pn, e1]
  unfold fX3_readNewName nwV
  by_cases c : q.1.1 = 22
  · rw [if_neg (fun g => g c)]
    by_cases g : fdN f m q.1.2.1 < m
    · rw [if_pos g]
      rw [if_pos g] at fd
      have fl := bt_er (c_fail (t := t) (k := 3) hn hX.2.2.1) (f := fun (x6 : Unit) h7 => fX3_readNewName_36 n h7 3 a)
      have lt := fdN_le (f := f) (m := m) (v := q.1.2.1)
      unfold fX3_readNewName_17
      simp (disch := first | omega | assumption | (simp only [wL_1, wL_22, wI_2, wA_2, wQ_1, wQ_21] <;> first | assumption | omega)) only [LIT, LITm, nI_add, n_mul, fa_or, n_31m, n_shl0, n_le, n_lt, n_eq, Option.bind_some, B_rd hn, k4, k6, c, fd, show ¬ fdN f m q.1.2.1 < 0 by omega, ↓reduceIte]
      exact fl
    · rw [if_neg g]
      rw [if_neg g] at fd
      refine ⟨s', ?_, f1, Y⟩
      unfold fX3_readNewName_17
      simp (disch := first | omega | assumption | (simp only [wL_1, wL_22, wI_2, wA_2, wQ_1, wQ_21] <;> first | assumption | omega)) only [LIT, LITm, nI_add, n_mul, fa_or, n_31m, n_shl0, n_le, n_lt, n_eq, Option.bind_some, B_rd hn, k4, k6, c, fd, ↓reduceIte]
      have neg' : (m1 < nI 0) = True := by decide
      simp only [neg', ↓reduceIte]
      exact t36
  · rw [if_pos c]
    have fl := bt_er (c_fail (t := t) (k := 1) hn hX.2.2.1) (f := fun (x6 : Unit) h7 => fX3_readNewName_17 n h7 3 a)
    simp (disch := first | omega | assumption | (simp only [wL_1, wL_22, wI_2, wA_2, wQ_1, wQ_21] <;> first | assumption | omega)) only [LIT, LITm, nI_add, n_mul, fa_or, n_31m, n_shl0, n_le, n_lt, n_eq, Option.bind_some, B_rd hn, k4, c, ↓reduceIte]
    exact fl
theorem o_told (hn : 239 ≤ n) (ht : t = 6 ∨ t = 29) (hX : cX B N t s q) (h : TB n a L W) (hm : s.1 a 4 = nI m) (hL : L < 100) (hmL : m ≤ L) (hf : ∀ i, i < m → s.1 (a + 1) i = nI (f i) ∧ f i < 1073741824) : ouC B N t nI s s (fX3_readTold n (mk s) 3 a) (tdV B N f m q) := by
  obtain ⟨w1, w2, w3, w4⟩ := hX.2.2.2.1
  have fd := c_tfind (s := s) (v := q.1.2.1) h hm hL (by omega) hf w2
  have k4 := hX.2.2.1.1
  have k6 := hX.2.2.1.2.1
  obtain ⟨s', e1, f1, Y⟩ := c_kadv hn ht hX
  have lt := fdN_le (f := f) (m := m) (v := q.1.2.1)
  unfold fX3_readTold tdV
  by_cases c : q.1.1 = 22
  · rw [if_neg (fun g => g c)]
    by_cases g : fdN f m q.1.2.1 < m
    · rw [if_pos g]
      rw [if_pos g] at fd
      refine ⟨s', ?_, f1, Y⟩
      unfold fX3_readTold_17 fX3_readTold_38
      simp (disch := first | omega | assumption | (simp only [wL_1, wL_22, wI_2, wA_2, wQ_1, wQ_21] <;> first | assumption | omega)) only [LIT, LITm, nI_add, n_mul, fa_or, n_31m, n_shl0, n_le, n_lt, n_eq, Option.bind_some, B_rd hn, k4, k6, c, fd, e1, show 0 ≤ fdN f m q.1.2.1 by omega, ↓reduceIte]
    · rw [if_neg g]
      rw [if_neg g] at fd
      have fl := bt_er (c_fail (t := t) (k := 4) hn hX.2.2.1) (f := fun (x6 : Unit) h7 => fX3_readTold_38 n h7 3 m1)
      have neg' : (nI 0 ≤ m1) = False := by decide
      unfold fX3_readTold_17
      simp (disch := first | omega | assumption | (simp only [wL_1, wL_22, wI_2, wA_2, wQ_1, wQ_21] <;> first | assumption | omega)) only [LIT, LITm, nI_add, n_mul, fa_or, n_31m, n_shl0, n_le, n_lt, n_eq, Option.bind_some, B_rd hn, k4, k6, c, fd, ↓reduceIte]
      simp only [neg', ↓reduceIte]
      exact fl
  · rw [if_pos c]
    have fl := bt_er (c_fail (t := t) (k := 1) hn hX.2.2.1) (f := fun (x6 : Unit) h7 => fX3_readTold_17 n h7 3 a)
    simp (disch := first | omega | assumption | (simp only [wL_1, wL_22, wI_2, wA_2, wQ_1, wQ_21] <;> first | assumption | omega)) only [LIT, LITm, nI_add, n_mul, fa_or, n_31m, n_shl0, n_le, n_lt, n_eq, Option.bind_some, B_rd hn, k4, c, ↓reduceIte]
    exact fl
theorem o_num {lo hi : Nat} (hn : 239 ≤ n) (ht : t = 6 ∨ t = 29) (hX : cX B N t s q) (hlo : lo ≤ 99999) (hhi : hi ≤ 99999) : ouC B N t nI s s (fX3_readNumber n (mk s) 3 (nI lo) (nI hi)) (nbV B N lo hi q) := by
  obtain ⟨w1, w2, w3, w4⟩ := hX.2.2.2.1
  have k4 := hX.2.2.1.1
  have k6 := hX.2.2.1.2.1
  obtain ⟨s', e1, f1, Y⟩ := c_kadv hn ht hX
  unfold fX3_readNumber nbV
  by_cases c : q.1.1 = 23
  · rw [if_neg (fun g => g c)]
    by_cases g : lo ≤ q.1.2.1 ∧ q.1.2.1 ≤ hi
    · rw [if_pos g]
      refine ⟨s', ?_, f1, Y⟩
      unfold fX3_readNumber_17 fX3_readNumber_39
      simp (disch := first | omega | assumption | (simp only [wL_1, wL_22, wI_2, wA_2, wQ_1, wQ_21] <;> first | assumption | omega)) only [LIT, LITm, nI_add, n_mul, fa_or, n_31m, n_shl0, n_le, n_lt, n_eq, Option.bind_some, B_rd hn, k4, k6, c, c_isWithin, g, e1, not_true_eq_false, not_false_eq_true, Nat.reduceEqDiff, and_self, ↓reduceIte]
    · rw [if_neg g]
      have fl := bt_er (c_fail (t := t) (k := 2) hn hX.2.2.1) (f := fun (x6 : Unit) h7 => fX3_readNumber_39 n h7 3 (nI q.1.2.1))
      unfold fX3_readNumber_17
      simp (disch := first | omega | assumption | (simp only [wL_1, wL_22, wI_2, wA_2, wQ_1, wQ_21] <;> first | assumption | omega)) only [LIT, LITm, nI_add, n_mul, fa_or, n_31m, n_shl0, n_le, n_lt, n_eq, Option.bind_some, B_rd hn, k4, k6, c, c_isWithin, g, not_true_eq_false, ↓reduceIte]
      exact fl
  · rw [if_pos c]
    have fl := bt_er (c_fail (t := t) (k := 1) hn hX.2.2.1) (f := fun (x6 : Unit) h7 => fX3_readNumber_17 n h7 3 (nI lo) (nI hi))
    simp (disch := first | omega | assumption | (simp only [wL_1, wL_22, wI_2, wA_2, wQ_1, wQ_21] <;> first | assumption | omega)) only [LIT, LITm, nI_add, n_mul, fa_or, n_31m, n_shl0, n_le, n_lt, n_eq, Option.bind_some, B_rd hn, k4, c, ↓reduceIte]
    exact fl
end Cm
