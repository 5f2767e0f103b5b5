/-! ===== lines on the reference: the steps ===== -/
section Mg
variable {n N k a r p m L v : Nat} {B f : Nat → Nat} {s s' s1 s2 : zS} {q : zQ} {tok : zK}
/-- what one step of a line may change: the token, the number met, the fault -/
def frN (s s' : zS) : Prop := s'.2 = s.2 ∧ (∀ b, b ≠ 187 → s'.1 b = s.1 b) ∧ ∀ j, ¬ (7 ≤ j ∧ j ≤ 11) → j ≠ 7 → j ≠ 8 → s'.1 187 j = s.1 187 j
theorem frN_r : frN s s := ⟨rfl, fun _ _ => rfl, fun _ _ _ _ => rfl⟩
theorem frN_t (h : frN s s1) (g : frN s1 s2) : frN s s2 := ⟨g.1.trans h.1, fun b hb => (g.2.1 b hb).trans (h.2.1 b hb), fun j h1 h2 h3 => (g.2.2 j h1 h2 h3).trans (h.2.2 j h1 h2 h3)⟩
theorem frR_N (h : frR s s1) : frN s s1 := ⟨h.1, h.2.1, fun j h1 _ _ => h.2.2 j (by omega) (by omega) (by omega) (by omega)⟩
theorem frN_w {j : Nat} {x : Int32} (h : 7 ≤ j ∧ j ≤ 11) : frN s (wI s 187 j x) := ⟨rfl, fun b hb => wI_ne hb, fun i h1 h2 h3 => by rw [wI_at, upd_ne (by omega)]⟩
def frNe (s s' : zS) : Prop := s'.2 = s.2 ∧ (∀ b, b ≠ 187 → s'.1 b = s.1 b) ∧ ∀ j, ¬ (7 ≤ j ∧ j ≤ 11) → j ≠ 4 → j ≠ 5 → s'.1 187 j = s.1 187 j
theorem frNe_t (h : frNe s s1) (g : frNe s1 s2) : frNe s s2 := ⟨g.1.trans h.1, fun b hb => (g.2.1 b hb).trans (h.2.1 b hb), fun j h1 h2 h3 => (g.2.2 j h1 h2 h3).trans (h.2.2 j h1 h2 h3)⟩
theorem frNe_w {j : Nat} {x : Int32} (h : (7 ≤ j ∧ j ≤ 11) ∨ j = 4 ∨ j = 5) : frNe s (wI s 187 j x) := ⟨rfl, fun b hb => wI_ne hb, fun i h1 h2 h3 => by rw [wI_at, upd_ne (by omega)]⟩
theorem frN_e (h : frN s s1) : frNe s s1 := ⟨h.1, h.2.1, fun j h1 _ _ => h.2.2 j h1 (by omega) (by omega)⟩
/-- a fault -/
def erN (s : zS) (c : Option (Int32 × ai_H)) (e : Nat × Nat) : Prop := ∃ s' : zS, c = some (nI 0, mk s') ∧ frNe s s' ∧ s'.1 187 4 = nI e.1 ∧ s'.1 187 5 = nI e.2
/-- a step: a number met and the next token, or a fault -/
def ouN (B : Nat → Nat) (N : Nat) (s : zS) (c : Option (Int32 × ai_H)) : Except (Nat × Nat) (Nat × zQ) → Prop
  | .ok b => ∃ s', c = some (nI 1, mk s') ∧ frN s s' ∧ s'.1 187 11 = nI b.1 ∧ mHd B N s' b.2.1
  | .error e => erN s c e
theorem n_wr (hn : 239 ≤ n) (hH : mHd B N s tok) : erN s ((fX11_wrong n (mk s) 187 (nI k)).bind fun q => (gZ q.1).bind fun _ => some (q.1, q.2)) (k, tok.2.2.1) := by
  refine ⟨wI (wI s 187 4 (nI k)) 187 5 (s.1 187 10), ?_, frNe_t (frNe_w (by omega)) (frNe_w (by omega)), ?_, ?_⟩
  · unfold fX11_wrong
    simp (disch := first | omega | assumption | (simp only [wL_1, wL_22, wI_2, wA_2, wQ_1, wQ_21] <;> first | assumption | omega)) only [LIT, LITm, nI_add, n_mul, fa_or, n_31m, n_shl0, n_le, n_lt, n_eq, Option.bind_some, B_m hn, wI_at, upd_ne, ne_eq, gz_0]
  · rw [wI_at, upd_ne (by omega), wI_at, upd_at]
  · rw [wI_at, upd_at]; exact hH.2.1.2.1
theorem n_adv (hn : 239 ≤ n) (hH : mHd B N s tok) : ∃ s', fX11_token n (mk s) 187 = some ((), mk s') ∧ frR s s' ∧ mHd B N s' (lxV B N tok.2.2.2) := by
  obtain ⟨s', b, c, d⟩ := m_tok hn hH.1 hH.2.1.2.2 hH.2.2.2.2.2
  exact ⟨s', b, c, mtT_R hH.1 c, d, lx_w hH.2.2.2.2.2⟩
theorem tk_2 (hT : mTk s tok) (hz : tok.1 ≤ 38) : (s.1 187 8 = nI 2 ↔ tok.1 = 22) ∧ (tok.1 = 22 → s.1 187 9 = nI tok.2.1) := by
  have ne : ∀ v, v < 100 → v ≠ 2 → s.1 187 8 = nI v → tok.1 ≠ 22 → (s.1 187 8 = nI 2 ↔ tok.1 = 22) ∧ (tok.1 = 22 → s.1 187 9 = nI tok.2.1) := fun v h1 h2 h3 h4 => by
    rw [h3, n_eq (by omega) (by omega)]
    exact ⟨⟨fun g => absurd g h2, fun g => absurd g h4⟩, fun g => absurd g h4⟩
  rcases hT.1 with ⟨e, b⟩ | ⟨e, b, c⟩ | ⟨e, b, c⟩ | ⟨e, b, c⟩ | ⟨e, e', b, c⟩ | ⟨e, b, c⟩ | ⟨e, b⟩
  · exact ne 0 (by omega) (by omega) b (by omega)
  · exact ne 1 (by omega) (by omega) b (by omega)
  · exact ⟨⟨fun _ => e, fun _ => b⟩, fun _ => c⟩
  · exact ne 3 (by omega) (by omega) b (by omega)
  · exact ne 5 (by omega) (by omega) b (by omega)
  · have sl : ∀ k : Fin 39, sgC k.1 ≠ 0 → 24 ≤ k.1 := by decide +kernel
    have : 24 ≤ tok.1 := sl ⟨tok.1, by omega⟩ e
    exact ne 4 (by omega) (by omega) b (by omega)
  · rcases b with b | ⟨b, _⟩
    · exact ne 6 (by omega) (by omega) b (by omega)
    · exact ne 4 (by omega) (by omega) b (by omega)
theorem n_num {lo hi : Nat} (hn : 239 ≤ n) (hH : mHd B N s q.1) (hlo : lo ≤ 99999) (hhi : hi ≤ 99999) : ouN B N s (fX11_number n (mk s) 187 (nI lo) (nI hi)) (nbV B N lo hi q) := by
  have z38 : q.1.1 ≤ 38 := hH.2.2.1
  have vlt : q.1.2.1 < 1073741824 := hH.2.2.2.1
  have p8 : pI n (mk s) 187 11 8 = some (s.1 187 8) := by simp only [B_m hn]
  have p9 : pI n (mk s) 187 11 9 = some (s.1 187 9) := by simp only [B_m hn]
  have w11 : ∀ (s : zS) (x : Int32), sF n (mk s) 187 11 11 .int (.int x) = some (mk (wI s 187 11 x)) := fun s x => by simp only [B_m hn]
  have t3 := tk_3 hH.2.1 z38
  unfold fX11_number nbV
  rw [(B_m hn).1, Option.bind_some, p8, Option.bind_some]
  by_cases c : q.1.1 = 23
  · have v9 := tk_v hH.2.1 c
    rw [if_neg (show ¬ (q.1.1 ≠ 23) from fun g => g c), if_pos (show s.1 187 8 = (3 : Int32) from t3.symm ▸ c), p9, Option.bind_some, v9]
    have isn : fX11_isIn n (mk s) (nI q.1.2.1) (nI lo) (nI hi) = some (nI (decide (lo ≤ q.1.2.1 ∧ q.1.2.1 ≤ hi)).toNat, mk s) := by
      unfold fX11_isIn
      by_cases g1 : q.1.2.1 < lo
      · rw [if_pos (show nI q.1.2.1 < nI lo by rw [n_lt (by omega) (by omega)]; exact g1), decide_eq_false (by omega)]; rfl
      · rw [if_neg (show ¬ nI q.1.2.1 < nI lo by rw [n_lt (by omega) (by omega)]; exact g1)]
        by_cases g2 : hi < q.1.2.1
        · rw [if_pos (show nI hi < nI q.1.2.1 by rw [n_lt (by omega) (by omega)]; exact g2), decide_eq_false (by omega)]; rfl
        · rw [if_neg (show ¬ nI hi < nI q.1.2.1 by rw [n_lt (by omega) (by omega)]; exact g2), decide_eq_true (by omega)]; rfl
    rw [isn, Option.bind_some]
    by_cases g : lo ≤ q.1.2.1 ∧ q.1.2.1 ≤ hi
    · rw [if_pos g, decide_eq_true g, if_pos (show ¬ nI (true.toNat) = (0 : Int32) by decide)]
      have H1 : mHd B N (wI s 187 11 (nI q.1.2.1)) q.1 := mHd_f hH (fun j g1 g2 => by rw [wI_at, upd_ne (by omega)]) (wI_ne (by omega)) (wI_ne (by omega))
      obtain ⟨s', b1, b2, b3⟩ := n_adv hn H1
      refine ⟨s', ?_, frN_t (frN_w (by omega)) (frR_N b2), ?_, b3⟩
      · show ((pI n (mk s) 187 11 9).bind _) = _
        rw [p9, Option.bind_some, v9, w11, Option.bind_some, b1]
        rfl
      · rw [b2.2.2 11 (by omega) (by omega) (by omega) (by omega), wI_at, upd_at]
    · rw [if_neg g, decide_eq_false g, if_neg (show ¬ ¬ nI (false.toNat) = (0 : Int32) from fun h => h rfl)]
      exact n_wr (k := 2) hn hH
  · rw [if_pos (show q.1.1 ≠ 23 from c), if_neg (show ¬ s.1 187 8 = (3 : Int32) from fun g => c (t3 ▸ g))]
    exact n_wr (k := 1) hn hH
theorem n_find {b : Nat} (hg : ∀ j, j < L + L → gX 1 n (mk s) b (nI j) = some (s.1 b j)) (hL : L < 100) (hm : m ≤ L) (hf : ∀ i, i < m → s.1 b (L + i) = nI (f i) ∧ f i < 1073741824) (hv : v < 1073741824) : fX11_find n (mk s) b (nI L) (nI m) (nI v) = some (if fdN f m v < m then nI (fdN f m v) else m1, mk s) := by
  have gen : ∀ k F i, k + i = m → k < F → fX11_find_3 n F (mk s) b (nI L) (nI m) (nI v) (nI i) = some (if fdV f v k i < m then nI (fdV f v k i) else m1, mk s) := by
    intro k
    induction k with
    | zero =>
      intro F i e hF
      obtain ⟨F', rfl⟩ : ∃ F', F = F' + 1 := ⟨F - 1, by omega⟩
      show fX11_find_3b n (fX11_find_3 n F') (mk s) b (nI L) (nI m) (nI v) (nI i) = _
      unfold fX11_find_3b
      have e0 : fdV f v 0 i = i := rfl
      rw [e0, if_neg (show ¬ i < m by omega), if_pos (show nI m ≤ nI i by rw [n_le (by omega) (by omega)]; omega)]
      rfl
    | succ k ih =>
      intro F i e hF
      obtain ⟨F', rfl⟩ : ∃ F', F = F' + 1 := ⟨F - 1, by omega⟩
      show fX11_find_3b n (fX11_find_3 n F') (mk s) b (nI L) (nI m) (nI v) (nI i) = _
      unfold fX11_find_3b
      obtain ⟨g1, g2⟩ := hf i (by omega)
      have e1 : fdV f v (k + 1) i = if f i = v then i else fdV f v k (i + 1) := rfl
      rw [if_neg (show ¬ nI m ≤ nI i by rw [n_le (by omega) (by omega)]; omega), nI_add, hg (L + i) (by omega), Option.bind_some, g1]
      by_cases c : f i = v
      · rw [e1, if_pos c, c, if_neg (show ¬ ¬ nI v = nI v from fun g => g rfl), if_pos (show i < m by omega)]
      · rw [e1, if_neg c, ← ih F' (i + 1) (by omega) (by omega), if_pos (show ¬ nI (f i) = nI v by rw [n_eq (by omega) (by omega)]; exact c)]
        show fX11_find_3 n F' (mk s) b (nI L) (nI m) (nI v) (nI i + nI 1) = _
        rw [nI_add]
  exact gen m bi_K 0 (by omega) (by unfold bi_K; omega)
end Mg
