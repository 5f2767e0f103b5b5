/-! ===== lines on the reference: names ===== -/
section Mh
variable {n N k a r p m L v b : Nat} {B f : Nat → Nat} {s s' s1 s2 : zS} {q : zQ} {tok : zK}
theorem n_there (hn : 239 ≤ n) (hH : mHd B N s q.1) (hg : ∀ j, j < L + L → gX 1 n (mk s) b (nI j) = some (s.1 b j)) (hL : L < 100) (hm : m ≤ L) (hf : ∀ i, i < m → s.1 b (L + i) = nI (f i) ∧ f i < 1073741824) : ouN B N s (fX11_thereIn n (mk s) 187 b (nI L) (nI m)) (tdV B N f m q) := by
  have z38 : q.1.1 ≤ 38 := hH.2.2.1
  have vlt : q.1.2.1 < 1073741824 := hH.2.2.2.1
  have p8 : pI n (mk s) 187 11 8 = some (s.1 187 8) := by simp only [B_m hn]
  have p9 : pI n (mk s) 187 11 9 = some (s.1 187 9) := by simp only [B_m hn]
  have w11 : ∀ (s : zS) (x : Int32), sF n (mk s) 187 11 11 .int (.int x) = some (mk (wI s 187 11 x)) := fun s x => by simp only [B_m hn]
  obtain ⟨t2, t2v⟩ := tk_2 hH.2.1 z38
  have fl := fdN_le (f := f) (m := m) (v := q.1.2.1)
  unfold fX11_thereIn tdV
  rw [(B_m hn).1, Option.bind_some, p8, Option.bind_some]
  by_cases c : q.1.1 = 22
  · rw [if_neg (show ¬ (q.1.1 ≠ 22) from fun g => g c), if_pos (show s.1 187 8 = (2 : Int32) from t2.2 c), p9, Option.bind_some, t2v c, n_find hg hL hm hf vlt, Option.bind_some]
    by_cases g : fdN f m q.1.2.1 < m
    · rw [if_pos g, if_pos g, if_pos (show (0 : Int32) ≤ nI (fdN f m q.1.2.1) by
        show nI 0 ≤ nI (fdN f m q.1.2.1)
        rw [n_le (by omega) (by omega)]; omega)]
      obtain ⟨s', b1, b2, b3⟩ := n_adv hn hH
      refine ⟨wI s' 187 11 (nI (fdN f m q.1.2.1)), ?_, frN_t (frR_N b2) (frN_w (by omega)), by rw [wI_at, upd_at], mHd_f b3 (fun j g1 g2 => by rw [wI_at, upd_ne (by omega)]) (wI_ne (by omega)) (wI_ne (by omega))⟩
      show ((fX11_token n (mk s) 187).bind _) = _
      rw [b1, Option.bind_some, w11, Option.bind_some]
      rfl
    · rw [if_neg g, if_neg g, if_neg (show ¬ (0 : Int32) ≤ m1 by decide)]
      exact n_wr (k := 4) hn hH
  · rw [if_pos (show q.1.1 ≠ 22 from c), if_neg (show ¬ s.1 187 8 = (2 : Int32) from fun g => c (t2.1 g))]
    exact n_wr (k := 1) hn hH
/-- a new name: written behind the others, or a fault -/
def ouW (B : Nat → Nat) (N : Nat) (s s0 : zS) (c : Option (Int32 × ai_H)) : Except (Nat × Nat) (Nat × zQ) → Prop
  | .ok b => ∃ s', c = some (nI 1, mk s') ∧ frN s0 s' ∧ mHd B N s' b.2.1
  | .error e => erN s c e
theorem n_new (hn : 239 ≤ n) (hH : mHd B N s q.1) (hg : ∀ j, j < L + L → gX 1 n (mk s) b (nI j) = some (s.1 b j)) (hw : ∀ (j : Nat) (x : Int32), j < L + L → wX 1 (fun x => x) n (mk s) b (nI j) x = some (mk (wI s b j x))) (hb : 190 ≤ b) (hL : L < 100) (hm : m < L) (hf : ∀ i, i < m → s.1 b (L + i) = nI (f i) ∧ f i < 1073741824) : ouW B N s (wI s b (L + m) (nI q.1.2.1)) (fX11_newName n (mk s) 187 b (nI L) (nI m)) (nwV B N f m q) := by
  have z38 : q.1.1 ≤ 38 := hH.2.2.1
  have vlt : q.1.2.1 < 1073741824 := hH.2.2.2.1
  have p8 : pI n (mk s) 187 11 8 = some (s.1 187 8) := by simp only [B_m hn]
  have p9 : pI n (mk s) 187 11 9 = some (s.1 187 9) := by simp only [B_m hn]
  obtain ⟨t2, t2v⟩ := tk_2 hH.2.1 z38
  have fl := fdN_le (f := f) (m := m) (v := q.1.2.1)
  unfold fX11_newName nwV
  rw [(B_m hn).1, Option.bind_some, p8, Option.bind_some]
  by_cases c : q.1.1 = 22
  · rw [if_neg (show ¬ (q.1.1 ≠ 22) from fun g => g c), if_pos (show s.1 187 8 = (2 : Int32) from t2.2 c), p9, Option.bind_some, t2v c, n_find hg hL (by omega) hf vlt, Option.bind_some]
    by_cases g : fdN f m q.1.2.1 < m
    · rw [if_pos g, if_pos g, if_neg (show ¬ nI (fdN f m q.1.2.1) < (0 : Int32) by
        show ¬ nI (fdN f m q.1.2.1) < nI 0
        rw [n_lt (by omega) (by omega)]; omega)]
      exact n_wr (k := 3) hn hH
    · rw [if_neg g, if_neg g, if_pos (show m1 < (0 : Int32) by decide)]
      have H1 : mHd B N (wI s b (L + m) (nI q.1.2.1)) q.1 := mHd_f hH (fun j g1 g2 => by rw [wI_ne (by omega)]) (wI_ne (by omega)) (wI_ne (by omega))
      obtain ⟨s', b1, b2, b3⟩ := n_adv hn H1
      refine ⟨s', ?_, frR_N b2, b3⟩
      show ((pI n (mk s) 187 11 9).bind _) = _
      rw [p9, Option.bind_some, t2v c, nI_add, hw _ _ (by omega), Option.bind_some, b1]
      rfl
  · rw [if_pos (show q.1.1 ≠ 22 from c), if_neg (show ¬ s.1 187 8 = (2 : Int32) from fun g => c (t2.1 g))]
    exact n_wr (k := 1) hn hH
end Mh
