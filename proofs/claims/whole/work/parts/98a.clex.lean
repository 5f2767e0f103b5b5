/-! ===== the text's tokens: the class ===== -/
def by8 (b : Nat) : Int32 := (nI b).toInt8.toInt32
theorem by8_tab : ∀ b : Fin 256, (b.1 < 128 → by8 b.1 = nI b.1) ∧ (128 ≤ b.1 → by8 b.1 < nI 0) := by decide +kernel
theorem by8_eq {b k : Nat} (hb : b < 256) (hk : k < 128) : (by8 b = nI k) = (b = k) := by
  obtain ⟨h1, h2⟩ := by8_tab ⟨b, hb⟩
  by_cases g : b < 128
  · rw [h1 g, n_eq (by omega) (by omega)]
  · have h3 := h2 (by show 128 ≤ b; omega)
    refine propext ⟨fun e => ?_, fun e => by omega⟩
    have h3' : by8 b < nI 0 := h3
    rw [e, n_lt (by omega) (by omega)] at h3'
    omega
theorem by8_lt {b k : Nat} (hb : b < 256) (hk : k < 128) : (by8 b < nI k) = (b < k ∨ 128 ≤ b) := by
  obtain ⟨h1, h2⟩ := by8_tab ⟨b, hb⟩
  by_cases g : b < 128
  · rw [h1 g, n_lt (by omega) (by omega)]
    exact propext ⟨fun h => Or.inl h, fun h => h.resolve_right (by omega)⟩
  · have h3 : by8 b < nI 0 := h2 (by show 128 ≤ b; omega)
    refine propext ⟨fun _ => Or.inr (by omega), fun _ => ?_⟩
    rw [fa_lt, nI_toInt (by omega)] at h3 ⊢
    omega
theorem by8_gt {b k : Nat} (hb : b < 256) (hk : k < 128) : (nI k < by8 b) = (k < b ∧ b < 128) := by
  obtain ⟨h1, h2⟩ := by8_tab ⟨b, hb⟩
  by_cases g : b < 128
  · rw [h1 g, n_lt (by omega) (by omega)]
    exact propext ⟨fun h => ⟨h, g⟩, fun h => h.1⟩
  · have h3 : by8 b < nI 0 := h2 (by show 128 ≤ b; omega)
    refine propext ⟨fun h => ?_, fun h => absurd h.2 g⟩
    rw [fa_lt, nI_toInt (by omega)] at h3 h
    omega
theorem by8_n {b : Nat} (hb : b < 128) : by8 b = nI b := (by8_tab ⟨b, by omega⟩).1 hb
section Cx2
variable {n N i j e k v kd pl : Nat} {s : zS} {B : Nat → Nat}
/-- the class's tokens stand over these bytes -/
def btT (s : zS) (B : Nat → Nat) (N : Nat) : Prop := s.2.2 4 1 = 2 ∧ s.1 4 2 = nI N ∧ N ≤ 700 ∧ (∀ i, i < N → s.1 2 i = by8 (B i)) ∧ (∀ i, B i < 256) ∧ ∀ k, k < 22 → s.1 5 k = nI (WD k)
/-- only the token that is looked at changes -/
def frK (s s' : zS) : Prop := s'.2 = s.2 ∧ (∀ a, a ≠ 4 → s'.1 a = s.1 a) ∧ s'.1 4 2 = s.1 4 2
theorem frK_r : frK s s := ⟨rfl, fun _ _ => rfl, rfl⟩
theorem frK_t {s1 s2 : zS} (h : frK s s1) (g : frK s1 s2) : frK s s2 := ⟨g.1.trans h.1, fun a ha => (g.2.1 a ha).trans (h.2.1 a ha), g.2.2.trans h.2.2⟩
theorem frK_w {x : Int32} (h : j ≠ 2) : frK s (wI s 4 j x) := ⟨rfl, fun a ha => wI_ne ha, by rw [wI_at, upd_ne (fun e => h e.symm)]⟩
theorem btT_K {s' : zS} (h : btT s B N) (f : frK s s') : btT s' B N := ⟨by rw [f.1]; exact h.1, by rw [f.2.2]; exact h.2.1, h.2.2.1, fun i hi => by rw [f.2.1 2 (by omega)]; exact h.2.2.2.1 i hi, h.2.2.2.2.1, fun k hk => by rw [f.2.1 5 (by omega)]; exact h.2.2.2.2.2 k hk⟩
theorem B_r1 (hn : 239 ≤ n) (h : btT s B N) : pR n (mk s) 4 7 1 = some 2 := (B_rd hn).2.2.2.2.2.2.2.2.2.2.2.2.1 s 2 h.1 (by decide)
theorem by8_in {b l h : Nat} (hb : b < 256) (hh : h < 128) (g : l ≤ b ∧ b ≤ h) : (by8 b < nI l) = False ∧ (nI h < by8 b) = False := by
  rw [by8_lt hb (by omega), by8_gt hb hh]
  exact ⟨eq_false (by omega), eq_false (by omega)⟩
theorem by8_out {b l h : Nat} (hb : b < 256) (hl : l < 128) (hh : h < 128) (g : ¬ (l ≤ b ∧ b ≤ h)) : (by8 b < nI l) = True ∨ ((by8 b < nI l) = False ∧ (nI h < by8 b) = True) := by
  rw [by8_lt hb hl, by8_gt hb hh]
  by_cases c : b < l ∨ 128 ≤ b
  · exact Or.inl (eq_true c)
  · exact Or.inr ⟨eq_false c, eq_true (by omega)⟩
/-- the token is this one -/
def cTk (s : zS) (k : zK) : Prop := s.1 4 4 = nI k.1 ∧ s.1 4 6 = nI k.2.1 ∧ s.1 4 5 = nI k.2.2.1 ∧ s.1 4 3 = nI k.2.2.2
theorem c_sign (hn : 239 ≤ n) (hT : btT s B N) (hi : s.1 4 3 = nI i) (hN : i < N) (h60 : ¬ B i = 60) (h62 : ¬ B i = 62) : ∃ s' : zS, fX7_readSign n (mk s) 4 = some (nI (sgV B N i).1, mk s') ∧ frK s s' ∧ s'.1 4 3 = nI (sgV B N i).2 ∧ s'.1 4 5 = s.1 4 5 ∧ s'.1 4 6 = s.1 4 6 := by
  have r1 := B_r1 hn hT
  have b := hT.2.2.2.1 i hN
  have hB := hT.2.2.2.2.1 i
  have ce := fun k (hk : k < 128) => by8_eq (k := k) hB hk
  have N7 := hT.2.2.1
  obtain ⟨s1, es1⟩ : ∃ s1 : zS, s1 = wI s 4 3 (nI (i + 1)) := ⟨_, rfl⟩
  have f1 : frK s s1 := by rw [es1]; exact frK_w (by omega)
  have i1 : s1.1 4 3 = nI (i + 1) := by rw [es1, wI_at, upd_at]
  have p1 : s1.1 4 5 = s.1 4 5 ∧ s1.1 4 6 = s.1 4 6 := by
    rw [es1, wI_at, upd_ne (by omega), upd_ne (by omega)]
    exact ⟨rfl, rfl⟩
  have hT1 := btT_K hT f1
  unfold fX7_readSign sgV
  rw [show (40 : Int32) = nI 40 from rfl, show (41 : Int32) = nI 41 from rfl, show (42 : Int32) = nI 42 from rfl, show (43 : Int32) = nI 43 from rfl, show (45 : Int32) = nI 45 from rfl, show (47 : Int32) = nI 47 from rfl, show (59 : Int32) = nI 59 from rfl, show (61 : Int32) = nI 61 from rfl, show (25 : Int32) = nI 25 from rfl, show (26 : Int32) = nI 26 from rfl, show (35 : Int32) = nI 35 from rfl, show (33 : Int32) = nI 33 from rfl, show (34 : Int32) = nI 34 from rfl, show (36 : Int32) = nI 36 from rfl, show (24 : Int32) = nI 24 from rfl, show (29 : Int32) = nI 29 from rfl, show (38 : Int32) = nI 38 from rfl]
  have w1 : sF n (mk s) 4 7 3 .int (.int (nI i + 1)) = some (mk s1) := by
    rw [show (1 : Int32) = nI 1 from rfl, nI_add, es1]
    simp only [B_rd hn]
  rw [bnd_s (v := ()) (by simp only [B_rd hn]), bnd_s (v := 2) r1, bnd_s (v := nI i) (by simp only [B_rd hn, hi]), bnd_s (v := by8 (B i)) (by rw [← b]; simp (disch := omega) only [B_rd hn]), bnd_s (v := nI i) (by simp only [B_rd hn, hi]), bnd_s w1]
  have fin1 : ∀ m, ∃ s' : zS, some (nI m, mk s1) = some (nI m, mk s') ∧ frK s s' ∧ s'.1 4 3 = nI (i + 1) ∧ s'.1 4 5 = s.1 4 5 ∧ s'.1 4 6 = s.1 4 6 := fun m => ⟨s1, rfl, f1, i1, p1.1, p1.2⟩
  have pe : ∀ k, k < 128 → B i = k → (by8 (B i) = nI k) := fun k hk h => by rw [ce k hk]; exact h
  have ne : ∀ k, k < 128 → ¬ B i = k → ¬ (by8 (B i) = nI k) := fun k hk h => by rw [ce k hk]; exact h
  by_cases g : B i = 40
  · rw [if_pos (pe 40 (by omega) g), if_pos g]; exact fin1 25
  rw [if_neg (ne 40 (by omega) g), if_neg g]
  by_cases g : B i = 41
  · rw [if_pos (pe 41 (by omega) g), if_pos g]; exact fin1 26
  rw [if_neg (ne 41 (by omega) g), if_neg g]
  by_cases g : B i = 42
  · rw [if_pos (pe 42 (by omega) g), if_pos g]; exact fin1 35
  rw [if_neg (ne 42 (by omega) g), if_neg g]
  by_cases g : B i = 43
  · rw [if_pos (pe 43 (by omega) g), if_pos g]; exact fin1 33
  rw [if_neg (ne 43 (by omega) g), if_neg g]
  by_cases g : B i = 45
  · rw [if_pos (pe 45 (by omega) g), if_pos g]; exact fin1 34
  rw [if_neg (ne 45 (by omega) g), if_neg g]
  by_cases g : B i = 47
  · rw [if_pos (pe 47 (by omega) g), if_pos g]; exact fin1 36
  rw [if_neg (ne 47 (by omega) g), if_neg g]
  by_cases g : B i = 59
  · rw [if_pos (pe 59 (by omega) g), if_pos g]; exact fin1 24
  rw [if_neg (ne 59 (by omega) g), if_neg g]
  rw [if_neg h60]
  by_cases g : B i = 61
  · rw [if_pos (pe 61 (by omega) g), if_pos g]; exact fin1 29
  rw [if_neg (ne 61 (by omega) g), if_neg g, if_neg h62]
  exact fin1 38
theorem c_cmp (hn : 239 ≤ n) (hT : btT s B N) (hi : s.1 4 3 = nI i) (hN : i < N) (h6 : B i = 60 ∨ B i = 62) : ∃ s' : zS, fX7_readComparison n (mk s) 4 = some (nI (sgV B N i).1, mk s') ∧ frK s s' ∧ s'.1 4 3 = nI (sgV B N i).2 ∧ s'.1 4 5 = s.1 4 5 ∧ s'.1 4 6 = s.1 4 6 := by
  have r1 := B_r1 hn hT
  have b : s.1 2 i = nI (B i) := by rw [hT.2.2.2.1 i hN, by8_n (by omega)]
  have N7 := hT.2.2.1
  have hB := hT.2.2.2.2.1
  have t2 := hT.2.1
  obtain ⟨s1, es1⟩ : ∃ s1 : zS, s1 = wI s 4 3 (nI (i + 1)) := ⟨_, rfl⟩
  have f1 : frK s s1 := by rw [es1]; exact frK_w (by omega)
  have i1 : s1.1 4 3 = nI (i + 1) := by rw [es1, wI_at, upd_at]
  have p1 : s1.1 4 5 = s.1 4 5 ∧ s1.1 4 6 = s.1 4 6 := by
    rw [es1, wI_at, upd_ne (by omega), upd_ne (by omega)]
    exact ⟨rfl, rfl⟩
  have hT1 := btT_K hT f1
  have r11 := B_r1 hn hT1
  have t21 := hT1.2.1
  obtain ⟨s2, es2⟩ : ∃ s2 : zS, s2 = wI s1 4 3 (nI (i + 1 + 1)) := ⟨_, rfl⟩
  have f2 : frK s s2 := frK_t f1 (by rw [es2]; exact frK_w (by omega))
  have i2 : s2.1 4 3 = nI (i + 2) := by rw [es2, wI_at, upd_at]
  have p2 : s2.1 4 5 = s.1 4 5 ∧ s2.1 4 6 = s.1 4 6 := by
    rw [es2, wI_at, upd_ne (by omega), upd_ne (by omega)]
    exact p1
  have fin1 : ∀ m, ∃ s' : zS, some (nI m, mk s1) = some (nI m, mk s') ∧ frK s s' ∧ s'.1 4 3 = nI (i + 1) ∧ s'.1 4 5 = s.1 4 5 ∧ s'.1 4 6 = s.1 4 6 := fun m => ⟨s1, rfl, f1, i1, p1.1, p1.2⟩
  have fin2 : ∀ m, ∃ s' : zS, some (nI m, mk s2) = some (nI m, mk s') ∧ frK s s' ∧ s'.1 4 3 = nI (i + 2) ∧ s'.1 4 5 = s.1 4 5 ∧ s'.1 4 6 = s.1 4 6 := fun m => ⟨s2, rfl, f2, i2, p2.1, p2.2⟩
  have w1 : sF n (mk s) 4 7 3 .int (.int (nI i + 1)) = some (mk s1) := by
    rw [show (1 : Int32) = nI 1 from rfl, nI_add, es1]
    simp only [B_rd hn]
  have w2 : sF n (mk s1) 4 7 3 .int (.int (nI (i + 1) + 1)) = some (mk s2) := by
    rw [show (1 : Int32) = nI 1 from rfl, nI_add, es2]
    simp only [B_rd hn]
  have o60 : B i = 60 → nI (B i) = nI 60 := fun h => by rw [h]
  have m60 : ¬ B i = 60 → ¬ nI (B i) = nI 60 := fun h e => h (by rw [n_eq (by omega) (by omega)] at e; exact e)
  have main : ∀ x : Int32, ((x = nI 61) = (i + 1 < N ∧ B (i + 1) = 61)) → ((x = nI 62) = (i + 1 < N ∧ B (i + 1) = 62)) → ∃ s' : zS, fX7_readComparison_44 n (mk s1) 4 (nI (B i)) x = some (nI (sgV B N i).1, mk s') ∧ frK s s' ∧ s'.1 4 3 = nI (sgV B N i).2 ∧ s'.1 4 5 = s.1 4 5 ∧ s'.1 4 6 = s.1 4 6 := by
    intro x x61 x62
    have p61 : (i + 1 < N ∧ B (i + 1) = 61) → x = nI 61 := fun q => x61.mpr q
    have n61 : ¬ (i + 1 < N ∧ B (i + 1) = 61) → ¬ x = nI 61 := fun q e => q (x61.mp e)
    have p62 : (i + 1 < N ∧ B (i + 1) = 62) → x = nI 62 := fun q => x62.mpr q
    have n62 : ¬ (i + 1 < N ∧ B (i + 1) = 62) → ¬ x = nI 62 := fun q e => q (x62.mp e)
    unfold fX7_readComparison_44 fX7_readComparison_100
    rw [show (60 : Int32) = nI 60 from rfl, show (61 : Int32) = nI 61 from rfl, show (62 : Int32) = nI 62 from rfl, show (27 : Int32) = nI 27 from rfl, show (28 : Int32) = nI 28 from rfl, show (30 : Int32) = nI 30 from rfl, show (31 : Int32) = nI 31 from rfl, show (32 : Int32) = nI 32 from rfl]
    have rd : pI n (mk s1) 4 7 3 = some (nI (i + 1)) := by simp only [B_rd hn, i1]
    by_cases q : i + 1 < N ∧ B (i + 1) = 61
    · rw [if_neg (not_not_intro (p61 q)), bnd_s rd, bnd_s w2]
      rcases h6 with h | h
      · have e : sgV B N i = (28, i + 2) := by
          unfold sgV
          rw [h]
          simp only [Nat.reduceEqDiff, Nat.reduceLeDiff, ↓reduceIte, if_pos q]
        rw [e, if_neg (not_not_intro (o60 h))]
        exact fin2 28
      · have e : sgV B N i = (31, i + 2) := by
          unfold sgV
          rw [h]
          simp only [Nat.reduceEqDiff, Nat.reduceLeDiff, ↓reduceIte, if_pos q]
        rw [e, if_pos (m60 (by omega))]
        exact fin2 31
    · rw [if_pos (n61 q)]
      rcases h6 with h | h
      · rw [if_neg (not_not_intro (o60 h))]
        by_cases r : i + 1 < N ∧ B (i + 1) = 62
        · have e : sgV B N i = (30, i + 2) := by
            unfold sgV
            rw [h]
            simp only [Nat.reduceEqDiff, Nat.reduceLeDiff, ↓reduceIte, if_pos r, if_neg q]
          rw [e, if_neg (not_not_intro (p62 r)), bnd_s rd, bnd_s w2]
          exact fin2 30
        · have e : sgV B N i = (27, i + 1) := by
            unfold sgV
            rw [h]
            simp only [Nat.reduceEqDiff, Nat.reduceLeDiff, ↓reduceIte, if_neg r, if_neg q]
          rw [e, if_pos (n62 r), if_neg (not_not_intro (o60 h))]
          exact fin1 27
      · have e : sgV B N i = (32, i + 1) := by
          unfold sgV
          rw [h]
          simp only [Nat.reduceEqDiff, Nat.reduceLeDiff, ↓reduceIte, if_neg q]
        rw [e, if_pos (m60 (by omega)), if_pos (m60 (by omega))]
        exact fin1 32
  unfold fX7_readComparison
  rw [bnd_s (v := ()) (by simp only [B_rd hn]), bnd_s (v := 2) r1, bnd_s (v := nI i) (by simp only [B_rd hn, hi]), bnd_s (v := nI (B i)) (by rw [← b]; simp (disch := omega) only [B_rd hn]), bnd_s (v := nI i) (by simp only [B_rd hn, hi]), bnd_s w1, bnd_s (v := nI (i + 1)) (by simp only [B_rd hn, i1]), bnd_s (v := nI N) (by simp only [B_rd hn, t21])]
  by_cases g : i + 1 < N
  · rw [if_neg (show ¬ nI N ≤ nI (i + 1) by rw [n_le (by omega) (by omega)]; omega), bnd_s (v := 2) r11, bnd_s (v := nI (i + 1)) (by simp only [B_rd hn, i1]), bnd_s (v := by8 (B (i + 1))) (by rw [← hT1.2.2.2.1 (i + 1) g]; simp (disch := omega) only [B_rd hn])]
    exact main _ (by rw [by8_eq (hB (i + 1)) (by omega)]; simp only [g, true_and]) (by rw [by8_eq (hB (i + 1)) (by omega)]; simp only [g, true_and])
  · rw [if_pos (show nI N ≤ nI (i + 1) by rw [n_le (by omega) (by omega)]; omega)]
    exact main _ (by rw [show (0 : Int32) = nI 0 from rfl, n_eq (by omega) (by omega)]; simp only [g, false_and, Nat.reduceEqDiff, Nat.reduceLeDiff]) (by rw [show (0 : Int32) = nI 0 from rfl, n_eq (by omega) (by omega)]; simp only [g, false_and, Nat.reduceEqDiff, Nat.reduceLeDiff])
theorem c_digits (hn : 239 ≤ n) (hT : btT s B N) (hi : s.1 4 3 = nI i) (hN : i ≤ N) (h6 : s.1 4 6 = nI 0) : ∃ s' : zS, fX7_readDigits n (mk s) 4 = some ((), mk s') ∧ frK s s' ∧ s'.1 4 5 = s.1 4 5 ∧ s'.1 4 4 = nI 23 ∧ s'.1 4 6 = nI (dvA B i (rnV (fun x => dtB (B x)) N i - i)) ∧ s'.1 4 3 = nI (rnV (fun x => dtB (B x)) N i) := by
  have N7 := hT.2.2.1
  have rp := rn_p (f := fun x => dtB (B x)) (N := N) (i := i)
  have n48 : (48 : Int32) = nI 48 := rfl
  have n57 : (57 : Int32) = nI 57 := rfl
  have n1e : (100000 : Int32) = nI 100000 := rfl
  have n23 : (23 : Int32) = nI 23 := rfl
  unfold fX7_readDigits
  simp only [B_rd hn, Option.bind_some]
  refine lp_ms (F := fun f (q : zS × Nat) => fX7_readDigits_0 n f (mk q.1) 4) (μ := fun q => N - q.2) (P := fun q => frK s q.1 ∧ q.1.1 4 5 = s.1 4 5 ∧ q.1.1 4 3 = nI q.2 ∧ i ≤ q.2 ∧ q.2 ≤ N ∧ rnV (fun x => dtB (B x)) N q.2 = rnV (fun x => dtB (B x)) N i ∧ q.1.1 4 6 = nI (dvA B i (q.2 - i)) ∧ ∀ j, i ≤ j → j < q.2 → dtB (B j) = true) (Q := fun r => ∃ s' : zS, r = some ((), mk s') ∧ frK s s' ∧ s'.1 4 5 = s.1 4 5 ∧ s'.1 4 4 = nI 23 ∧ s'.1 4 6 = nI (dvA B i (rnV (fun x => dtB (B x)) N i - i)) ∧ s'.1 4 3 = nI (rnV (fun x => dtB (B x)) N i)) ?_ N bi_K (s, i) (by show N - i ≤ N; omega) (by unfold bi_K; omega) ⟨frK_r, rfl, hi, Nat.le_refl _, hN, rfl, by rw [Nat.sub_self]; exact h6, fun j h1 h2 => by omega⟩
  rintro f ⟨s1, j⟩ ⟨g1, g2, g3, g4, g5, g6, g7, g8⟩
  have g1 : frK s s1 := g1
  have g3 : s1.1 4 3 = nI j := g3
  have g4 : i ≤ j := g4
  have g5 : j ≤ N := g5
  have g6 : rnV (fun x => dtB (B x)) N j = rnV (fun x => dtB (B x)) N i := g6
  have g7 : s1.1 4 6 = nI (dvA B i (j - i)) := g7
  have g8 : ∀ x, i ≤ x → x < j → dtB (B x) = true := g8
  have hT1 := btT_K hT g1
  have r1 := B_r1 hn hT1
  have dl := dvA_le (B := B) (i := i) (k := j - i) (fun x h1 h2 => g8 x h1 (by omega))
  have t2 := hT1.2.1
  show (∃ q : zS × Nat, fX7_readDigits_0b n (fX7_readDigits_0 n f) (mk s1) 4 = _ ∧ _) ∨ ∃ s', fX7_readDigits_0b n (fX7_readDigits_0 n f) (mk s1) 4 = _ ∧ _
  unfold fX7_readDigits_0b fX7_readDigits_72
  rw [n48, n57, n1e, n23]
  have stop : ¬ (j < N ∧ dtB (B j) = true) → ∃ s' : zS, some ((), mk (wI s1 4 4 (nI 23))) = some ((), mk s') ∧ frK s s' ∧ s'.1 4 5 = s.1 4 5 ∧ s'.1 4 4 = nI 23 ∧ s'.1 4 6 = nI (dvA B i (rnV (fun x => dtB (B x)) N i - i)) ∧ s'.1 4 3 = nI (rnV (fun x => dtB (B x)) N i) := fun g => by
    have e := rn_0 (f := fun x => dtB (B x)) g
    rw [e] at g6
    rw [← g6]
    refine ⟨_, rfl, frK_t g1 (frK_w (by omega)), ?_, ?_, ?_, ?_⟩
    · rw [wI_at, upd_ne (by omega)]; exact g2
    · rw [wI_at, upd_at]
    · rw [wI_at, upd_ne (by omega)]; exact g7
    · rw [wI_at, upd_ne (by omega)]; exact g3
  by_cases gN : j < N
  · by_cases gd : dtB (B j) = true
    · left
      have gd' := of_decide_eq_true gd
      have bv : s1.1 2 j = nI (B j) := by rw [hT1.2.2.2.1 j gN, by8_n (by omega)]
      have un : dvA B i (j + 1 - i) = if dvA B i (j - i) < 100000 then dvA B i (j - i) * 10 + (B j - 48) else dvA B i (j - i) := by
        rw [show j + 1 - i = (j - i) + 1 by omega]
        show (if dvA B i (j - i) < 100000 then dvA B i (j - i) * 10 + (B (i + (j - i)) - 48) else dvA B i (j - i)) = _
        rw [show i + (j - i) = j by omega]
      have rs := rn_s (f := fun x => dtB (B x)) gN gd
      by_cases c : dvA B i (j - i) < 100000
      · rw [if_pos c] at un
        refine ⟨(wI (wI s1 4 6 (nI (dvA B i (j - i) * 10 + (B j - 48)))) 4 3 (nI (j + 1)), j + 1), ?_, ⟨frK_t g1 (frK_t (frK_w (by omega)) (frK_w (by omega))), ?_, ?_, by show i ≤ j + 1; omega, by show j + 1 ≤ N; omega, by show rnV _ N (j + 1) = _; rw [← rs]; exact g6, ?_, fun x h1 h2 => ?_⟩, by show N - (j + 1) < N - j; omega⟩
        · have sub' : nI (dvA B i (j - i) * 10) + nI (B j) - nI 48 = nI (dvA B i (j - i) * 10 + (B j - 48)) := by
            rw [nI_add, n_sub (by omega)]
            congr 1
            omega
          rw [nI_add] at sub'
          simp (disch := first | omega | assumption | (simp only [wL_1, wL_22, wI_2, wA_2, wQ_1, wQ_21] <;> first | assumption | omega)) only [LIT, LITm, nI_add, n_mul, fa_or, n_31m, n_shl0, n_le, n_lt, n_eq, Option.bind_some, B_rd hn, r1, g3, g7, t2, bv, sub', wI_at, upd_ne, show ¬ B j < 48 by omega, show ¬ 57 < B j by omega, Nat.reduceEqDiff, Nat.reduceLeDiff, show ¬ N ≤ j by omega, show ¬ 100000 ≤ dvA B i (j - i) by omega, ↓reduceIte]
        · show (wI (wI s1 4 6 _) 4 3 _).1 4 5 = _
          rw [wI_at, upd_ne (by omega), wI_at, upd_ne (by omega)]; exact g2
        · show (wI (wI s1 4 6 _) 4 3 _).1 4 3 = _
          rw [wI_at, upd_at]
        · show (wI (wI s1 4 6 _) 4 3 _).1 4 6 = nI (dvA B i (j + 1 - i))
          rw [wI_at, upd_ne (by omega), wI_at, upd_at, un]
        · by_cases q : x = j
          · rw [q]; exact gd
          · exact g8 x h1 (by have : x < j + 1 := h2; omega)
      · rw [if_neg c] at un
        refine ⟨(wI s1 4 3 (nI (j + 1)), j + 1), ?_, ⟨frK_t g1 (frK_w (by omega)), ?_, ?_, by show i ≤ j + 1; omega, by show j + 1 ≤ N; omega, by show rnV _ N (j + 1) = _; rw [← rs]; exact g6, ?_, fun x h1 h2 => ?_⟩, by show N - (j + 1) < N - j; omega⟩
        · simp (disch := first | omega | assumption | (simp only [wL_1, wL_22, wI_2, wA_2, wQ_1, wQ_21] <;> first | assumption | omega)) only [LIT, LITm, nI_add, n_mul, fa_or, n_31m, n_shl0, n_le, n_lt, n_eq, Option.bind_some, B_rd hn, r1, g3, g7, t2, bv, show ¬ B j < 48 by omega, show ¬ 57 < B j by omega, Nat.reduceEqDiff, Nat.reduceLeDiff, show ¬ N ≤ j by omega, show 100000 ≤ dvA B i (j - i) by omega, ↓reduceIte]
        · show (wI s1 4 3 _).1 4 5 = _
          rw [wI_at, upd_ne (by omega)]; exact g2
        · show (wI s1 4 3 _).1 4 3 = _
          rw [wI_at, upd_at]
        · show (wI s1 4 3 _).1 4 6 = nI (dvA B i (j + 1 - i))
          rw [wI_at, upd_ne (by omega), un]; exact g7
        · by_cases q : x = j
          · rw [q]; exact gd
          · exact g8 x h1 (by have : x < j + 1 := h2; omega)
    · right
      have bv := hT1.2.2.2.1 j gN
      have st := stop (fun q => gd q.2)
      rcases by8_out (l := 48) (h := 57) (hT1.2.2.2.2.1 j) (by omega) (by omega) (fun q => gd (decide_eq_true q)) with c1 | ⟨c1, c2⟩
      · simp (disch := first | omega | assumption | (simp only [wL_1, wL_22, wI_2, wA_2, wQ_1, wQ_21] <;> first | assumption | omega)) only [LIT, LITm, nI_add, n_mul, fa_or, n_31m, n_shl0, n_le, n_lt, n_eq, Option.bind_some, B_rd hn, r1, g3, t2, bv, c1, if_true, show ¬ N ≤ j by omega, ↓reduceIte]
        exact st
      · simp (disch := first | omega | assumption | (simp only [wL_1, wL_22, wI_2, wA_2, wQ_1, wQ_21] <;> first | assumption | omega)) only [LIT, LITm, nI_add, n_mul, fa_or, n_31m, n_shl0, n_le, n_lt, n_eq, Option.bind_some, B_rd hn, r1, g3, t2, bv, c1, c2, if_true, if_false, show ¬ N ≤ j by omega, ↓reduceIte]
        exact st
  · right
    have st := stop (fun q => gN q.1)
    simp (disch := first | omega | assumption | (simp only [wL_1, wL_22, wI_2, wA_2, wQ_1, wQ_21] <;> first | assumption | omega)) only [LIT, LITm, nI_add, n_mul, fa_or, n_31m, n_shl0, n_le, n_lt, n_eq, Option.bind_some, B_rd hn, g3, t2, show N ≤ j by omega, ↓reduceIte]
    exact st
end Cx2
