/-! ===== the reference settles ===== -/
def tkV (c l u : Nat) : Option Nat := if c = 0 then some (u + l) else if c < l then none else if c < u % 100 + l then some (u / 100 * 100 + 100 + l) else some (u + l)
theorem tkV_mo {c l u v u' : Nat} (hc : c ≤ 99) (h : tkV c l u = some v) (hu : u' ≤ u) : ∃ v', v' ≤ v ∧ tkV c l u' = some v' := by
  unfold tkV at h ⊢
  by_cases c0 : c = 0
  · rw [if_pos c0] at h ⊢
    cases h
    exact ⟨u' + l, by omega, rfl⟩
  · rw [if_neg c0] at h ⊢
    by_cases c1 : c < l
    · rw [if_pos c1] at h
      cases h
    · rw [if_neg c1] at h ⊢
      by_cases g : c < u % 100 + l <;> by_cases g' : c < u' % 100 + l
      · rw [if_pos g] at h; rw [if_pos g']; cases h; exact ⟨_, by omega, rfl⟩
      · rw [if_pos g] at h; rw [if_neg g']; cases h; exact ⟨_, by omega, rfl⟩
      · rw [if_neg g] at h; rw [if_pos g']; cases h; exact ⟨_, by omega, rfl⟩
      · rw [if_neg g] at h; rw [if_neg g']; cases h; exact ⟨_, by omega, rfl⟩
theorem tkV_b {c l u v : Nat} (h1 : 1 ≤ l) (h2 : l ≤ 99) (h : tkV c l u = some v) : u < v ∧ v ≤ u + 202 := by
  unfold tkV at h
  by_cases c0 : c = 0
  · rw [if_pos c0] at h
    cases h
    omega
  · rw [if_neg c0] at h
    by_cases c1 : c < l
    · rw [if_pos c1] at h
      cases h
    · rw [if_neg c1] at h
      by_cases g : c < u % 100 + l
      · rw [if_pos g] at h; cases h; omega
      · rw [if_neg g] at h; cases h; omega
section Se
variable {n p w c W : Nat} {s s0 : zS} {T : zT} {S : zD} {d : Nat → Option Nat} {D : Nat → Bool}
/-- a path's other end -/
def othV (T : zT) (p x : Nat) : Nat := if T 3 p = x then T 4 p else T 3 p
/-- a step of the reference's, on 512 * place + gone -/
def stE (T : zT) (S : zD) (w W c : Nat) (y u x v : Nat) : Prop := ∃ p, p < T 0 1 ∧ opnB T S w p = true ∧ (T 3 p = y / 512 ∨ T 4 p = y / 512) ∧ x = 512 * othV T p (y / 512) + (y % 512 ||| (W &&& 2 ^ p)) ∧ tkV c (T 5 p) u = some v
theorem stE_mo (hc : c ≤ 99) : moL (stE T S w W c) := by
  rintro y u x v u' ⟨p, h1, h2, h3, h4, h5⟩ hu
  obtain ⟨v', hv, e⟩ := tkV_mo hc h5 hu
  exact ⟨v', hv, p, h1, h2, h3, h4, e⟩
theorem stE_b (hW : WT T) {y u x v : Nat} (h : stE T S w W c y u x v) : u < v ∧ v ≤ u + 202 := by
  obtain ⟨p, h1, h2, h3, h4, h5⟩ := h
  have he := WT_p hW h1
  exact tkV_b (by omega) (by omega) h5
theorem m_takes {h : Nat} {l u : Nat} (hn : 239 ≤ n) (hl : l ≤ 99) (hu : u < 1000000) (hc : c ≤ 99) : fX11_takesMore n (mk s) 187 (nI u) (nI l) (nI c) = some (oV (tkV c l u), mk s) := by
  have n100 : (100 : Int32) = nI 100 := rfl
  unfold fX11_takesMore tkV
  rw [n100]
  by_cases c0 : c = 0
  · simp (disch := first | omega | assumption | (simp only [wL_1, wL_22, wI_2, wA_2, wQ_1, wQ_21] <;> first | assumption | omega)) only [LIT, LITm, nI_add, n_mul, fa_or, n_31m, n_shl0, n_le, n_lt, n_eq, Option.bind_some, B_m hn, c0, not_true_eq_false, ↓reduceIte, oV]
  · by_cases c1 : c < l
    · simp (disch := first | omega | assumption | (simp only [wL_1, wL_22, wI_2, wA_2, wQ_1, wQ_21] <;> first | assumption | omega)) only [LIT, LITm, nI_add, n_mul, fa_or, n_31m, n_shl0, n_le, n_lt, n_eq, Option.bind_some, B_m hn, c0, c1, show ¬ l ≤ c by omega, not_false_eq_true, ↓reduceIte, oV]
    · by_cases g : c < u % 100 + l
      · simp (disch := first | omega | assumption | (simp only [wL_1, wL_22, wI_2, wA_2, wQ_1, wQ_21] <;> first | assumption | omega)) only [LIT, LITm, nI_add, n_mul, fa_or, n_31m, n_shl0, n_le, n_lt, n_eq, Option.bind_some, B_m hn, c0, c1, show l ≤ c by omega, n_rI, n_dI, g, not_false_eq_true, ↓reduceIte, oV]
      · simp (disch := first | omega | assumption | (simp only [wL_1, wL_22, wI_2, wA_2, wQ_1, wQ_21] <;> first | assumption | omega)) only [LIT, LITm, nI_add, n_mul, fa_or, n_31m, n_shl0, n_le, n_lt, n_eq, Option.bind_some, B_m hn, c0, c1, show l ≤ c by omega, n_rI, n_dI, g, not_false_eq_true, ↓reduceIte, oV]
/-- the labels, and which are settled -/
def lbS (s : zS) (d : Nat → Option Nat) (D : Nat → Bool) : Prop := ∀ j, j < 3584 → s.1 227 j = oV (d j) ∧ s.1 228 j = nI (D j).toNat
theorem oV_neg {o : Option Nat} (h : ∀ v, o = some v → v < 1000000) : (oV o < nI 0) = (o = none) := by
  cases o with
  | none => simp only [oV, n_m1lt]
  | some v => simp only [oV, n_lt0 (show v < 2147483648 by have := h v rfl; omega), reduceCtorEq]
/-- the least that isn't settled, among those before i -/
def mnS (d : Nat → Option Nat) (D : Nat → Bool) (i : Nat) (o : Option Nat) : Prop := (o = none ∧ ∀ j, j < i → d j ≠ none → D j = true) ∨ ∃ k v, o = some k ∧ k < i ∧ d k = some v ∧ D k = false ∧ ∀ j u, j < i → d j = some u → D j = false → v ≤ u
theorem m_s64 {r58 : ai_H → Nat → Int32 → Int32 → Int32 → Option (Unit × ai_H)} {a b e : Int32} (hn : 239 ≤ n) (hL : lbS s d D) (hb : ∀ j v, j < 3584 → d j = some v → v < 1000000) : ∃ o, mnS d D 3584 o ∧ (o = none → fX11_settle_64 n r58 bi_K (mk s) 187 a b e m1 (nI 0) = some ((), mk s)) ∧ ∀ k, o = some k → fX11_settle_64 n r58 bi_K (mk s) 187 a b e m1 (nI 0) = fX11_settle_141 n r58 bi_K (mk (wI s 228 k (nI 1))) 187 a b e (nI k) (nI 0) := by
  have n3 : (3584 : Int32) = nI 3584 := rfl
  refine lp_up (F := fun f (o : Option Nat) i => fX11_settle_64 n r58 f (mk s) 187 a b e (oV o) (nI i)) (N := 3584) (P := fun i o => mnS d D i o) (Q := fun r => ∃ o, mnS d D 3584 o ∧ (o = none → r = some ((), mk s)) ∧ ∀ k, o = some k → r = fX11_settle_141 n r58 bi_K (mk (wI s 228 k (nI 1))) 187 a b e (nI k) (nI 0)) ?_ ?_ 3584 bi_K none 0 (by omega) (by unfold bi_K; omega) (Or.inl ⟨rfl, fun j h => absurd h (Nat.not_lt_zero j)⟩)
  · intro f o i hi hP
    left
    obtain ⟨l1, l2⟩ := hL i hi
    show ∃ s', fX11_settle_64b n r58 (fX11_settle_64 n r58 f) (mk s) 187 a b e (oV o) (nI i) = _ ∧ _
    unfold fX11_settle_64b fX11_settle_114 fX11_settle_118
    rw [n3]
    have stay : (d i ≠ none → D i = true ∨ ∃ k v u, o = some k ∧ d k = some v ∧ d i = some u ∧ v ≤ u) → mnS d D (i + 1) o := by
      intro h
      rcases hP with ⟨e1, h1⟩ | ⟨k, v, e1, h1, h2, h3, h4⟩
      · refine Or.inl ⟨e1, fun j hj hd => ?_⟩
        by_cases q : j = i
        · rw [q] at hd ⊢
          rcases h hd with g | ⟨k, v, u, g, -⟩
          · exact g
          · rw [e1] at g; cases g
        · exact h1 j (by omega) hd
      · refine Or.inr ⟨k, v, e1, by omega, h2, h3, fun j u hj hd hD => ?_⟩
        by_cases q : j = i
        · rw [q] at hd hD
          rcases h (by rw [hd]; exact fun g => by cases g) with g | ⟨k', v', u', g1, g2, g3, g4⟩
          · rw [hD] at g; cases g
          · rw [e1] at g1; cases g1
            rw [h2] at g2; cases g2
            rw [hd] at g3; cases g3
            exact g4
        · exact h4 j u (by omega) hd hD
    cases ed : d i with
    | none =>
      refine ⟨o, ?_, stay (fun h => absurd ed h)⟩
      rw [ed] at l1
      simp (disch := first | omega | assumption | (simp only [wL_1, wL_22, wI_2, wA_2, wQ_1, wQ_21] <;> first | assumption | omega)) only [LIT, LITm, nI_add, n_mul, fa_or, n_31m, n_shl0, n_le, n_lt, n_eq, Option.bind_some, B_m hn, B_mc hn, l1, oV, n_m1lt, if_true, show ¬ 3584 ≤ i by omega, ↓reduceIte]
    | some u =>
      have hu := hb i u hi ed
      have nlt : (nI u < nI 0) = False := n_lt0 (by omega)
      rw [ed] at l1
      have l1' : s.1 227 i = nI u := l1
      cases eD : D i with
      | true =>
        rw [eD] at l2
        refine ⟨o, ?_, stay (fun _ => Or.inl eD)⟩
        simp (disch := first | omega | assumption | (simp only [wL_1, wL_22, wI_2, wA_2, wQ_1, wQ_21] <;> first | assumption | omega)) only [LIT, LITm, nI_add, n_mul, fa_or, n_31m, n_shl0, n_le, n_lt, n_eq, Option.bind_some, B_m hn, B_mc hn, l1', l2, nlt, Bool.toNat_true, Nat.reduceEqDiff, Nat.reduceLeDiff, not_false_eq_true, if_false, show ¬ 3584 ≤ i by omega, ↓reduceIte]
      | false =>
        rw [eD] at l2
        rcases hP with ⟨e1, h1⟩ | ⟨k, v, e1, h1, h2, h3, h4⟩
        · refine ⟨some i, ?_, Or.inr ⟨i, u, rfl, by omega, ed, eD, fun j u' hj hd hD => ?_⟩⟩
          · rw [e1]
            simp (disch := first | omega | assumption | (simp only [wL_1, wL_22, wI_2, wA_2, wQ_1, wQ_21] <;> first | assumption | omega)) only [LIT, LITm, nI_add, n_mul, fa_or, n_31m, n_shl0, n_le, n_lt, n_eq, Option.bind_some, B_m hn, B_mc hn, l1', l2, nlt, oV, n_m1lt, Bool.toNat_false, not_true_eq_false, if_false, if_true, show ¬ 3584 ≤ i by omega, ↓reduceIte]
          · by_cases q : j = i
            · rw [q, ed] at hd; cases hd; exact Nat.le_refl _
            · have := h1 j (by omega) (by rw [hd]; exact fun g => by cases g)
              rw [hD] at this; cases this
        · have hv := hb k v (by omega) h2
          have lk : s.1 227 k = nI v := by rw [(hL k (by omega)).1, h2]; rfl
          have nk : (nI k < nI 0) = False := n_lt0 (by omega)
          by_cases g : v ≤ u
          · refine ⟨o, ?_, stay (fun _ => Or.inr ⟨k, v, u, e1, h2, ed, g⟩)⟩
            rw [e1]
            simp (disch := first | omega | assumption | (simp only [wL_1, wL_22, wI_2, wA_2, wQ_1, wQ_21] <;> first | assumption | omega)) only [LIT, LITm, nI_add, n_mul, fa_or, n_31m, n_shl0, n_le, n_lt, n_eq, Option.bind_some, B_m hn, B_mc hn, l1', l2, lk, nlt, nk, oV, g, Bool.toNat_false, not_true_eq_false, if_false, show ¬ 3584 ≤ i by omega, ↓reduceIte]
          · refine ⟨some i, ?_, Or.inr ⟨i, u, rfl, by omega, ed, eD, fun j u' hj hd hD => ?_⟩⟩
            · rw [e1]
              simp (disch := first | omega | assumption | (simp only [wL_1, wL_22, wI_2, wA_2, wQ_1, wQ_21] <;> first | assumption | omega)) only [LIT, LITm, nI_add, n_mul, fa_or, n_31m, n_shl0, n_le, n_lt, n_eq, Option.bind_some, B_m hn, B_mc hn, l1', l2, lk, nlt, nk, oV, g, Bool.toNat_false, not_true_eq_false, if_false, show ¬ 3584 ≤ i by omega, ↓reduceIte]
            · by_cases q : j = i
              · rw [q, ed] at hd; cases hd; exact Nat.le_refl _
              · have := h4 j u' (by omega) hd hD
                omega
  · intro f o hP
    refine ⟨o, hP, fun h => ?_, fun k h => ?_⟩
    · rw [h]
      show fX11_settle_64b n r58 (fX11_settle_64 n r58 f) (mk s) 187 a b e m1 (nI 3584) = _
      unfold fX11_settle_64b
      rw [n3]
      simp (disch := first | omega | assumption | (simp only [wL_1, wL_22, wI_2, wA_2, wQ_1, wQ_21] <;> first | assumption | omega)) only [LIT, LITm, nI_add, n_mul, fa_or, n_31m, n_shl0, n_le, n_lt, n_eq, Option.bind_some, n_m1le0, if_false, Nat.le_refl, ↓reduceIte]
    · have hk : k < 3584 := by
        rcases hP with ⟨e1, -⟩ | ⟨k', v, e1, h1, -⟩
        · rw [h] at e1; cases e1
        · rw [h] at e1; cases e1; exact h1
      rw [h]
      show fX11_settle_64b n r58 (fX11_settle_64 n r58 f) (mk s) 187 a b e (nI k) (nI 3584) = _
      unfold fX11_settle_64b
      rw [n3]
      simp (disch := first | omega | assumption | (simp only [wL_1, wL_22, wI_2, wA_2, wQ_1, wQ_21] <;> first | assumption | omega)) only [LIT, LITm, nI_add, n_mul, fa_or, n_31m, n_shl0, n_le, n_lt, n_eq, Option.bind_some, B_m hn, B_mc hn, nar_b (show 1 ≤ 1 by omega), Nat.zero_le, Nat.le_refl, ↓reduceIte]
end Se
