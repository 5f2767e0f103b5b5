/-! ===== lines on the reference: rows in the making ===== -/
section Mi3
variable {n N k a r p m L v b τ M i : Nat} {B f : Nat → Nat} {s s' s0 s1 s2 : zS} {q : zQ} {tok : zK} {T : zT} {I I' : Nat → Nat → Int32} {cs : List Nat}
def arF (τ : Nat) : Nat := [192, 193, 199, 203, 206].getD τ 0
theorem aF1 (h : τ < 5) : 192 ≤ arF τ ∧ arF τ + lnF τ ≤ 209 ∧ 1 ≤ lmF τ := by
  rcases (by omega : τ = 0 ∨ τ = 1 ∨ τ = 2 ∨ τ = 3 ∨ τ = 4) with rfl | rfl | rfl | rfl | rfl <;> decide
theorem aF2 {τ' : Nat} (h : τ < 5) (h' : τ' < 5) (e : τ' ≠ τ) : arF τ' + lnF τ' ≤ arF τ ∨ arF τ + lnF τ ≤ arF τ' := by
  have tab : ∀ τ τ' : Fin 5, τ' ≠ τ → arF τ'.1 + lnF τ'.1 ≤ arF τ.1 ∨ arF τ.1 + lnF τ.1 ≤ arF τ'.1 := by decide
  exact tab ⟨τ, h⟩ ⟨τ', h'⟩ (fun g => e (congrArg Fin.val g))
def mtb (I : Nat → Nat → Int32) (T : zT) (τ : Nat) : Prop := I 187 (18 + τ) = nI (T 0 τ) ∧ ∀ i, i < T 0 τ → ∀ c, c < lnF τ → I (arF τ + c) (lmF τ + i) = nI (T (baF τ + c) i)
/-- what is told so far, in the reference's draft -/
def mG (I : Nat → Nat → Int32) (T : zT) (M : Nat) : Prop := (∀ τ, τ < 5 → mtb I T τ) ∧ (I 191 3 = nI (T 0 6) ∧ I 191 4 = nI (T 0 7) ∧ I 191 5 = nI (T 0 8)) ∧ (∀ i, i < 3 → I 190 i = nI (M.testBit (5 + i)).toNat) ∧ ∀ w, w < 3 → I 209 (3 + w) = nI (M.testBit (9 + w)).toNat ∧ (T 18 w ≠ 0 → I 210 (3 + w) = nI (T 19 w) ∧ I 211 (3 + w) = nI (T 20 w))
def rwN (τ m : Nat) (s0 s : zS) (cs : List Nat) : Prop := s.2 = s0.2 ∧ (∀ b, b ≠ 187 → ¬ (arF τ ≤ b ∧ b < arF τ + lnF τ) → s.1 b = s0.1 b) ∧ (∀ j, ¬ (7 ≤ j ∧ j ≤ 11) → j ≠ 7 → j ≠ 8 → s.1 187 j = s0.1 187 j) ∧ (∀ c, c < lnF τ → ∀ j, j ≠ lmF τ + m → s.1 (arF τ + c) j = s0.1 (arF τ + c) j) ∧ ∀ c, c < cs.length → s.1 (arF τ + c) (lmF τ + m) = nI (cs.getD c 0)
theorem rwN_0 (hτ : τ < 5) (h : frN s0 s) : rwN τ m s0 s [] := by
  have := aF1 hτ
  exact ⟨h.1, fun b h1 _ => h.2.1 b h1, h.2.2, fun c _ j _ => by rw [h.2.1 _ (by omega)], fun c hc => absurd hc (Nat.not_lt_zero _)⟩
theorem rwN_N (hτ : τ < 5) (h : rwN τ m s0 s cs) (f : frN s s1) : rwN τ m s0 s1 cs := by
  have := aF1 hτ
  obtain ⟨h1, h2, h3, h4, h5⟩ := h
  refine ⟨f.1.trans h1, fun b g1 g2 => (f.2.1 b g1).trans (h2 b g1 g2), fun j g1 g2 g3 => (f.2.2 j g1 g2 g3).trans (h3 j g1 g2 g3), fun c hc j hj => ?_, fun c hc => ?_⟩
  · rw [f.2.1 _ (by omega)]; exact h4 c hc j hj
  · rw [f.2.1 _ (by omega)]; exact h5 c hc
theorem rwN_p (hτ : τ < 5) (h : rwN τ m s0 s cs) (hc : cs.length < lnF τ) : rwN τ m s0 (wI s (arF τ + cs.length) (lmF τ + m) (nI v)) (cs ++ [v]) := by
  have := aF1 hτ
  obtain ⟨h1, h2, h3, h4, h5⟩ := h
  refine ⟨h1, fun b g1 g2 => by rw [wI_ne (by omega)]; exact h2 b g1 g2, fun j g1 g2 g3 => by rw [wI_ne (by omega)]; exact h3 j g1 g2 g3, fun c hc' j hj => ?_, fun c hc' => ?_⟩
  · by_cases e : c = cs.length
    · rw [e, wI_at, upd_ne hj, ← e]; exact h4 c hc' j hj
    · rw [wI_ne (by omega)]; exact h4 c hc' j hj
  · rw [List.length_append] at hc'
    have hc' : c < cs.length + 1 := hc'
    by_cases e : c = cs.length
    · rw [e, wI_at, upd_at, (getD_app cs v 0 0).2]
    · rw [wI_ne (by omega), (getD_app cs v 0 c).1 (by omega)]; exact h5 c (by omega)
theorem row_endN (hτ : τ < 5) (hG : mG s0.1 T M) (hr : rwN τ (T 0 τ) s0 s cs) (hl : cs.length = lnF τ) : mG (wI s 187 (18 + τ) (nI (T 0 τ + 1))).1 (rowU T τ (baF τ) cs) M := by
  obtain ⟨h1, h2, h3, h4, h5⟩ := hr
  obtain ⟨d1, d2, d3, d4⟩ := hG
  obtain ⟨a1, a2, a3⟩ := aF1 hτ
  obtain ⟨b1, b2, _, _, _⟩ := tF1 hτ
  have keep : ∀ b, b ≠ 187 → ¬ (arF τ ≤ b ∧ b < arF τ + lnF τ) → (wI s 187 (18 + τ) (nI (T 0 τ + 1))).1 b = s0.1 b := fun b g1 g2 => by rw [wI_ne g1]; exact h2 b g1 g2
  refine ⟨fun τ' hτ' => ?_, ?_, ?_, ?_⟩
  · obtain ⟨e1, e2⟩ := d1 τ' hτ'
    obtain ⟨a1', a2', a3'⟩ := aF1 hτ'
    obtain ⟨b1', b2', _, _, _⟩ := tF1 hτ'
    by_cases e : τ' = τ
    · subst e
      refine ⟨by rw [wI_at, upd_at, rowU_sz], fun i hi c hc => ?_⟩
      rw [rowU_sz] at hi
      rw [wI_ne (by omega)]
      by_cases ei : i = T 0 τ'
      · rw [ei, h5 c (by omega), rowU_at b1 (by omega)]
      · rw [h4 c hc _ (by omega), rowU_ne (Or.inl (by omega)) (Or.inr (Or.inr ei))]
        exact e2 i (by omega) c hc
    · have f := aF2 hτ hτ' e
      have g := tF2 hτ hτ' e
      have sz : rowU T τ (baF τ) cs 0 τ' = T 0 τ' := rowU_ne (Or.inr e) (Or.inl (by omega))
      refine ⟨by rw [sz, wI_at, upd_ne (by omega), h3 _ (by omega) (by omega) (by omega)]; exact e1, fun i hi c hc => ?_⟩
      rw [sz] at hi
      rw [keep _ (by omega) (by omega), rowU_ne (Or.inl (by omega)) (by omega)]
      exact e2 i hi c hc
  · rw [keep 191 (by omega) (by omega), rowU_ne (Or.inr (by omega)) (Or.inl (by omega)), rowU_ne (Or.inr (by omega)) (Or.inl (by omega)), rowU_ne (Or.inr (by omega)) (Or.inl (by omega))]
    exact d2
  · rw [keep 190 (by omega) (by omega)]; exact d3
  · intro w hw
    rw [keep 209 (by omega) (by omega), keep 210 (by omega) (by omega), keep 211 (by omega) (by omega), rowU_ne (Or.inl (by omega)) (Or.inr (Or.inl (by omega))), rowU_ne (Or.inl (by omega)) (Or.inr (Or.inl (by omega))), rowU_ne (Or.inl (by omega)) (Or.inr (Or.inl (by omega)))]
    exact d4 w hw
end Mi3
