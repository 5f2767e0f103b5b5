/-! ===== lines on the reference: what a line gives; places ===== -/
section Mj4
variable {n N k a r p m L v b τ M i : Nat} {B f : Nat → Nat} {s s' s0 s1 s2 : zS} {q : zQ} {tok : zK} {T : zT} {I I' : Nat → Nat → Int32} {cs : List Nat} {x : zX}
/-- what a text's reading may change on the reference -/
def frDt (s s' : zS) : Prop := s'.2 = s.2 ∧ (∀ b, b < 187 ∨ 216 < b ∨ b = 188 ∨ b = 189 → s'.1 b = s.1 b) ∧ (∀ j, ¬ (4 ≤ j ∧ j ≤ 11) → ¬ (18 ≤ j ∧ j ≤ 23) → ¬ (51 ≤ j ∧ j ≤ 56) → s'.1 187 j = s.1 187 j) ∧ (∀ j, j < 3 → s'.1 191 j = s.1 191 j ∧ s'.1 209 j = s.1 209 j ∧ s'.1 210 j = s.1 210 j ∧ s'.1 211 j = s.1 211 j) ∧ (∀ τ, τ < 5 → ∀ c, c < lnF τ → ∀ j, j < lmF τ → s'.1 (arF τ + c) j = s.1 (arF τ + c) j) ∧ ∀ j, j < 64 → s'.1 212 j = s.1 212 j ∧ s'.1 213 j = s.1 213 j ∧ s'.1 214 j = s.1 214 j
theorem frDt_r : frDt s s := ⟨rfl, fun _ _ => rfl, fun _ _ _ _ => rfl, fun _ _ => ⟨rfl, rfl, rfl, rfl⟩, fun _ _ _ _ _ _ => rfl, fun _ _ => ⟨rfl, rfl, rfl⟩⟩
theorem frDt_t (h : frDt s s1) (g : frDt s1 s2) : frDt s s2 := by
  obtain ⟨h1, h2, h3, h4, h5, h6⟩ := h
  obtain ⟨g1, g2, g3, g4, g5, g6⟩ := g
  exact ⟨g1.trans h1, fun b hb => (g2 b hb).trans (h2 b hb), fun j x1 x2 x3 => (g3 j x1 x2 x3).trans (h3 j x1 x2 x3), fun j hj => ⟨(g4 j hj).1.trans (h4 j hj).1, (g4 j hj).2.1.trans (h4 j hj).2.1, (g4 j hj).2.2.1.trans (h4 j hj).2.2.1, (g4 j hj).2.2.2.trans (h4 j hj).2.2.2⟩, fun τ hτ c hc j hj => (g5 τ hτ c hc j hj).trans (h5 τ hτ c hc j hj), fun j hj => ⟨(g6 j hj).1.trans (h6 j hj).1, (g6 j hj).2.1.trans (h6 j hj).2.1, (g6 j hj).2.2.trans (h6 j hj).2.2⟩⟩
theorem frN_Dt (h : frN s s1) : frDt s s1 := by
  obtain ⟨h1, h2, h3⟩ := h
  refine ⟨h1, fun b hb => h2 b (by omega), fun j x1 x2 x3 => h3 j (by omega) (by omega) (by omega), fun j _ => ?_, fun τ hτ c hc j _ => ?_, fun j _ => ?_⟩
  · rw [h2 191 (by omega), h2 209 (by omega), h2 210 (by omega), h2 211 (by omega)]; exact ⟨rfl, rfl, rfl, rfl⟩
  · have := aF1 hτ; rw [h2 _ (by omega)]
  · rw [h2 212 (by omega), h2 213 (by omega), h2 214 (by omega)]; exact ⟨rfl, rfl, rfl⟩
theorem frE2_Dt (h : frE2 a s s1) : frDt s s1 := by
  obtain ⟨h1, h2, h3, h4⟩ := h
  refine ⟨h1, fun b hb => h2 b (by omega) (by omega) (by omega) (by omega) (by omega) (by omega), fun j x1 x2 x3 => h3 j (by omega) (by omega) (by omega) (by omega) (by omega) (by omega) (by omega) (by omega), fun j _ => ?_, fun τ hτ c hc j _ => ?_, fun j hj => h4 j (by omega)⟩
  · rw [h2 191 (by omega) (by omega) (by omega) (by omega) (by omega) (by omega), h2 209 (by omega) (by omega) (by omega) (by omega) (by omega) (by omega), h2 210 (by omega) (by omega) (by omega) (by omega) (by omega) (by omega), h2 211 (by omega) (by omega) (by omega) (by omega) (by omega) (by omega)]; exact ⟨rfl, rfl, rfl, rfl⟩
  · have := aF1 hτ; rw [h2 _ (by omega) (by omega) (by omega) (by omega) (by omega) (by omega)]
theorem frNe_Dt (h : frNe s s1) : frDt s s1 := by
  obtain ⟨h1, h2, h3⟩ := h
  refine ⟨h1, fun b hb => h2 b (by omega), fun j x1 x2 x3 => h3 j (by omega) (by omega) (by omega), fun j _ => ?_, fun τ hτ c hc j _ => ?_, fun j _ => ?_⟩
  · rw [h2 191 (by omega), h2 209 (by omega), h2 210 (by omega), h2 211 (by omega)]; exact ⟨rfl, rfl, rfl, rfl⟩
  · have := aF1 hτ; rw [h2 _ (by omega)]
  · rw [h2 212 (by omega), h2 213 (by omega), h2 214 (by omega)]; exact ⟨rfl, rfl, rfl⟩
theorem frE3_Dt (h : frE3 a s s1) : frDt s s1 := by
  obtain ⟨h1, h2, h3, h4⟩ := h
  refine ⟨h1, fun b hb => h2 b (by omega) (by omega) (by omega) (by omega) (by omega) (by omega), fun j x1 x2 x3 => h3 j (by omega) (by omega) (by omega) (by omega) (by omega) (by omega) (by omega) (by omega), fun j _ => ?_, fun τ hτ c hc j _ => ?_, fun j hj => h4 j (by omega)⟩
  · rw [h2 191 (by omega) (by omega) (by omega) (by omega) (by omega) (by omega), h2 209 (by omega) (by omega) (by omega) (by omega) (by omega) (by omega), h2 210 (by omega) (by omega) (by omega) (by omega) (by omega) (by omega), h2 211 (by omega) (by omega) (by omega) (by omega) (by omega) (by omega)]; exact ⟨rfl, rfl, rfl, rfl⟩
  · have := aF1 hτ; rw [h2 _ (by omega) (by omega) (by omega) (by omega) (by omega) (by omega)]
theorem frDt_w {j : Nat} {x : Int32} (h : (4 ≤ j ∧ j ≤ 11) ∨ (18 ≤ j ∧ j ≤ 23) ∨ (51 ≤ j ∧ j ≤ 56)) : frDt s (wI s 187 j x) := by
  refine ⟨rfl, fun b hb => wI_ne (by omega), fun i x1 x2 x3 => by rw [wI_at, upd_ne (by omega)], fun i _ => ?_, fun τ hτ c hc i _ => ?_, fun i _ => ?_⟩
  · rw [wI_ne (by omega), wI_ne (by omega), wI_ne (by omega), wI_ne (by omega)]; exact ⟨rfl, rfl, rfl, rfl⟩
  · have := aF1 hτ; rw [wI_ne (by omega)]
  · rw [wI_ne (by omega), wI_ne (by omega), wI_ne (by omega)]; exact ⟨rfl, rfl, rfl⟩
theorem rwN_Dt (hτ : τ < 5) (h : rwN τ m s0 s cs) : frDt s0 s := by
  obtain ⟨h1, h2, h3, h4, h5⟩ := h
  obtain ⟨a1, a2, a3⟩ := aF1 hτ
  refine ⟨h1, fun b hb => h2 b (by omega) (by omega), fun j x1 x2 x3 => h3 j (by omega) (by omega) (by omega), fun j _ => ?_, fun τ' hτ' c hc j hj => ?_, fun j _ => ?_⟩
  · rw [h2 191 (by omega) (by omega), h2 209 (by omega) (by omega), h2 210 (by omega) (by omega), h2 211 (by omega) (by omega)]; exact ⟨rfl, rfl, rfl, rfl⟩
  · by_cases e : τ' = τ
    · subst e; exact h4 c hc j (by omega)
    · have f := aF2 hτ hτ' e
      have := aF1 hτ'
      rw [h2 _ (by omega) (by omega)]
  · rw [h2 212 (by omega) (by omega), h2 213 (by omega) (by omega), h2 214 (by omega) (by omega)]; exact ⟨rfl, rfl, rfl⟩
/-- the first so many knots -/
def sfK (o : List (Nat × Nat)) (i : Nat) : List (Nat × Nat) := o.drop (o.length - i)
/-- a law's knots in the reference's draft -/
def lkM (I : Nat → Nat → Int32) (a b : Nat) (o : List (Nat × Nat)) : Prop := a < b ∧ b ≤ o.length ∧ (hdK a (sfK o b)).length = 1 ∧ ∀ i, a ≤ i → i < b → ∃ x, sfK o (i + 1) = x :: sfK o i ∧ kE I (64 + i) x (hdK a (sfK o i))
/-- the reference, between lines -/
def mL (B : Nat → Nat) (N : Nat) (s : zS) (x : zX) : Prop := mHd B N s x.1.1 ∧ mG s.1 x.2.1 x.2.2 ∧ (s.1 187 23 = nI x.1.2.1.length ∧ s.1 187 54 = nI x.1.2.2 ∧ s.1 187 4 = nI 0 ∧ s.1 187 5 = m1) ∧ ∀ w, w < 3 → x.2.1 18 w ≠ 0 → lkM s.1 (x.2.1 19 w) (x.2.1 20 w) x.1.2.1
def lnM (B : Nat → Nat) (N : Nat) (s : zS) (c : Option (Int32 × ai_H)) : Except (Nat × Nat) zX → Prop
  | .ok x' => ∃ s', c = some (nI 1, mk s') ∧ frDt s s' ∧ mL B N s' x'
  | .error e => ∃ s', c = some (nI 0, mk s') ∧ frDt s s' ∧ s'.1 187 4 = nI e.1 ∧ s'.1 187 5 = nI e.2
theorem lk_f {o : List (Nat × Nat)} (h : lkM I a b o) (e : ∀ i, i < b → I' 212 (64 + i) = I 212 (64 + i) ∧ I' 213 (64 + i) = I 213 (64 + i) ∧ I' 214 (64 + i) = I 214 (64 + i)) : lkM I' a b o := by
  obtain ⟨h1, h2, h3, h4⟩ := h
  refine ⟨h1, h2, h3, fun i x1 x2 => ?_⟩
  obtain ⟨x, g1, g2⟩ := h4 i x1 x2
  exact ⟨x, g1, kE_f g2 (e i x2).1 (e i x2).2.1 (e i x2).2.2⟩
theorem fin_rowN {q' : zQ} (hτ : τ < 5) (hL : mL B N s0 (q, T, M)) (hr : rwN τ (T 0 τ) s0 s cs) (hH : mHd B N s q'.1) (he : q'.2 = q.2) (hl : cs.length = lnF τ) : frDt s0 (wI s 187 (18 + τ) (nI (T 0 τ + 1))) ∧ mL B N (wI s 187 (18 + τ) (nI (T 0 τ + 1))) (q', rowU T τ (baF τ) cs, M) := by
  obtain ⟨_, hG, ⟨k1, k2, k4, k5⟩, hk⟩ := hL
  obtain ⟨b1, b2, _, _, _⟩ := tF1 hτ
  obtain ⟨a1, a2, a3⟩ := aF1 hτ
  have k1 : s0.1 187 23 = nI q.2.1.length := k1
  have k2 : s0.1 187 54 = nI q.2.2 := k2
  refine ⟨frDt_t (rwN_Dt hτ hr) (frDt_w (by omega)), mHd_f hH (fun j g1 g2 => by rw [wI_at, upd_ne (by omega)]) (wI_ne (by omega)) (wI_ne (by omega)), row_endN hτ hG hr hl, ⟨?_, ?_, ?_, ?_⟩, fun w hw => ?_⟩
  · show (wI s 187 (18 + τ) (nI (T 0 τ + 1))).1 187 23 = nI q'.2.1.length
    rw [he, wI_at, upd_ne (by omega), hr.2.2.1 23 (by omega) (by omega) (by omega)]; exact k1
  · show (wI s 187 (18 + τ) (nI (T 0 τ + 1))).1 187 54 = nI q'.2.2
    rw [he, wI_at, upd_ne (by omega), hr.2.2.1 54 (by omega) (by omega) (by omega)]; exact k2
  · rw [wI_at, upd_ne (by omega), hr.2.2.1 4 (by omega) (by omega) (by omega)]; exact k4
  · rw [wI_at, upd_ne (by omega), hr.2.2.1 5 (by omega) (by omega) (by omega)]; exact k5
  · show rowU T τ (baF τ) cs 18 w ≠ 0 → lkM (wI s 187 (18 + τ) (nI (T 0 τ + 1))).1 (rowU T τ (baF τ) cs 19 w) (rowU T τ (baF τ) cs 20 w) q'.2.1
    rw [rowU_ne (Or.inl (by omega)) (Or.inr (Or.inl (by omega))), rowU_ne (Or.inl (by omega)) (Or.inr (Or.inl (by omega))), rowU_ne (Or.inl (by omega)) (Or.inr (Or.inl (by omega))), he]
    intro g
    refine lk_f (hk w hw g) (fun i _ => ?_)
    rw [wI_ne (by omega), wI_ne (by omega), wI_ne (by omega), hr.2.1 212 (by omega) (by omega), hr.2.1 213 (by omega) (by omega), hr.2.1 214 (by omega) (by omega)]
    exact ⟨rfl, rfl, rfl⟩
end Mj4
