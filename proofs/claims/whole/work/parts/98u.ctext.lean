/-! ===== the text on the class ===== -/
section Cu
variable {n t N a : Nat} {B : Nat → Nat} {s s' s1 : zS}
theorem c_fill3 {K : Nat} (hl : ∀ s : zS, lA n (mk s) a = some (nI K)) (hw : ∀ (s : zS) (j : Nat) (x : Int32), j < K → wX 1 (fun x => x) n (mk s) a (nI j) x = some (mk (wI s a j x))) (hK : K < 100) : ∃ s' : zS, fJ7_fill_53178 n (mk s) a (0 : Int32) = some ((), mk s') ∧ (∀ b, b ≠ a → s'.1 b = s.1 b) ∧ s'.2 = s.2 ∧ ∀ w, w < K → s'.1 a w = nI 0 := by
  unfold fJ7_fill_53178
  rw [hl, Option.bind_some]
  have gen : ∀ m i F (s1 : zS), m + i = K → m < F → (∀ b, b ≠ a → s1.1 b = s.1 b) → s1.2 = s.2 → (∀ w, w < i → s1.1 a w = nI 0) → ∃ s' : zS, fJ7_fill_53178_5 n F (mk s1) a (0 : Int32) (nI i) (nI K) = some ((), mk s') ∧ (∀ b, b ≠ a → s'.1 b = s.1 b) ∧ s'.2 = s.2 ∧ ∀ w, w < K → s'.1 a w = nI 0 := by
    intro m
    induction m with
    | zero =>
      intro i F s1 e hF h1 h2 h3
      obtain ⟨F', rfl⟩ : ∃ F', F = F' + 1 := ⟨F - 1, by omega⟩
      refine ⟨s1, ?_, h1, h2, fun w hw => h3 w (by omega)⟩
      show fJ7_fill_53178_5b n (fJ7_fill_53178_5 n F') (mk s1) a (0 : Int32) (nI i) (nI K) = _
      unfold fJ7_fill_53178_5b
      simp (disch := first | omega | assumption | (simp only [wL_1, wL_22, wI_2, wA_2, wQ_1, wQ_21] <;> first | assumption | omega)) only [LIT, LITm, nI_add, n_mul, fa_or, n_31m, n_shl0, n_le, n_lt, n_eq, Option.bind_some, show K ≤ i by omega, ↓reduceIte]
    | succ m ih =>
      intro i F s1 e hF h1 h2 h3
      obtain ⟨F', rfl⟩ : ∃ F', F = F' + 1 := ⟨F - 1, by omega⟩
      obtain ⟨s', g⟩ := ih (i + 1) F' (wI s1 a i (nI 0)) (by omega) (by omega) (fun b hb => by rw [wI_ne hb]; exact h1 b hb) h2 (fun w hw => by
        rw [wI_at]
        by_cases e : w = i
        · rw [e, upd_at]
        · rw [upd_ne e]; exact h3 w (by omega))
      refine ⟨s', ?_, g.2⟩
      rw [← g.1]
      have w1 := hw s1 i (nI 0) (by omega)
      show fJ7_fill_53178_5b n (fJ7_fill_53178_5 n F') (mk s1) a (0 : Int32) (nI i) (nI K) = _
      unfold fJ7_fill_53178_5b
      simp (disch := first | omega | assumption | (simp only [wL_1, wL_22, wI_2, wA_2, wQ_1, wQ_21] <;> first | assumption | omega)) only [LIT, LITm, nI_add, n_mul, fa_or, n_31m, n_shl0, n_le, n_lt, n_eq, Option.bind_some, w1, show ¬ K ≤ i by omega, ↓reduceIte]
  exact gen K 0 bi_K s (by omega) (by unfold bi_K; omega) (fun _ _ => rfl) rfl (fun w h => absurd h (Nat.not_lt_zero _))
/-- nothing told -/
def T00 : zT := fun a i => if a = 0 ∧ i = 6 then 366 else 0
theorem c_empty (hn : 239 ≤ n) (ht : t = 6 ∨ t = 29) : ∃ s' : zS, fX8_empty n (mk s) t = some ((), mk s') ∧ s'.2 = s.2 ∧ (∀ a, (a < t ∨ t + 22 < a) → s'.1 a = s.1 a) ∧ dT s'.1 t T00 ∧ s'.1 (t + 16) 4 = nI 0 ∧ s'.1 (t + 16) 5 = nI 0 ∧ s'.1 t 9 = nI 0 := by
  obtain ⟨s5, e5⟩ : ∃ s5 : zS, s5 = wI (wI (wI (wI (wI s (t + 1) 4 (nI 0)) (t + 4) 4 (nI 0)) (t + 7) 4 (nI 0)) (t + 10) 4 (nI 0)) (t + 13) 4 (nI 0) := ⟨_, rfl⟩
  obtain ⟨s6, a1, a2, a3, a4⟩ := c_fill3 (n := n) (a := t + 17) (s := s5) (K := 3) (fun s => by simp only [B_t hn ht]) (fun s j x h => by simp (disch := omega) only [B_t hn ht]) (by omega)
  obtain ⟨s7, b1, b2, b3, b4⟩ := c_fill3 (n := n) (a := t + 18) (s := s6) (K := 3) (fun s => by simp only [B_t hn ht]) (fun s j x h => by simp (disch := omega) only [B_t hn ht]) (by omega)
  obtain ⟨s8, e8⟩ : ∃ s8 : zS, s8 = wI (wI s7 (t + 16) 4 (nI 0)) (t + 16) 5 (nI 0) := ⟨_, rfl⟩
  obtain ⟨s9, e9⟩ : ∃ s9 : zS, s9 = wI (wI (wI (wI s8 t 6 (nI 366)) t 7 (nI 0)) t 8 (nI 0)) t 9 (nI 0) := ⟨_, rfl⟩
  have o5 : ∀ b, b ≠ t + 1 → b ≠ t + 4 → b ≠ t + 7 → b ≠ t + 10 → b ≠ t + 13 → s5.1 b = s.1 b := fun b h1 h2 h3 h4 h5 => by rw [e5, wI_ne h5, wI_ne h4, wI_ne h3, wI_ne h2, wI_ne h1]
  have o7 : ∀ b, b ≠ t + 17 → b ≠ t + 18 → s7.1 b = s5.1 b := fun b h1 h2 => (b2 b h2).trans (a2 b h1)
  have o9 : ∀ b, b ≠ t → b ≠ t + 16 → s9.1 b = s7.1 b := fun b h1 h2 => by rw [e9, wI_ne h1, wI_ne h1, wI_ne h1, wI_ne h1, e8, wI_ne h2, wI_ne h2]
  refine ⟨s9, ?_, ?_, ?_, ?_, ?_, ?_, ?_⟩
  · unfold fX8_empty fX2_empty
    have a1' : fJ7_fill_53178 n (mk (wI (wI (wI (wI (wI s (t + 1) 4 (nI 0)) (t + 4) 4 (nI 0)) (t + 7) 4 (nI 0)) (t + 10) 4 (nI 0)) (t + 13) 4 (nI 0))) (t + 17) (nI 0) = some ((), mk s6) := by rw [← e5]; exact a1
    have b1' : fJ7_fill_53178 n (mk s6) (t + 18) (nI 0) = some ((), mk s7) := b1
    simp (disch := first | omega | assumption | (simp only [wL_1, wL_22, wI_2, wA_2, wQ_1, wQ_21] <;> first | assumption | omega)) only [LIT, LITm, nI_add, n_mul, fa_or, n_31m, n_shl0, n_le, n_lt, n_eq, Option.bind_some, B_t hn ht, a1', b1']
    rw [e9, e8]
  · rw [e9, e8]
    show s7.2 = s.2
    rw [b3, a3, e5]
    rfl
  · intro a h
    rw [o9 a (by omega) (by omega), o7 a (by omega) (by omega), o5 a (by omega) (by omega) (by omega) (by omega) (by omega)]
  · refine ⟨fun τ hτ => ⟨?_, fun i hi => absurd hi (by show ¬ i < (if 0 = 0 ∧ τ = 6 then 366 else 0); rw [if_neg (by omega)]; omega)⟩, ?_, fun w hw => ⟨fun _ => ?_, fun h => absurd rfl h⟩⟩
    · have tz : T00 0 τ = 0 := by
        show (if 0 = 0 ∧ τ = 6 then 366 else 0) = 0
        rw [if_neg (by omega)]
      rw [tz, o9 _ (by omega) (by omega), o7 _ (by omega) (by omega), e5]
      rcases (by omega : τ = 0 ∨ τ = 1 ∨ τ = 2 ∨ τ = 3 ∨ τ = 4) with rfl | rfl | rfl | rfl | rfl
      · show (wI _ _ _ _).1 (t + 1) 4 = _
        rw [wI_ne (by omega), wI_ne (by omega), wI_ne (by omega), wI_ne (by omega), wI_at, upd_at]
      · show (wI _ _ _ _).1 (t + 4) 4 = _
        rw [wI_ne (by omega), wI_ne (by omega), wI_ne (by omega), wI_at, upd_at]
      · show (wI _ _ _ _).1 (t + 7) 4 = _
        rw [wI_ne (by omega), wI_ne (by omega), wI_at, upd_at]
      · show (wI _ _ _ _).1 (t + 10) 4 = _
        rw [wI_ne (by omega), wI_at, upd_at]
      · show (wI _ _ _ _).1 (t + 13) 4 = _
        rw [wI_at, upd_at]
    · rw [e9]
      refine ⟨?_, ?_, ?_⟩
      · rw [wI_at, upd_ne (by omega), wI_at, upd_ne (by omega), wI_at, upd_ne (by omega), wI_at, upd_at]; rfl
      · rw [wI_at, upd_ne (by omega), wI_at, upd_ne (by omega), wI_at, upd_at]; rfl
      · rw [wI_at, upd_ne (by omega), wI_at, upd_at]; rfl
    · rw [o9 _ (by omega) (by omega), o9 _ (by omega) (by omega), b2 (t + 17) (by omega)]
      exact ⟨a4 w hw, b4 w hw⟩
  · rw [e9, wI_ne (by omega), wI_ne (by omega), wI_ne (by omega), wI_ne (by omega), e8, wI_at, upd_ne (by omega), wI_at, upd_at]
  · rw [e9, wI_ne (by omega), wI_ne (by omega), wI_ne (by omega), wI_ne (by omega), e8, wI_at, upd_at]
  · rw [e9, wI_at, upd_at]
/-- where a text's reading begins -/
def x00 (B : Nat → Nat) (N : Nat) : zX := ((lxV B N 0, [], 0), T00, 0)
theorem iv_00 : IV N 0 (x00 B N) := by
  obtain ⟨a, b, d1, d, e1, e, g⟩ := lx_p (B := B) (N := N) (i := 0) (by omega)
  have z : ∀ i, i ≠ 6 → T00 0 i = 0 := fun i hi => if_neg (by omega)
  refine ⟨⟨?_, ?_, ?_, ?_, ?_, ?_, ?_, ?_, ?_⟩, ⟨rfl, Nat.zero_le _⟩, by show 0 < 4096; omega, ⟨⟨a, b, d, e⟩, Nat.zero_le _, e1, g⟩, fun w hw => ⟨?_, fun h => absurd rfl h⟩⟩
  · show T00 0 0 ≤ 7 ∧ T00 0 1 ≤ 9 ∧ T00 0 2 ≤ 4 ∧ T00 0 3 ≤ 12 ∧ T00 0 4 ≤ 6
    rw [z 0 (by omega), z 1 (by omega), z 2 (by omega), z 3 (by omega), z 4 (by omega)]
    omega
  · show 1 ≤ T00 0 6 ∧ T00 0 6 ≤ 400 ∧ T00 0 7 ≤ 100 ∧ T00 0 8 ≤ 99999
    rw [z 7 (by omega), z 8 (by omega)]
    decide
  · intro p h; have h : p < T00 0 1 := h; rw [z 1 (by omega)] at h; omega
  · intro p h; have h : p < T00 0 2 := h; rw [z 2 (by omega)] at h; omega
  · intro p h; have h : p < T00 0 3 := h; rw [z 3 (by omega)] at h; omega
  · intro p h; have h : p < T00 0 4 := h; rw [z 4 (by omega)] at h; omega
  · intro p h; have h : p < T00 0 0 := h; rw [z 0 (by omega)] at h; omega
  · intro p h; have h : p < T00 0 1 := h; rw [z 1 (by omega)] at h; omega
  · intro p h; have h : p < T00 0 2 := h; rw [z 2 (by omega)] at h; omega
  · show T00 18 w = ((0 : Nat).testBit (9 + w)).toNat
    rw [Nat.zero_testBit]
    rfl
/-- what a text says: how many lines and what they told, or a fault -/
def txA (B : Nat → Nat) (N : Nat) : Except (Nat × Nat) (Nat × zX) := txV B N 701 0 (x00 B N)
/-- what a text's reading may change on the class -/
def frTx (t : Nat) (s s' : zS) : Prop := (∀ a, (a < t ∨ t + 22 < a) → a ≠ 3 → a ≠ 4 → s'.1 a = s.1 a) ∧ s'.2.1 = s.2.1 ∧ ∀ a, a ≠ 3 → a ≠ 4 → s'.2.2 a = s.2.2 a
def rtC (B : Nat → Nat) (N t : Nat) (s : zS) (c : Option ((Unit ⊕ Nat) × ai_H)) : Except (Nat × Nat) (Nat × zX) → Prop
  | .ok y => ∃ s', c = some (.inl (), mk s') ∧ frTx t s s' ∧ cL B N t s' y.2 ∧ s'.1 t 9 = nI y.1 ∧ IV N y.1 y.2 ∧ s'.1 3 3 = nI 0 ∧ s'.1 3 4 = m1
  | .error e => ∃ s', c = some (.inr 0, mk s') ∧ frTx t s s' ∧ s'.1 3 3 = nI e.1 ∧ s'.1 3 4 = nI e.2
end Cu
