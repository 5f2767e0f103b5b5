/-! ===== lines on the class: rows ===== -/
/-- what is told so far keeps its bounds -/
def WX (T : zT) : Prop := (T 0 0 ≤ 7 ∧ T 0 1 ≤ 9 ∧ T 0 2 ≤ 4 ∧ T 0 3 ≤ 12 ∧ T 0 4 ≤ 6) ∧ (1 ≤ T 0 6 ∧ T 0 6 ≤ 400 ∧ T 0 7 ≤ 100 ∧ T 0 8 ≤ 99999) ∧
  (∀ p, p < T 0 1 → T 3 p < T 0 0 ∧ T 4 p < T 0 0 ∧ T 3 p ≠ T 4 p ∧ 1 ≤ T 5 p ∧ T 5 p ≤ 99 ∧ T 6 p ≤ 9 ∧ T 7 p ≤ 399) ∧
  (∀ w, w < T 0 2 → T 9 w < T 0 0 ∧ T 10 w ≤ 9 ∧ 1 ≤ T 11 w ∧ T 11 w ≤ 99) ∧
  (∀ k, k < T 0 3 → T 12 k < T 0 2 ∧ T 13 k < T 0 1 ∧ T 14 k ≤ 99) ∧
  (∀ b, b < T 0 4 → T 15 b < T 0 1 ∧ T 16 b ≤ 99 ∧ T 17 b ≤ 99) ∧
  ((∀ i, i < T 0 0 → T 1 i < 1073741824) ∧ (∀ i, i < T 0 1 → T 2 i < 1073741824) ∧ ∀ i, i < T 0 2 → T 8 i < 1073741824)
section Co
variable {n t i N k a m L W τ v M : Nat} {B f : Nat → Nat} {s s' s0 s1 s2 : zS} {q q' : zQ} {T T' : zT} {I I' : Nat → Nat → Int32} {nv : Option Nat} {cs : List Nat} {x : zX}
theorem rw_ok {b : Nat × zQ} (h : rwV B N L m q = .ok b) : m < L ∧ b = (0, adQ B N q) := by
  unfold rwV at h
  by_cases g : L ≤ m
  · rw [if_pos g] at h; cases h
  · rw [if_neg g] at h; cases h; exact ⟨by omega, rfl⟩
theorem nw_ok {b : Nat × zQ} (h : nwV B N f m q = .ok b) : q.1.1 = 22 ∧ b = (q.1.2.1, adQ B N q) := by
  unfold nwV at h
  by_cases g : q.1.1 ≠ 22
  · rw [if_pos g] at h; cases h
  · rw [if_neg g] at h
    by_cases g' : fdN f m q.1.2.1 < m
    · rw [if_pos g'] at h; cases h
    · rw [if_neg g'] at h; cases h; exact ⟨by omega, rfl⟩
theorem td_ok {b : Nat × zQ} (h : tdV B N f m q = .ok b) : q.1.1 = 22 ∧ fdN f m q.1.2.1 < m ∧ b = (fdN f m q.1.2.1, adQ B N q) := by
  unfold tdV at h
  by_cases g : q.1.1 ≠ 22
  · rw [if_pos g] at h; cases h
  · rw [if_neg g] at h
    by_cases g' : fdN f m q.1.2.1 < m
    · rw [if_pos g'] at h; cases h; exact ⟨by omega, g', rfl⟩
    · rw [if_neg g'] at h; cases h
theorem nb_ok {lo hi : Nat} {b : Nat × zQ} (h : nbV B N lo hi q = .ok b) : lo ≤ q.1.2.1 ∧ q.1.2.1 ≤ hi ∧ b = (q.1.2.1, adQ B N q) := by
  unfold nbV at h
  by_cases g : q.1.1 ≠ 23
  · rw [if_pos g] at h; cases h
  · rw [if_neg g] at h
    by_cases g' : lo ≤ q.1.2.1 ∧ q.1.2.1 ≤ hi
    · rw [if_pos g'] at h; cases h; exact ⟨g'.1, g'.2, rfl⟩
    · rw [if_neg g'] at h; cases h
/-- the reader, between lines -/
def cL (B : Nat → Nat) (N t : Nat) (s : zS) (x : zX) : Prop := cX B N t s x.1 ∧ dT s.1 t x.2.1 ∧ s.1 3 2 = nI x.2.2 ∧ s.1 3 3 = nI 0 ∧ s.1 3 4 = m1
def lnC (B : Nat → Nat) (N t : Nat) (s : zS) (c : Option ((Unit ⊕ Nat) × ai_H)) : Except (Nat × Nat) zX → Prop
  | .ok x' => ∃ s', c = some (.inl (), mk s') ∧ frJ t s s' ∧ cL B N t s' x' ∧ s'.1 t 9 = s.1 t 9
  | .error e => erC t s c e
theorem lnC_t {c : Option ((Unit ⊕ Nat) × ai_H)} {r : Except (Nat × Nat) zX} (f : frJ t s s1) (h9 : s1.1 t 9 = s.1 t 9) (h : lnC B N t s1 c r) : lnC B N t s c r := by
  cases r with
  | error e => exact erC_t f h
  | ok x' =>
    obtain ⟨s', a, b, d, e⟩ := h
    exact ⟨s', a, frJ_t f b, d, e.trans h9⟩
theorem frK_J (h : frK s s1) : frJ t s s1 := ⟨h.1, fun a _ _ h4 => h.2.1 a h4, h.2.2⟩
theorem ln_bt {α : Type} {g : Nat → α} {c : Option ((α ⊕ Nat) × ai_H)} {F : α → ai_H → Option ((Unit ⊕ Nat) × ai_H)} {r0 : Except (Nat × Nat) (Nat × zQ)} {G : Nat × zQ → Except (Nat × Nat) zX} (ht : t = 6 ∨ t = 29) (h : ouC B N t g s s0 c r0) (hs : frJ t s s0) (h9 : s0.1 t 9 = s.1 t 9) (hk : ∀ a s', r0 = .ok a → frK s0 s' → cX B N t s' a.2 → lnC B N t s' (F (g a.1) (mk s')) (G a)) : lnC B N t s (bt c F) (eB r0 G) := by
  cases r0 with
  | error e => exact bt_er (h : erC t s c e)
  | ok a =>
    obtain ⟨s', e1, f1, X1⟩ := h
    rw [bt_ok e1]
    exact lnC_t (frJ_t hs (frK_J f1)) (by rw [f1.2.1 _ (by omega)]; exact h9) (hk a s' rfl f1 X1)
theorem nm_0 (D : dT I t T) (hW : WX T) : ∀ i, i < T 0 0 → I (t + 1 + 1) i = nI (T 1 i) ∧ T 1 i < 1073741824 := fun i hi => ⟨((D.1 0 (by omega)).2 i hi).1 (by omega), hW.2.2.2.2.2.2.1 i hi⟩
theorem nm_1 (D : dT I t T) (hW : WX T) : ∀ i, i < T 0 1 → I (t + 4 + 1) i = nI (T 2 i) ∧ T 2 i < 1073741824 := fun i hi => ⟨((D.1 1 (by omega)).2 i hi).1 (by omega), hW.2.2.2.2.2.2.2.1 i hi⟩
theorem nm_2 (D : dT I t T) (hW : WX T) : ∀ i, i < T 0 2 → I (t + 7 + 1) i = nI (T 8 i) ∧ T 8 i < 1073741824 := fun i hi => ⟨((D.1 2 (by omega)).2 i hi).1 (by omega), hW.2.2.2.2.2.2.2.2 i hi⟩
theorem fin_row {vals : List Nat} (hτ : τ < 5) (ht : t = 6 ∨ t = 29) (hL : cL B N t s0 (q, T, M)) (hr : rwP (t + 1 + 3 * τ) (T 0 τ) (wdF τ) s0 s nv cs) (hX : cX B N t s q') (hl : vals.length = lnF τ) (hc : cs.length = wdF τ) (hn : τ < 3 → nv = some (vals.getD 0 0)) (hv : ∀ c, c < wdF τ → cs.getD c 0 = vals.getD (cbF τ - baF τ + c) 0) : frJ t s (wI s (t + 1 + 3 * τ) 4 (nI (T 0 τ + 1))) ∧ cL B N t (wI s (t + 1 + 3 * τ) 4 (nI (T 0 τ + 1))) (q', rowU T τ (baF τ) vals, M) ∧ (wI s (t + 1 + 3 * τ) 4 (nI (T 0 τ + 1))).1 t 9 = s.1 t 9 := by
  refine ⟨frJ_w (by omega) (by omega), ⟨cX_w hX ht (by omega) (by omega) (by omega) (by omega) (by omega) (by omega) (by omega), row_end hτ ht hL.2.1 hr hl hc hn hv, ?_⟩, by rw [wI_ne (by omega)]⟩
  rw [wI_ne (by omega), hr.2.1 3 (by omega) (by omega) (by omega)]
  exact hL.2.2
/-- place -/
theorem c_pla (hn : 239 ≤ n) (ht : t = 6 ∨ t = 29) (hL : cL B N t s x) (hW : WX x.2.1) : lnC B N t s (bt (fX3_beginRow n (mk s) 3 (t + 1)) fun x5 h6 =>
    (pR n h6 3 3 1).bind fun x7 =>
    (pR n h6 x7 8 0).bind fun x8 =>
    bt (fX3_readNewName n h6 3 x8) fun x9 h10 =>
    (pR n h10 3 3 1).bind fun x11 =>
    (pR n h10 x11 8 0).bind fun x12 =>
    (fX6_endRow n h10 x12).bind fun q13 =>
    some (.inl (), q13.2)) (plaV B N x) := by
  obtain ⟨q, T, M⟩ := x
  obtain ⟨X, D, hM⟩ := hL
  have Tb := TB_0 (t := t) hn ht
  have hm : s.1 (t + 1) 4 = nI (T 0 0) := (D.1 0 (by omega)).1
  have s7 : T 0 0 ≤ 7 := hW.1.1
  unfold plaV
  refine ln_bt ht (o_row hn ht X Tb hm (by omega) s7) frJ_r rfl ?_
  intro a s1 e1 f1 X1
  obtain ⟨m7, rfl⟩ := rw_ok e1
  have P1 : rwP (t + 1) (T 0 0) 0 s s1 none [] := rwP_0 f1 (by omega)
  have hm1 : s1.1 (t + 1) 4 = nI (T 0 0) := by rw [f1.2.1 _ (by omega)]; exact hm
  have r1 := B_31 hn ht X1.2.1
  simp (disch := first | omega | assumption | (simp only [wL_1, wL_22, wI_2, wA_2, wQ_1, wQ_21] <;> first | assumption | omega)) only [LIT, LITm, nI_add, n_mul, fa_or, n_31m, n_shl0, n_le, n_lt, n_eq, Option.bind_some, r1, B_t hn ht]
  refine ln_bt ht (o_new (f := T 1) hn ht X1 Tb hm1 (by omega) m7 ⟨by omega, by omega⟩ (by rw [f1.2.1 _ (by omega)]; exact nm_0 D hW)) (frJ_w (by omega) (by omega)) (by rw [wI_ne (by omega)]) ?_
  intro b s2 e2 f2 X2
  obtain ⟨-, rfl⟩ := nw_ok e2
  have P2 := rwP_K (rwP_n (v := (adQ B N q).1.2.1) P1 (by omega)) f2 (by omega)
  have hm2 : s2.1 (t + 1) 4 = nI (T 0 0) := by rw [P2.2.1 _ (by omega) (by omega) (by omega)]; exact hm
  have r2 := B_31 hn ht X2.2.1
  have re := c_rend (s := s2) Tb hm2 (by omega) m7
  simp (disch := first | omega | assumption | (simp only [wL_1, wL_22, wI_2, wA_2, wQ_1, wQ_21] <;> first | assumption | omega)) only [LIT, LITm, nI_add, n_mul, fa_or, n_31m, n_shl0, n_le, n_lt, n_eq, Option.bind_some, r2, B_t hn ht, re]
  have fr := fin_row (τ := 0) (vals := [(adQ B N q).1.2.1]) (by omega) ht ⟨X, D, hM⟩ P2 X2 rfl rfl (fun _ => rfl) (fun c h => absurd h (Nat.not_lt_zero _))
  exact ⟨_, rfl, fr⟩
end Co
