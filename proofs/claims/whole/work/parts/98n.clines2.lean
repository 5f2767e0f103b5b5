/-! ===== lines on the class: rows in the making ===== -/
section Cn
variable {n t i N k a m L W τ v M : Nat} {B f : Nat → Nat} {s s' s0 s1 s2 : zS} {q q' : zQ} {T T' : zT} {I I' : Nat → Nat → Int32} {nv : Option Nat} {cs : List Nat}
theorem and_tb (M k : Nat) : (M &&& 2 ^ k = 0) = (M.testBit k = false) := by
  apply propext
  constructor
  · intro h
    have e := congrArg (fun x => x.testBit k) h
    simp only [Nat.testBit_and, Nat.testBit_two_pow_self, Bool.and_true, Nat.zero_testBit] at e
    exact e
  · intro h
    apply Nat.eq_of_testBit_eq
    intro j
    rw [Nat.testBit_and, Nat.testBit_two_pow, Nat.zero_testBit]
    by_cases e : k = j
    · rw [← e, h, Bool.false_and]
    · rw [decide_eq_false e, Bool.and_false]
theorem o_once (hn : 239 ≤ n) (ht : t = 6 ∨ t = 29) (hX : cX B N t s q) (hM : s.1 3 2 = nI M) (hM2 : M < 4096) (hk : q.1.1 < 12) : ouC B N t (fun _ => ()) s (wI s 3 2 (nI (M ||| 2 ^ q.1.1))) (fX3_beginOnce n (mk s) 3) (onV B N M q) := by
  have k4 := hX.2.2.1.1
  have p12 : 2 ^ q.1.1 < 4096 := Nat.lt_of_lt_of_le (Nat.pow_lt_pow_right (by omega) hk) (by decide)
  have an : (M &&& 2 ^ q.1.1) < 4096 := Nat.lt_of_le_of_lt Nat.and_le_left hM2
  have orl : (M ||| 2 ^ q.1.1) < 4096 := Nat.or_lt_two_pow (n := 12) hM2 p12
  have sh : ((1 : Int32) <<< (nI q.1.1 &&& 31)) = nI (2 ^ q.1.1) := by
    have tab : ∀ k : Fin 12, ((1 : Int32) <<< (nI k.1 &&& 31)) = nI (2 ^ k.1) := by decide +kernel
    exact tab ⟨q.1.1, hk⟩
  have e0 : ((nI M &&& nI (2 ^ q.1.1)) = nI 0) = (M.testBit q.1.1 = false) := by
    rw [fa_and, n_eq (by omega) (by omega), and_tb]
  have oe : nI M ||| nI (2 ^ q.1.1) = nI (M ||| 2 ^ q.1.1) := fa_or _ _
  unfold fX3_beginOnce fX3_beginOnce_24 onV
  have n0 : (0 : Int32) = nI 0 := rfl
  cases c : M.testBit q.1.1 with
  | true =>
    rw [if_pos rfl]
    rw [c] at e0
    have e0' : ((nI M &&& nI (2 ^ q.1.1)) = nI 0) = False := by rw [e0]; decide
    have fl := bt_er (c_fail (t := t) (k := 3) hn hX.2.2.1) (f := fun (x4 : Unit) h5 => fX3_beginOnce_24 n h5 3 (nI (2 ^ q.1.1)))
    simp only [B_rd hn, k4, hM, Option.bind_some, sh, n0, e0', ↓reduceIte]
    exact fl
  | false =>
    rw [if_neg Bool.false_ne_true]
    rw [c] at e0
    have e0' : ((nI M &&& nI (2 ^ q.1.1)) = nI 0) = True := by rw [e0]; decide
    have X1 : cX B N t (wI s 3 2 (nI (M ||| 2 ^ q.1.1))) q := by
      obtain ⟨a1, b, c, d, e1, e2, e3⟩ := hX
      refine ⟨⟨a1.1, ?_, a1.2.2.1, ?_, a1.2.2.2.2.1, ?_⟩, b, ⟨?_, ?_, ?_, ?_⟩, d, ?_, ?_, ?_⟩
      · rw [wI_ne (by omega)]; exact a1.2.1
      · intro i hi; rw [wI_ne (by omega)]; exact a1.2.2.2.1 i hi
      · intro i hi; rw [wI_ne (by omega)]; exact a1.2.2.2.2.2 i hi
      · rw [wI_ne (by omega)]; exact c.1
      · rw [wI_ne (by omega)]; exact c.2.1
      · rw [wI_ne (by omega)]; exact c.2.2.1
      · rw [wI_ne (by omega)]; exact c.2.2.2
      · rw [wI_ne (by omega)]; exact e1
      · rw [wI_ne (by omega)]; exact e2
      · exact lsC_f (q := q) e3 (wI_ne (by omega)) (wI_ne (by omega))
    obtain ⟨s', a, b, c⟩ := c_kadv hn ht X1
    refine ⟨s', ?_, b, c⟩
    simp only [B_rd hn, k4, hM, Option.bind_some, sh, n0, e0', oe, ↓reduceIte, a]
/-! the tables by number -/
def nbF (τ : Nat) : Nat := [1, 2, 8].getD τ 0
def cbF (τ : Nat) : Nat := [2, 3, 9, 12, 15].getD τ 0
def wdF (τ : Nat) : Nat := [0, 5, 3, 3, 3].getD τ 0
def lmF (τ : Nat) : Nat := [7, 9, 4, 12, 6].getD τ 0
def baF (τ : Nat) : Nat := [1, 2, 8, 12, 15].getD τ 0
def lnF (τ : Nat) : Nat := [1, 6, 4, 3, 3].getD τ 0
def tbC (I : Nat → Nat → Int32) (T : zT) (a τ : Nat) : Prop := I a 4 = nI (T 0 τ) ∧ ∀ i, i < T 0 τ → (τ < 3 → I (a + 1) i = nI (T (nbF τ) i)) ∧ ∀ c, c < wdF τ → I (a + 2) (i * wdF τ + c) = nI (T (cbF τ + c) i)
/-- what is told so far, in the draft -/
def dT (I : Nat → Nat → Int32) (t : Nat) (T : zT) : Prop := (∀ τ, τ < 5 → tbC I T (t + 1 + 3 * τ) τ) ∧ (I t 6 = nI (T 0 6) ∧ I t 7 = nI (T 0 7) ∧ I t 8 = nI (T 0 8)) ∧ ∀ w, w < 3 → (T 18 w = 0 → I (t + 17) w = nI 0 ∧ I (t + 18) w = nI 0) ∧ (T 18 w ≠ 0 → I (t + 17) w = nI (T 19 w) ∧ I (t + 18) w = nI (T 20 w))
theorem tF1 (h : τ < 5) : 1 ≤ baF τ ∧ baF τ + lnF τ ≤ 18 ∧ wdF τ ≤ 5 ∧ (τ < 3 → nbF τ = baF τ ∧ cbF τ = baF τ + 1 ∧ lnF τ = wdF τ + 1) ∧ (¬ τ < 3 → cbF τ = baF τ ∧ lnF τ = wdF τ) := by
  rcases (by omega : τ = 0 ∨ τ = 1 ∨ τ = 2 ∨ τ = 3 ∨ τ = 4) with rfl | rfl | rfl | rfl | rfl <;> decide
theorem tF2 {τ' : Nat} (h : τ < 5) (h' : τ' < 5) (e : τ' ≠ τ) : baF τ' + lnF τ' ≤ baF τ ∨ baF τ + lnF τ ≤ baF τ' := by
  have tab : ∀ τ τ' : Fin 5, τ' ≠ τ → baF τ'.1 + lnF τ'.1 ≤ baF τ.1 ∨ baF τ.1 + lnF τ.1 ≤ baF τ'.1 := by decide
  exact tab ⟨τ, h⟩ ⟨τ', h'⟩ (fun g => e (congrArg Fin.val g))
theorem rowU_ne {vals : List Nat} (h1 : a ≠ 0 ∨ i ≠ τ) (h2 : a < baF τ ∨ baF τ + vals.length ≤ a ∨ i ≠ T 0 τ) : rowU T τ (baF τ) vals a i = T a i := by
  unfold rowU
  rw [if_neg (by omega), if_neg (by omega)]
theorem rowU_sz {vals : List Nat} : rowU T τ k vals 0 τ = T 0 τ + 1 := by
  unfold rowU
  rw [if_pos ⟨rfl, rfl⟩]
theorem rowU_at {vals : List Nat} {c : Nat} (h1 : 1 ≤ k) (h : c < vals.length) : rowU T τ k vals (k + c) (T 0 τ) = vals.getD c 0 := by
  unfold rowU
  rw [if_neg (by omega), if_pos (by omega), show k + c - k = c by omega]
/-- a row in the making -/
def rwP (a m W : Nat) (s0 s : zS) (nv : Option Nat) (cs : List Nat) : Prop := s.2 = s0.2 ∧ (∀ b, b ≠ 4 → b ≠ a + 1 → b ≠ a + 2 → s.1 b = s0.1 b) ∧ (∀ i, i ≠ m → s.1 (a + 1) i = s0.1 (a + 1) i) ∧ (∀ j, j < m * W → s.1 (a + 2) j = s0.1 (a + 2) j) ∧ (∀ c, c < cs.length → s.1 (a + 2) (m * W + c) = nI (cs.getD c 0)) ∧ (∀ v, nv = some v → s.1 (a + 1) m = nI v) ∧ s.1 4 2 = s0.1 4 2
theorem rwP_0 (f : frK s0 s) (ha : 6 ≤ a) : rwP a m W s0 s none [] := ⟨f.1, fun b h _ _ => f.2.1 b h, fun i _ => by rw [f.2.1 _ (by omega)], fun j _ => by rw [f.2.1 _ (by omega)], fun c h => absurd h (Nat.not_lt_zero _), fun v h => (by cases h), f.2.2⟩
theorem rwP_K (h : rwP a m W s0 s nv cs) (f : frK s s1) (ha : 6 ≤ a) : rwP a m W s0 s1 nv cs := by
  obtain ⟨h1, h2, h3, h4, h5, h6, h7⟩ := h
  refine ⟨f.1.trans h1, fun b g1 g2 g3 => (f.2.1 b g1).trans (h2 b g1 g2 g3), ?_, ?_, ?_, ?_, f.2.2.trans h7⟩
  · rw [f.2.1 _ (by omega)]; exact h3
  · rw [f.2.1 _ (by omega)]; exact h4
  · rw [f.2.1 _ (by omega)]; exact h5
  · rw [f.2.1 _ (by omega)]; exact h6
theorem rwP_n (h : rwP a m W s0 s none cs) (ha : 6 ≤ a) : rwP a m W s0 (wI s (a + 1) m (nI v)) (some v) cs := by
  obtain ⟨h1, h2, h3, h4, h5, h6, h7⟩ := h
  refine ⟨h1, fun b g1 g2 g3 => by rw [wI_ne g2]; exact h2 b g1 g2 g3, ?_, ?_, ?_, ?_, ?_⟩
  · intro i hi; rw [wI_at, upd_ne hi]; exact h3 i hi
  · rw [wI_ne (by omega)]; exact h4
  · rw [wI_ne (by omega)]; exact h5
  · intro v' e; cases e; rw [wI_at, upd_at]
  · rw [wI_ne (by omega)]; exact h7
theorem getD_app {α : Type} (l : List α) (x d : α) (c : Nat) : (c < l.length → (l ++ [x]).getD c d = l.getD c d) ∧ (l ++ [x]).getD l.length d = x := by
  constructor
  · intro h
    rw [List.getD_eq_getElem?_getD, List.getD_eq_getElem?_getD, List.getElem?_append_left h]
  · rw [List.getD_eq_getElem?_getD, List.getElem?_append_right (Nat.le_refl _), Nat.sub_self]
    rfl
theorem rwP_p (h : rwP a m W s0 s nv cs) (ha : 6 ≤ a) : rwP a m W s0 (wI s (a + 2) (m * W + cs.length) (nI v)) nv (cs ++ [v]) := by
  obtain ⟨h1, h2, h3, h4, h5, h6, h7⟩ := h
  refine ⟨h1, fun b g1 g2 g3 => by rw [wI_ne g3]; exact h2 b g1 g2 g3, ?_, ?_, ?_, ?_, ?_⟩
  · rw [wI_ne (by omega)]; exact h3
  · intro j hj; rw [wI_at, upd_ne (by omega)]; exact h4 j hj
  · intro c hc
    rw [List.length_append] at hc
    have hc : c < cs.length + 1 := hc
    rw [wI_at]
    by_cases e : c = cs.length
    · rw [e, upd_at, (getD_app cs v 0 0).2]
    · rw [upd_ne (by omega), (getD_app cs v 0 c).1 (by omega)]
      exact h5 c (by omega)
  · rw [wI_ne (by omega)]; exact h6
  · rw [wI_ne (by omega)]; exact h7
/-- the row is there -/
theorem row_end {vals : List Nat} (hτ : τ < 5) (ht : t = 6 ∨ t = 29) (hd : dT s0.1 t T) (hr : rwP (t + 1 + 3 * τ) (T 0 τ) (wdF τ) s0 s nv cs) (hl : vals.length = lnF τ) (hc : cs.length = wdF τ) (hn : τ < 3 → nv = some (vals.getD 0 0)) (hv : ∀ c, c < wdF τ → cs.getD c 0 = vals.getD (cbF τ - baF τ + c) 0) : dT (wI s (t + 1 + 3 * τ) 4 (nI (T 0 τ + 1))).1 t (rowU T τ (baF τ) vals) := by
  obtain ⟨h1, h2, h3, h4, h5, h6, h7⟩ := hr
  obtain ⟨d1, d2, d3⟩ := hd
  obtain ⟨b1, b2, w5, f3, f4⟩ := tF1 hτ
  have keep : ∀ b, b ≠ 4 → b ≠ t + 1 + 3 * τ → b ≠ t + 1 + 3 * τ + 1 → b ≠ t + 1 + 3 * τ + 2 → (wI s (t + 1 + 3 * τ) 4 (nI (T 0 τ + 1))).1 b = s0.1 b := fun b g1 g2 g3 g4 => by rw [wI_ne g2]; exact h2 b g1 g3 g4
  refine ⟨?_, ?_, ?_⟩
  · intro τ' hτ'
    by_cases e : τ' = τ
    · subst e
      obtain ⟨e1, e2⟩ := d1 τ' hτ'
      refine ⟨by rw [wI_at, upd_at, rowU_sz], ?_⟩
      intro i hi
      rw [rowU_sz] at hi
      by_cases ei : i = T 0 τ'
      · subst ei
        constructor
        · intro h3'
          obtain ⟨x1, x2, x3⟩ := f3 h3'
          rw [wI_ne (by omega), h6 _ (hn h3')]
          have := rowU_at (T := T) (τ := τ') (k := baF τ') (vals := vals) (c := 0) b1 (by omega)
          rw [x1, ← this]
          rfl
        · intro c hc'
          rw [wI_ne (by omega), h5 c (by omega), hv c hc']
          have cb : baF τ' ≤ cbF τ' ∧ cbF τ' + wdF τ' ≤ baF τ' + lnF τ' := by
            by_cases h3' : τ' < 3
            · have := f3 h3'; omega
            · have := f4 h3'; omega
          have := rowU_at (T := T) (τ := τ') (k := baF τ') (vals := vals) (c := cbF τ' - baF τ' + c) b1 (by omega)
          rw [← this]
          congr 2
          omega
      · have hi' : i < T 0 τ' := by omega
        obtain ⟨g1, g2⟩ := e2 i hi'
        constructor
        · intro h3'
          obtain ⟨x1, x2, x3⟩ := f3 h3'
          rw [rowU_ne (Or.inl (by omega)) (Or.inr (Or.inr ei)), wI_ne (by omega), h3 i ei]
          exact g1 h3'
        · intro c hc'
          have lt : i * wdF τ' + c < T 0 τ' * wdF τ' := by
            have : (i + 1) * wdF τ' ≤ T 0 τ' * wdF τ' := Nat.mul_le_mul_right _ (by omega)
            rw [Nat.succ_mul] at this
            omega
          have cb0 : cbF τ' + c ≠ 0 := by
            by_cases h3' : τ' < 3
            · have := f3 h3'; omega
            · have := f4 h3'; omega
          rw [rowU_ne (Or.inl cb0) (Or.inr (Or.inr ei)), wI_ne (by omega), h4 _ lt]
          exact g2 c hc'
    · obtain ⟨e1, e2⟩ := d1 τ' hτ'
      have f := tF2 hτ hτ' e
      obtain ⟨b1', b2', w5', f3', f4'⟩ := tF1 hτ'
      have sz : rowU T τ (baF τ) vals 0 τ' = T 0 τ' := rowU_ne (Or.inr e) (Or.inl (by omega))
      unfold tbC
      rw [sz, keep _ (by omega) (by omega) (by omega) (by omega), keep (t + 1 + 3 * τ' + 1) (by omega) (by omega) (by omega) (by omega), keep (t + 1 + 3 * τ' + 2) (by omega) (by omega) (by omega) (by omega)]
      refine ⟨e1, fun i hi => ?_⟩
      obtain ⟨g1, g2⟩ := e2 i hi
      constructor
      · intro h3'
        have r := f3' h3'
        rw [rowU_ne (Or.inl (by omega)) (by omega)]
        exact g1 h3'
      · intro c hc'
        have r : cbF τ' + c ≠ 0 ∧ baF τ' ≤ cbF τ' ∧ cbF τ' + wdF τ' ≤ baF τ' + lnF τ' := by
          by_cases h3' : τ' < 3
          · have := f3' h3'; omega
          · have := f4' h3'; omega
        rw [rowU_ne (Or.inl r.1) (by omega)]
        exact g2 c hc'
  · rw [keep t (by omega) (by omega) (by omega) (by omega), rowU_ne (Or.inr (by omega)) (Or.inl (by omega)), rowU_ne (Or.inr (by omega)) (Or.inl (by omega)), rowU_ne (Or.inr (by omega)) (Or.inl (by omega))]
    exact d2
  · intro w hw
    rw [keep (t + 17) (by omega) (by omega) (by omega) (by omega), keep (t + 18) (by omega) (by omega) (by omega) (by omega), rowU_ne (Or.inl (by omega)) (Or.inr (Or.inl (by omega))), rowU_ne (Or.inl (by omega)) (Or.inr (Or.inl (by omega))), rowU_ne (Or.inl (by omega)) (Or.inr (Or.inl (by omega)))]
    exact d3 w hw
end Cn
