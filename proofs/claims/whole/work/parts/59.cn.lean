/-! ===== what hangs together: by the class ===== -/
section Cn
theorem p7 {x : Nat} (h : x < 7) : 2 ^ x < 128 := Nat.pow_lt_pow_right (a := 2) (n := 7) (by decide) h
variable {T : zT} {K f : Nat → Bool} {x y z p b i : Nat}
/-- whether a set of places is left by none of these paths -/
def clS (T : zT) (K : Nat → Bool) (f : Nat → Bool) : Prop := ∀ p, p < T 0 1 → K p = true → f (T 3 p) = f (T 4 p)
def cn (T : zT) (K : Nat → Bool) (x y : Nat) : Prop := ∀ f : Nat → Bool, clS T K f → f x = true → f y = true
theorem cn_r : cn T K x x := fun _ _ h => h
theorem cn_t (h : cn T K x y) (g : cn T K y z) : cn T K x z := fun f hf hx => g f hf (h f hf hx)
theorem cn_s (h : cn T K x y) : cn T K y x := by
  intro f hf hy
  cases e : f x with
  | true => rfl
  | false =>
    have h2 : (fun i => !f i) y = true := h (fun i => !f i) (fun p hp hk => by show (!f (T 3 p)) = !f (T 4 p); rw [hf p hp hk]) (by show (!f x) = true; rw [e]; rfl)
    have h3 : (!f y) = true := h2
    rw [hy] at h3
    cases h3
theorem cn_p (hp : p < T 0 1) (hk : K p = true) : cn T K (T 3 p) (T 4 p) := fun f hf h => by rw [← hf p hp hk]; exact h
def stS (T : zT) (K : Nat → Bool) (p b : Nat) : Nat := if K p = true ∧ b &&& enV T p ≠ 0 then b ||| enV T p else b
def rdS (T : zT) (K : Nat → Bool) (b : Nat) : Nat := lpF (stS T K) (T 0 1) b
def spN (T : zT) (K : Nat → Bool) : Nat → Nat → Nat
  | 0, b => b
  | k + 1, b => rdS T K (spN T K k b)
def spS (T : zT) (K : Nat → Bool) (x : Nat) : Nat := spN T K 7 (2 ^ x)
theorem en_and : b &&& enV T p ≠ 0 ↔ b.testBit (T 3 p) = true ∨ b.testBit (T 4 p) = true := by
  constructor
  · intro h
    refine Classical.byContradiction fun g => h (Nat.eq_of_testBit_eq fun i => ?_)
    rw [Nat.testBit_and, enV_tb, Nat.zero_testBit]
    by_cases e1 : T 3 p = i
    · subst e1
      rw [bF (fun q => g (Or.inl q)), Bool.false_and]
    · by_cases e2 : T 4 p = i
      · subst e2
        rw [bF (fun q => g (Or.inr q)), Bool.false_and]
      · rw [decide_eq_false e1, decide_eq_false e2]
        simp
  · intro h e
    have h1 := congrArg (fun v => v.testBit (T 3 p)) e
    have h2 := congrArg (fun v => v.testBit (T 4 p)) e
    simp only [Nat.testBit_and, enV_tb, Nat.zero_testBit, decide_true, Bool.true_or, Bool.or_true, Bool.and_true] at h1 h2
    rcases h with h | h
    · rw [h1] at h; cases h
    · rw [h2] at h; cases h
theorem stS_tb : (stS T K p b).testBit i = true ↔ b.testBit i = true ∨ (K p = true ∧ (b.testBit (T 3 p) = true ∨ b.testBit (T 4 p) = true) ∧ (T 3 p = i ∨ T 4 p = i)) := by
  unfold stS
  by_cases h : K p = true ∧ b &&& enV T p ≠ 0
  · rw [if_pos h, Nat.testBit_or, enV_tb]
    have h2 := en_and.mp h.2
    simp only [Bool.or_eq_true, decide_eq_true_eq, h.1, h2, true_and]
  · rw [if_neg h]
    constructor
    · exact Or.inl
    · rintro (g | ⟨g1, g2, -⟩)
      · exact g
      · exact absurd ⟨g1, en_and.mpr g2⟩ h
theorem stS_up (h : b.testBit i = true) : (stS T K p b).testBit i = true := stS_tb.mpr (Or.inl h)
theorem stS_lt (hW : WT T) (hp : p < T 0 1) (hb : b < 128) : stS T K p b < 128 := by
  have h := WT_p hW hp
  unfold stS
  split
  · exact Nat.or_lt_two_pow (n := 7) hb (enV_lt h.1 h.2.1)
  · exact hb
theorem lpS_up {m : Nat} (h : b.testBit i = true) : (lpF (stS T K) m b).testBit i = true := lpF_i (P := fun c : Nat => c.testBit i = true) (fun k c _ hc => stS_up hc) h
theorem lpS_lt (hW : WT T) {m : Nat} (hm : m ≤ T 0 1) (hb : b < 128) : lpF (stS T K) m b < 128 := lpF_i (P := fun c : Nat => c < 128) (fun k c hk hc => stS_lt hW (by omega) hc) hb
theorem tb_anti {a b : Nat} (h1 : ∀ i, a.testBit i = true → b.testBit i = true) (h2 : ∀ i, b.testBit i = true → a.testBit i = true) : a = b := by
  refine Nat.eq_of_testBit_eq fun i => ?_
  cases e : a.testBit i with
  | true => exact (h1 i e).symm
  | false =>
    cases e2 : b.testBit i with
    | true => rw [h2 i e2] at e; cases e
    | false => rfl
theorem lpS_st : ∀ {m : Nat}, lpF (stS T K) m b = b → ∀ k, k < m → stS T K k b = b
  | 0, _, k, hk => absurd hk (Nat.not_lt_zero k)
  | m + 1, h, k, hk => by
    have h' : stS T K m (lpF (stS T K) m b) = b := h
    have e : lpF (stS T K) m b = b := tb_anti (fun i hi => by rw [← h']; exact stS_up hi) (fun i hi => lpS_up hi)
    by_cases q : k = m
    · rw [e] at h'
      rw [q]
      exact h'
    · exact lpS_st e k (by omega)
theorem clS_st (h : rdS T K b = b) : clS T K (fun i => b.testBit i) := by
  intro p hp hk
  have e := lpS_st h p hp
  show b.testBit (T 3 p) = b.testBit (T 4 p)
  cases e1 : b.testBit (T 3 p) with
  | true =>
    have : (stS T K p b).testBit (T 4 p) = true := stS_tb.mpr (Or.inr ⟨hk, Or.inl e1, Or.inr rfl⟩)
    rw [e] at this
    exact this.symm
  | false =>
    cases e2 : b.testBit (T 4 p) with
    | false => rfl
    | true =>
      have : (stS T K p b).testBit (T 3 p) = true := stS_tb.mpr (Or.inr ⟨hk, Or.inr e2, Or.inl rfl⟩)
      rw [e, e1] at this
      cases this
theorem spN_lt (hW : WT T) (hb : b < 128) : ∀ k, spN T K k b < 128
  | 0 => hb
  | k + 1 => lpS_lt hW (Nat.le_refl _) (spN_lt hW hb k)
theorem spN_up (h : b.testBit i = true) : ∀ k, (spN T K k b).testBit i = true
  | 0 => h
  | k + 1 => lpS_up (spN_up h k)
theorem spN_cn (h : ∀ i, b.testBit i = true → cn T K x i) : ∀ k i, (spN T K k b).testBit i = true → cn T K x i
  | 0 => h
  | k + 1 => lpF_i (P := fun c : Nat => ∀ i, c.testBit i = true → cn T K x i) (fun p c hp hc i hi => by
      rcases stS_tb.mp hi with g | ⟨g1, g2, g3⟩
      · exact hc i g
      · have a1 := cn_p (T := T) (K := K) hp g1
        rcases g2 with g2 | g2 <;> rcases g3 with g3 | g3
        · rw [← g3]; exact hc _ g2
        · rw [← g3]; exact cn_t (hc _ g2) a1
        · rw [← g3]; exact cn_t (hc _ g2) (cn_s a1)
        · rw [← g3]; exact hc _ g2) (spN_cn h k)
theorem ct_grow {a b : Nat} (h1 : ∀ i, a.testBit i = true → b.testBit i = true) (hb : b < 128) (hn : a ≠ b) : fb_ct (fun i => a.testBit i) 7 < fb_ct (fun i => b.testBit i) 7 := by
  have e := fb_ct_or (p := fun i => a.testBit i) (q := fun i => b.testBit i && !a.testBit i) (n := 7) (fun k _ g => by
    obtain ⟨g1, g2⟩ := g
    rw [g1] at g2
    simp at g2)
  have e2 : fb_ct (fun k => a.testBit k || (b.testBit k && !a.testBit k)) 7 = fb_ct (fun i => b.testBit i) 7 := fb_ct_cong (fun k _ => by
    cases e : a.testBit k with
    | true => rw [h1 k e]; rfl
    | false => simp)
  have e3 : 0 < fb_ct (fun i => b.testBit i && !a.testBit i) 7 := by
    refine fb_ct_pos.mpr (Classical.byContradiction fun g => hn (tb_anti h1 fun i hi => ?_))
    cases e : a.testBit i with
    | true => rfl
    | false =>
      refine absurd ⟨i, ?_, ?_⟩ g
      · refine Classical.byContradiction fun g => ?_
        rw [Nat.testBit_lt_two_pow (Nat.lt_of_lt_of_le hb (Nat.pow_le_pow_right (n := 2) (i := 7) (by decide) (by omega : 7 ≤ i)))] at hi
        cases hi
      · simp only [hi, e]
        rfl
  omega
theorem spN_ct (hW : WT T) (hx : x < 7) : ∀ k, rdS T K (spN T K k (2 ^ x)) = spN T K k (2 ^ x) ∨ k + 1 ≤ fb_ct (fun i => (spN T K k (2 ^ x)).testBit i) 7
  | 0 => by
    right
    refine fb_ct_pos.mpr ⟨x, hx, ?_⟩
    show (2 ^ x).testBit x = true
    rw [Nat.testBit_two_pow]
    simp
  | k + 1 => by
    rcases spN_ct hW hx k with h | h
    · left
      show rdS T K (rdS T K (spN T K k (2 ^ x))) = rdS T K (spN T K k (2 ^ x))
      rw [h, h]
    · by_cases e : spN T K k (2 ^ x) = spN T K (k + 1) (2 ^ x)
      · left
        have e' : rdS T K (spN T K k (2 ^ x)) = spN T K k (2 ^ x) := e.symm
        show rdS T K (rdS T K (spN T K k (2 ^ x))) = rdS T K (spN T K k (2 ^ x))
        rw [e', e']
      · right
        have := ct_grow (a := spN T K k (2 ^ x)) (b := spN T K (k + 1) (2 ^ x)) (fun i hi => lpS_up hi) (spN_lt hW (p7 hx) (k + 1)) e
        omega
theorem spS_cl (hW : WT T) (hx : x < 7) : clS T K (fun i => (spS T K x).testBit i) := by
  rcases spN_ct (K := K) hW hx 6 with h | h
  · have e : spS T K x = spN T K 6 (2 ^ x) := h
    rw [e]
    exact clS_st h
  · have h7 : fb_ct (fun i => (spN T K 6 (2 ^ x)).testBit i) 7 = 7 := by
      have := fb_ct_le (fun i => (spN T K 6 (2 ^ x)).testBit i) 7
      omega
    have h8 := fb_ct_all.mp h7
    intro p hp _
    have hp' := WT_p hW hp
    show (rdS T K (spN T K 6 (2 ^ x))).testBit (T 3 p) = (rdS T K (spN T K 6 (2 ^ x))).testBit (T 4 p)
    rw [show (rdS T K (spN T K 6 (2 ^ x))).testBit (T 3 p) = true from lpS_up (h8 _ hp'.1), show (rdS T K (spN T K 6 (2 ^ x))).testBit (T 4 p) = true from lpS_up (h8 _ hp'.2.1)]
theorem spS_cn (hW : WT T) (hx : x < 7) : (spS T K x).testBit y = true ↔ cn T K x y := by
  constructor
  · exact spN_cn (fun i hi => by
      rw [Nat.testBit_two_pow] at hi
      rw [← of_decide_eq_true hi]
      exact cn_r) 7 y
  · intro h
    refine h _ (spS_cl hW hx) (spN_up ?_ 7)
    rw [Nat.testBit_two_pow]
    simp
theorem spS_lt (hW : WT T) (hx : x < 7) : spS T K x < 128 := spN_lt hW (p7 hx) 7
theorem spN_st {k : Nat} (h : rdS T K (spN T K k b) = spN T K k b) : ∀ j, spN T K (k + j) b = spN T K k b
  | 0 => rfl
  | j + 1 => by
    show rdS T K (spN T K (k + j) b) = _
    rw [spN_st h j, h]
/-- how many sets -/
def rtV (T : zT) (K : Nat → Bool) (x : Nat) : Bool := decide (spS T K x &&& (2 ^ x - 1) = 0)
def setV (T : zT) (K : Nat → Bool) : Nat := fb_ct (rtV T K) (T 0 0)
end Cn
section Cp
variable {n t p x : Nat} {s : zS} {T : zT}
theorem c_sp29 {k b b0 v : Nat} {r10 : ai_H → Nat → Int32 → Int32 → Int32 → Int32 → Option (Int32 × ai_H)} (hn : 239 ≤ n) (ht : t = 6 ∨ t = 29) (hW : WT T) (hT : cTd s.1 t T) (hk : k < 512) (hb : b < 128) (hv : v < 7) : fX9_spread_29 n r10 bi_K (mk s) t (nI k) (nI b) (nI b0) (nI v) (nI 0) = r10 (mk s) t (nI k) (nI (rdS T (fun i => k.testBit i) b)) (nI b0) (nI (v + 1)) := by
  have h0 := hW.1
  refine lp_up (F := fun f (b1 : Nat) i => fX9_spread_29 n r10 f (mk s) t (nI k) (nI b1) (nI b0) (nI v) (nI i)) (N := T 0 1) (P := fun i b1 => b1 = lpF (stS T (fun i => k.testBit i)) i b) (Q := fun r => r = r10 (mk s) t (nI k) (nI (rdS T (fun i => k.testBit i) b)) (nI b0) (nI (v + 1))) ?_ ?_ (T 0 1) bi_K b 0 (by omega) (by unfold bi_K; omega) rfl
  · intro f b1 i hi hP
    have hb1 : b1 < 128 := by rw [hP]; exact lpS_lt hW (by omega) hb
    have he := WT_p hW hi
    have hen : enV T i < 128 := enV_lt (k := 7) he.1 he.2.1
    left
    refine ⟨stS T (fun i => k.testBit i) i b1, ?_, by rw [hP]; rfl⟩
    show fX9_spread_29b n r10 (fX9_spread_29 n r10 f) (mk s) t (nI k) (nI b1) (nI b0) (nI v) (nI i) = _
    unfold fX9_spread_29b fX9_spread_70 stS
    cases g : k.testBit i with
    | false =>
      simp (disch := first | omega | assumption | (simp only [wL_1, wL_22, wI_2, wA_2, wQ_1, wQ_21] <;> first | assumption | omega)) only [LIT, LITm, nI_add, n_mul, fa_or, n_31m, n_shl0, n_le, n_lt, n_eq, Option.bind_some, B_t hn ht, CT hn ht hW, CTp t T, c_ends hn ht hW hT hi, n_bitz, g, show ¬ T 0 1 ≤ i by omega, Bool.false_eq_true, false_and, ↓reduceIte]
    | true =>
      by_cases e : b1 &&& enV T i = 0
      · simp (disch := first | omega | assumption | (simp only [wL_1, wL_22, wI_2, wA_2, wQ_1, wQ_21] <;> first | assumption | omega)) only [LIT, LITm, nI_add, n_mul, fa_or, n_31m, n_shl0, n_le, n_lt, n_eq, Option.bind_some, B_t hn ht, CT hn ht hW, CTp t T, c_ends hn ht hW hT hi, n_bitz, n_and0, g, e, show ¬ T 0 1 ≤ i by omega, Bool.true_eq_false, ne_eq, not_true_eq_false, and_false, ↓reduceIte]
      · simp (disch := first | omega | assumption | (simp only [wL_1, wL_22, wI_2, wA_2, wQ_1, wQ_21] <;> first | assumption | omega)) only [LIT, LITm, nI_add, n_mul, fa_or, n_31m, n_shl0, n_le, n_lt, n_eq, Option.bind_some, B_t hn ht, CT hn ht hW, CTp t T, c_ends hn ht hW hT hi, n_bitz, n_and0, g, e, show ¬ T 0 1 ≤ i by omega, Bool.true_eq_false, ne_eq, not_false_eq_true, and_self, ↓reduceIte]
  · intro f b1 hP
    show fX9_spread_29b n r10 (fX9_spread_29 n r10 f) (mk s) t (nI k) (nI b1) (nI b0) (nI v) (nI (T 0 1)) = _
    unfold fX9_spread_29b
    simp (disch := first | omega | assumption | (simp only [wL_1, wL_22, wI_2, wA_2, wQ_1, wQ_21] <;> first | assumption | omega)) only [LIT, LITm, nI_add, n_mul, fa_or, n_31m, n_shl0, n_le, n_lt, n_eq, Option.bind_some, B_t hn ht, CT hn ht hW, CTp t T, Nat.le_refl, ↓reduceIte]
    rw [hP]
    rfl
theorem c_spread {k : Nat} (hn : 239 ≤ n) (ht : t = 6 ∨ t = 29) (hW : WT T) (hT : cTd s.1 t T) (hk : k < 512) (hx : x < 7) : fX9_spread n (mk s) t (nI x) (nI k) = some (nI (spS T (fun i => k.testBit i) x), mk s) := by
  have hx2 : 2 ^ x < 128 := p7 hx
  have hx0 : 0 < 2 ^ x := Nat.two_pow_pos x
  unfold fX9_spread
  simp (disch := first | omega | assumption | (simp only [wL_1, wL_22, wI_2, wA_2, wQ_1, wQ_21] <;> first | assumption | omega)) only [LIT, LITm, nI_add, n_mul, fa_or, n_31m, n_shl0, n_le, n_lt, n_eq, Option.bind_some]
  refine lp_up (F := fun f (b : Nat × Nat) i => fX9_spread_10 n f (mk s) t (nI k) (nI b.1) (nI b.2) (nI i)) (N := 7) (P := fun i b => b.1 = spN T (fun i => k.testBit i) i (2 ^ x) ∧ b.2 < 128 ∧ (i = 0 → b.2 = 0) ∧ ∀ j, i = j + 1 → b.2 = spN T (fun i => k.testBit i) j (2 ^ x)) (Q := fun r => r = some (nI (spS T (fun i => k.testBit i) x), mk s)) ?_ ?_ 7 bi_K (2 ^ x, 0) 0 (by omega) (by unfold bi_K; omega) ⟨rfl, by show (0 : Nat) < 128; omega, fun _ => rfl, fun j h => by omega⟩
  · intro f b i hi hP
    obtain ⟨h1, h2, h3, h4⟩ := hP
    have hb : b.1 < 128 := by rw [h1]; exact spN_lt hW hx2 i
    by_cases e : b.2 = b.1
    · right
      show fX9_spread_10b n (fX9_spread_10 n f) (mk s) t (nI k) (nI b.1) (nI b.2) (nI i) = _
      unfold fX9_spread_10b
      simp (disch := first | omega | assumption | (simp only [wL_1, wL_22, wI_2, wA_2, wQ_1, wQ_21] <;> first | assumption | omega)) only [LIT, LITm, nI_add, n_mul, fa_or, n_31m, n_shl0, n_le, n_lt, n_eq, Option.bind_some, e, show ¬ 7 ≤ i by omega, ↓reduceIte]
      cases i with
      | zero =>
        have := h3 rfl
        have h1' : b.1 = 2 ^ x := h1
        omega
      | succ j =>
        have h5 := h4 j rfl
        have st : rdS T (fun i => k.testBit i) (spN T (fun i => k.testBit i) j (2 ^ x)) = spN T (fun i => k.testBit i) j (2 ^ x) := h1.symm.trans (e.symm.trans h5)
        rw [← e, h5]
        have := spN_st st (7 - j)
        rw [show j + (7 - j) = 7 by omega] at this
        rw [← this]
        rfl
    · left
      refine ⟨(rdS T (fun i => k.testBit i) b.1, b.1), ?_, by rw [h1]; rfl, hb, fun h => by omega, fun j hj => ?_⟩
      · show fX9_spread_10b n (fX9_spread_10 n f) (mk s) t (nI k) (nI b.1) (nI b.2) (nI i) = _
        unfold fX9_spread_10b
        simp (disch := first | omega | assumption | (simp only [wL_1, wL_22, wI_2, wA_2, wQ_1, wQ_21] <;> first | assumption | omega)) only [LIT, LITm, nI_add, n_mul, fa_or, n_31m, n_shl0, n_le, n_lt, n_eq, Option.bind_some, e, show ¬ 7 ≤ i by omega, ↓reduceIte]
        exact c_sp29 hn ht hW hT hk hb hi
      · show b.1 = _
        rw [h1, show i = j by omega]
  · intro f b hP
    show fX9_spread_10b n (fX9_spread_10 n f) (mk s) t (nI k) (nI b.1) (nI b.2) (nI 7) = _
    unfold fX9_spread_10b
    simp (disch := first | omega | assumption | (simp only [wL_1, wL_22, wI_2, wA_2, wQ_1, wQ_21] <;> first | assumption | omega)) only [LIT, LITm, nI_add, n_mul, fa_or, n_31m, n_shl0, n_le, n_lt, n_eq, Option.bind_some, Nat.le_refl, ↓reduceIte]
    rw [hP.1]
    rfl
theorem c_sets {k : Nat} (hn : 239 ≤ n) (ht : t = 6 ∨ t = 29) (hW : WT T) (hT : cTd s.1 t T) (hk : k < 512) : fX9_sets n (mk s) t (nI k) = some (nI (setV T (fun i => k.testBit i)), mk s) := by
  have h0 := hW.1
  unfold fX9_sets
  simp (disch := first | omega | assumption | (simp only [wL_1, wL_22, wI_2, wA_2, wQ_1, wQ_21] <;> first | assumption | omega)) only [LIT, LITm, nI_add, n_mul, fa_or, n_31m, n_shl0, n_le, n_lt, n_eq, Option.bind_some]
  refine lp_up (F := fun f (b : Nat) i => fX9_sets_4 n f (mk s) t (nI k) (nI b) (nI i)) (N := T 0 0) (P := fun i b => b = fb_ct (rtV T (fun i => k.testBit i)) i) (Q := fun r => r = some (nI (setV T (fun i => k.testBit i)), mk s)) ?_ ?_ (T 0 0) bi_K 0 0 (by omega) (by unfold bi_K; omega) rfl
  · intro f b i hi hP
    left
    have hi0 : 0 < 2 ^ i := Nat.two_pow_pos i
    have hi2 : 2 ^ i < 128 := p7 (by omega)
    have hl := spS_lt (K := fun i => k.testBit i) (x := i) hW (by omega)
    refine ⟨b + (if rtV T (fun i => k.testBit i) i then 1 else 0), ?_, by rw [hP]; rfl⟩
    show fX9_sets_4b n (fX9_sets_4 n f) (mk s) t (nI k) (nI b) (nI i) = _
    unfold fX9_sets_4b fX9_sets_37 rtV
    by_cases e : spS T (fun i => k.testBit i) i &&& (2 ^ i - 1) = 0
    · simp (disch := first | omega | assumption | (simp only [wL_1, wL_22, wI_2, wA_2, wQ_1, wQ_21] <;> first | assumption | omega)) only [LIT, LITm, nI_add, n_mul, fa_or, n_31m, n_shl0, n_le, n_lt, n_eq, Option.bind_some, B_t hn ht, CT hn ht hW, CTp t T, c_spread hn ht hW hT hk (show i < 7 by omega), n_sub, n_and0, e, decide_true, not_true_eq_false, show ¬ T 0 0 ≤ i by omega, ↓reduceIte]
    · simp (disch := first | omega | assumption | (simp only [wL_1, wL_22, wI_2, wA_2, wQ_1, wQ_21] <;> first | assumption | omega)) only [LIT, LITm, nI_add, n_mul, fa_or, n_31m, n_shl0, n_le, n_lt, n_eq, Option.bind_some, B_t hn ht, CT hn ht hW, CTp t T, c_spread hn ht hW hT hk (show i < 7 by omega), n_sub, n_and0, e, decide_false, not_false_eq_true, Bool.false_eq_true, Nat.add_zero, show ¬ T 0 0 ≤ i by omega, ↓reduceIte]
  · intro f b hP
    show fX9_sets_4b n (fX9_sets_4 n f) (mk s) t (nI k) (nI b) (nI (T 0 0)) = _
    unfold fX9_sets_4b
    simp (disch := first | omega | assumption | (simp only [wL_1, wL_22, wI_2, wA_2, wQ_1, wQ_21] <;> first | assumption | omega)) only [LIT, LITm, nI_add, n_mul, fa_or, n_31m, n_shl0, n_le, n_lt, n_eq, Option.bind_some, B_t hn ht, CT hn ht hW, CTp t T, Nat.le_refl, ↓reduceIte]
    rw [hP]
    rfl
end Cp
