/-! ===== the class shortens by a path ===== -/
section Sh
variable {n t p : Nat} {s : zS} {T : zT} {d : Nat → Option Nat}
def fr : Option Nat → Nat
  | none => 1000000
  | some v => v
def lsB (d : Nat → Option Nat) (x y l : Nat) : Bool := decide (d x ≠ none ∧ fr (d x) + l < fr (d y))
def rlV (d : Nat → Option Nat) (x y l : Nat) : Nat → Option Nat := if lsB d x y l = true then fun z => if z = y then some (fr (d x) + l) else d z else d
def lb7 (s : zS) (d : Nat → Option Nat) : Prop := ∀ j, j < 7 → s.1 78 j = nI (fr (d j))
def bd7 (d : Nat → Option Nat) (B : Nat) : Prop := ∀ j u, d j = some u → u ≤ B
theorem rlV_bd {B x y l : Nat} (h : bd7 d B) (hl : l ≤ 99) : bd7 (rlV d x y l) (B + 99) := by
  intro j u hj
  unfold rlV at hj
  by_cases g : lsB d x y l = true
  · rw [if_pos g] at hj
    have g' := of_decide_eq_true g
    cases e : d x with
    | none => exact absurd e g'.1
    | some v =>
      have := h x v e
      by_cases q : j = y
      · simp only [if_pos q, e, fr] at hj
        cases hj
        omega
      · simp only [if_neg q] at hj
        have := h j u hj
        omega
  · rw [if_neg g] at hj
    have := h j u hj
    omega
theorem fr_le {B j : Nat} (h : bd7 d B) (hB : B ≤ 900000) : fr (d j) ≤ 1000000 ∧ (d j ≠ none → fr (d j) ≤ B) ∧ (d j = none → fr (d j) = 1000000) := by
  cases e : d j with
  | none => exact ⟨Nat.le_refl _, fun g => absurd rfl g, fun _ => rfl⟩
  | some v =>
    have := h j v e
    exact ⟨by show v ≤ 1000000; omega, fun _ => this, fun g => by cases g⟩
theorem ls_num {B x y l : Nat} (h : bd7 d B) (hB : B ≤ 900000) (hl : l ≤ 99) : fr (d y) ≤ fr (d x) + l ↔ lsB d x y l = false := by
  have hx := fr_le (j := x) h hB
  have hy := fr_le (j := y) h hB
  unfold lsB
  rw [decide_eq_false_iff_not]
  constructor
  · intro g q
    omega
  · intro g
    by_cases e : d x = none
    · have := hx.2.2 e
      omega
    · refine Classical.byContradiction fun q => g ⟨e, by omega⟩
theorem lb7_up {x y l : Nat} (hL : lb7 s d) (h : lsB d x y l = true) : lb7 (wI s 78 y (nI (fr (d x) + l))) (rlV d x y l) := by
  intro j hj
  unfold rlV
  rw [if_pos h, wI_at]
  by_cases q : j = y
  · simp only [if_pos q]
    rw [q, upd_at]
    rfl
  · simp only [if_neg q]
    rw [upd_ne q]
    exact hL j hj
def shoV (T : zT) (p : Nat) (d : Nat → Option Nat) : Nat → Option Nat := rlV (rlV d (T 3 p) (T 4 p) (T 5 p)) (T 4 p) (T 3 p) (T 5 p)
def shoB (T : zT) (p : Nat) (d : Nat → Option Nat) : Bool := lsB d (T 3 p) (T 4 p) (T 5 p) || lsB (rlV d (T 3 p) (T 4 p) (T 5 p)) (T 4 p) (T 3 p) (T 5 p)
theorem c_sh73 {B x y l : Nat} {b : Bool} (hn : 239 ≤ n) (hL : lb7 s d) (hb : bd7 d B) (hB : B ≤ 900000) (hx : x < 7) (hy : y < 7) (hl : l ≤ 99) : ∃ s' : zS, fX9_shorten_73 n (mk s) 77 (nI y) (nI x) (nI l) (nI b.toNat) = some (nI (b || lsB d x y l).toNat, mk s') ∧ s'.2 = s.2 ∧ (∀ a, a ≠ 78 → s'.1 a = s.1 a) ∧ lb7 s' (rlV d x y l) := by
  have ex := hL x hx
  have ey := hL y hy
  have bx := fr_le (j := x) hb hB
  have yb := fr_le (j := y) hb hB
  have num := ls_num (x := x) (y := y) hb hB hl
  unfold fX9_shorten_73
  cases g : lsB d x y l with
  | false =>
    refine ⟨s, ?_, rfl, fun _ _ => rfl, ?_⟩
    · rw [Bool.or_false]
      simp (disch := first | omega | assumption | (simp only [wL_1, wL_22, wI_2, wA_2, wQ_1, wQ_21] <;> first | assumption | omega)) only [LIT, LITm, nI_add, n_mul, fa_or, n_31m, n_shl0, n_le, n_lt, n_eq, Option.bind_some, B_wy hn, ex, ey, num.mpr g, gz_b, ↓reduceIte]
    · unfold rlV
      rw [if_neg (by rw [g]; exact Bool.false_ne_true)]
      exact hL
  | true =>
    have ng : ¬ fr (d y) ≤ fr (d x) + l := fun q => by rw [num.mp q] at g; cases g
    refine ⟨wI s 78 y (nI (fr (d x) + l)), ?_, rfl, fun a ha => wI_ne ha, lb7_up hL g⟩
    rw [Bool.or_true]
    simp (disch := first | omega | assumption | (simp only [wL_1, wL_22, wI_2, wA_2, wQ_1, wQ_21] <;> first | assumption | omega)) only [LIT, LITm, nI_add, n_mul, fa_or, n_31m, n_shl0, n_le, n_lt, n_eq, Option.bind_some, B_wy hn, ex, ey, ng, ↓reduceIte]
    rfl
theorem c_shorten {B : Nat} (hn : 239 ≤ n) (ht : t = 6 ∨ t = 29) (hW : WT T) (hT : cTd s.1 t T) (hL : lb7 s d) (hb : bd7 d B) (hB : B ≤ 800000) (hp : p < T 0 1) : ∃ s' : zS, fX9_shorten n (mk s) 77 t (nI p) = some (nI (shoB T p d).toNat, mk s') ∧ s'.2 = s.2 ∧ (∀ a, a ≠ 78 → s'.1 a = s.1 a) ∧ lb7 s' (shoV T p d) ∧ bd7 (shoV T p d) (B + 198) := by
  have he := WT_p hW hp
  have hl : T 5 p ≤ 99 := by omega
  have b1 := rlV_bd (x := T 3 p) (y := T 4 p) hb hl
  have b2 := rlV_bd (x := T 4 p) (y := T 3 p) b1 hl
  have ex := hL (T 3 p) he.1
  have ey := hL (T 4 p) he.2.1
  have bx := fr_le (j := T 3 p) hb (by omega)
  have yb := fr_le (j := T 4 p) hb (by omega)
  have num := ls_num (x := T 3 p) (y := T 4 p) (l := T 5 p) hb (by omega) hl
  unfold fX9_shorten shoB
  cases g : lsB d (T 3 p) (T 4 p) (T 5 p) with
  | false =>
    have e1 : rlV d (T 3 p) (T 4 p) (T 5 p) = d := by unfold rlV; rw [if_neg (by rw [g]; exact Bool.false_ne_true)]
    obtain ⟨s', es, zs, os, ls⟩ := c_sh73 (b := false) (x := T 4 p) (y := T 3 p) (l := T 5 p) hn hL hb (by omega) he.2.1 he.1 hl
    refine ⟨s', ?_, zs, os, by unfold shoV; rw [e1]; exact ls, b2⟩
    rw [Bool.false_or, e1]
    rw [Bool.false_or] at es
    have es' : fX9_shorten_73 n (mk s) 77 (nI (T 3 p)) (nI (T 4 p)) (nI (T 5 p)) (nI 0) = _ := es
    simp (disch := first | omega | assumption | (simp only [wL_1, wL_22, wI_2, wA_2, wQ_1, wQ_21] <;> first | assumption | omega)) only [LIT, LITm, nI_add, n_mul, fa_or, n_31m, n_shl0, n_le, n_lt, n_eq, Option.bind_some, B_wy hn, B_t hn ht, CT hn ht hW, CTp t T, ex, ey, num.mpr g, es', ↓reduceIte]
  | true =>
    have ng : ¬ fr (d (T 4 p)) ≤ fr (d (T 3 p)) + T 5 p := fun q => by rw [num.mp q] at g; cases g
    have L1 := lb7_up hL g
    obtain ⟨s', es, zs, os, ls⟩ := c_sh73 (b := true) (x := T 4 p) (y := T 3 p) (l := T 5 p) hn L1 b1 (by omega) he.2.1 he.1 hl
    refine ⟨s', ?_, zs, fun a ha => by rw [os a ha, wI_ne ha], ls, b2⟩
    rw [Bool.true_or] at es ⊢
    have es' : fX9_shorten_73 n (mk (wI s 78 (T 4 p) (nI (fr (d (T 3 p)) + T 5 p)))) 77 (nI (T 3 p)) (nI (T 4 p)) (nI (T 5 p)) (nI 1) = _ := es
    simp (disch := first | omega | assumption | (simp only [wL_1, wL_22, wI_2, wA_2, wQ_1, wQ_21] <;> first | assumption | omega)) only [LIT, LITm, nI_add, n_mul, fa_or, n_31m, n_shl0, n_le, n_lt, n_eq, Option.bind_some, B_wy hn, B_t hn ht, CT hn ht hW, CTp t T, ex, ey, ng, es', ↓reduceIte]
end Sh
