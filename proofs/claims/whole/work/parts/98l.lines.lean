/-! ===== lines of a text, in numbers alone; the class's tables ===== -/
def eB {α β : Type} (r : Except (Nat × Nat) α) (f : α → Except (Nat × Nat) β) : Except (Nat × Nat) β := match r with
  | .error e => .error e
  | .ok a => f a
/-- the first place of a number, or how many there are -/
def fdV (f : Nat → Nat) (v : Nat) : Nat → Nat → Nat
  | 0, i => i
  | k + 1, i => if f i = v then i else fdV f v k (i + 1)
def fdN (f : Nat → Nat) (m v : Nat) : Nat := fdV f v m 0
theorem fdV_le (f : Nat → Nat) (v : Nat) : ∀ k i, i ≤ fdV f v k i ∧ fdV f v k i ≤ i + k
  | 0, i => ⟨Nat.le_refl _, Nat.le_refl _⟩
  | k + 1, i => by
    show i ≤ (if f i = v then i else fdV f v k (i + 1)) ∧ (if f i = v then i else fdV f v k (i + 1)) ≤ i + (k + 1)
    have := fdV_le f v k (i + 1)
    split
    · omega
    · omega
theorem fdN_le {f : Nat → Nat} {m v : Nat} : fdN f m v ≤ m := by
  have := (fdV_le f v m 0).2
  unfold fdN
  omega
/-- what is read: token and knots; what is told so far; what came that may come once -/
abbrev zX : Type := zQ × zT × Nat
section Pl
variable (B : Nat → Nat) (N : Nat)
def rwV (L m : Nat) (q : zQ) : Except (Nat × Nat) (Nat × zQ) := if L ≤ m then .error (2, q.1.2.2.1) else .ok (0, adQ B N q)
def exV (k : Nat) (q : zQ) : Except (Nat × Nat) (Nat × zQ) := if q.1.1 = k then .ok (0, adQ B N q) else .error (1, q.1.2.2.1)
def nwV (f : Nat → Nat) (m : Nat) (q : zQ) : Except (Nat × Nat) (Nat × zQ) := if q.1.1 ≠ 22 then .error (1, q.1.2.2.1) else if fdN f m q.1.2.1 < m then .error (3, q.1.2.2.1) else .ok (q.1.2.1, adQ B N q)
def tdV (f : Nat → Nat) (m : Nat) (q : zQ) : Except (Nat × Nat) (Nat × zQ) := if q.1.1 ≠ 22 then .error (1, q.1.2.2.1) else if fdN f m q.1.2.1 < m then .ok (fdN f m q.1.2.1, adQ B N q) else .error (4, q.1.2.2.1)
def nbV (lo hi : Nat) (q : zQ) : Except (Nat × Nat) (Nat × zQ) := if q.1.1 ≠ 23 then .error (1, q.1.2.2.1) else if lo ≤ q.1.2.1 ∧ q.1.2.1 ≤ hi then .ok (q.1.2.1, adQ B N q) else .error (2, q.1.2.2.1)
def onV (M : Nat) (q : zQ) : Except (Nat × Nat) (Nat × zQ) := if M.testBit q.1.1 = true then .error (3, q.1.2.2.1) else .ok (M ||| 2 ^ q.1.1, adQ B N q)
/-- one row more -/
def rowU (T : zT) (sz base : Nat) (vals : List Nat) : zT := fun a i => if a = 0 ∧ i = sz then T 0 sz + 1 else if base ≤ a ∧ a < base + vals.length ∧ i = T 0 sz then vals.getD (a - base) 0 else T a i
def cellU (T : zT) (k j v : Nat) : zT := fun a i => if a = k ∧ i = j then v else T a i
def plaV (x : zX) : Except (Nat × Nat) zX := eB (rwV B N 7 (x.2.1 0 0) x.1) fun a => eB (nwV B N (x.2.1 1) (x.2.1 0 0) a.2) fun b => .ok (b.2, rowU x.2.1 0 1 [b.1], x.2.2)
def patV (x : zX) : Except (Nat × Nat) zX := eB (rwV B N 9 (x.2.1 0 1) x.1) fun a => eB (nwV B N (x.2.1 2) (x.2.1 0 1) a.2) fun b => eB (tdV B N (x.2.1 1) (x.2.1 0 0) b.2) fun c =>
  eB (eB (tdV B N (x.2.1 1) (x.2.1 0 0) c.2) fun d => if d.1 = c.1 then .error (5, c.2.1.2.2.1) else .ok d) fun d => eB (nbV B N 1 99 d.2) fun e => eB (nbV B N 0 9 e.2) fun g => eB (nbV B N 0 399 g.2) fun h => .ok (h.2, rowU x.2.1 1 2 [b.1, c.1, d.1, e.1, g.1, h.1], x.2.2)
def wkrV (x : zX) : Except (Nat × Nat) zX := eB (rwV B N 4 (x.2.1 0 2) x.1) fun a => eB (nwV B N (x.2.1 8) (x.2.1 0 2) a.2) fun b => eB (tdV B N (x.2.1 1) (x.2.1 0 0) b.2) fun c => eB (nbV B N 0 9 c.2) fun d => eB (nbV B N 1 99 d.2) fun e => .ok (e.2, rowU x.2.1 2 8 [b.1, c.1, d.1, e.1], x.2.2)
def wlkV (x : zX) : Except (Nat × Nat) zX := eB (rwV B N 12 (x.2.1 0 3) x.1) fun a => eB (tdV B N (x.2.1 8) (x.2.1 0 2) a.2) fun b => eB (tdV B N (x.2.1 2) (x.2.1 0 1) b.2) fun c => eB (nbV B N 0 99 c.2) fun d => .ok (d.2, rowU x.2.1 3 12 [b.1, c.1, d.1], x.2.2)
def bulV (x : zX) : Except (Nat × Nat) zX := eB (rwV B N 6 (x.2.1 0 4) x.1) fun a => eB (tdV B N (x.2.1 2) (x.2.1 0 1) a.2) fun b => eB (nbV B N 0 99 b.2) fun c => eB (nbV B N 0 99 c.2) fun d => .ok (d.2, rowU x.2.1 4 15 [b.1, c.1, d.1], x.2.2)
def oncV (k lo hi : Nat) (x : zX) : Except (Nat × Nat) zX := eB (onV B N x.2.2 x.1) fun a => eB (nbV B N lo hi a.2) fun b => .ok (b.2, cellU x.2.1 0 k b.1, a.1)
def exD (q : zQ) : Except (Nat × Nat) zQ := (plE B N q).getD (.error (0, 0))
def lwlV (x : zX) : Except (Nat × Nat) zX := eB (exV B N 8 x.1) fun a => if 9 ≤ a.2.1.1 ∧ a.2.1.1 ≤ 11 then eB (onV B N x.2.2 a.2) fun b => eB (exD B N b.2) fun c => .ok (c, cellU (cellU (cellU x.2.1 18 (a.2.1.1 - 9) 1) 19 (a.2.1.1 - 9) b.2.2.1.length) 20 (a.2.1.1 - 9) c.2.1.length, b.1) else .error (1, a.2.1.2.2.1)
def ln0 (x : zX) : Except (Nat × Nat) zX := if x.1.1.1 = 0 then plaV B N x else if x.1.1.1 = 1 then patV B N x else if x.1.1.1 = 2 then wkrV B N x else if x.1.1.1 = 3 then wlkV B N x else if x.1.1.1 = 4 then bulV B N x else
  if x.1.1.1 = 5 then oncV B N 6 1 400 x else if x.1.1.1 = 6 then oncV B N 7 0 100 x else if x.1.1.1 = 7 then oncV B N 8 0 99999 x else lwlV B N x
def lnV (x : zX) : Except (Nat × Nat) zX := eB (ln0 B N x) fun y => eB (exV B N 24 y.1) fun a => .ok (a.2, y.2)
/-- all lines, counted -/
def txV : Nat → Nat → zX → Except (Nat × Nat) (Nat × zX)
  | 0, c, x => .ok (c, x)
  | k + 1, c, x => if x.1.1.1 = 37 then .ok (c, x) else eB (lnV B N x) (txV k (c + 1))
end Pl
section Tb
variable {n t i N k a m L W sz nb cb v : Nat} {nm : Bool} {B f : Nat → Nat} {s s' s1 s2 : zS} {q q' : zQ} {T T' : zT} {I I' : Nat → Nat → Int32}
/-- a table of the class -/
def TB (n a L W : Nat) : Prop := (∀ s, kO n (mk s) a 6 = some ()) ∧ (∀ s, pI n (mk s) a 6 0 = some (nI L)) ∧ (∀ s, pI n (mk s) a 6 1 = some (nI W)) ∧ (∀ s, pR n (mk s) a 6 2 = some (a + 1)) ∧ (∀ s, pR n (mk s) a 6 3 = some (a + 2)) ∧ (∀ s, pI n (mk s) a 6 4 = some (s.1 a 4)) ∧ (∀ s x, sF n (mk s) a 6 4 .int (.int x) = some (mk (wI s a 4 x))) ∧
  (∀ s j, j < L → gX 1 n (mk s) (a + 1) (nI j) = some (s.1 (a + 1) j)) ∧ (∀ s j x, j < L → wX 1 (fun x => x) n (mk s) (a + 1) (nI j) x = some (mk (wI s (a + 1) j x))) ∧ (∀ s j x, j < L * W → wX 1 (fun x => x) n (mk s) (a + 2) (nI j) x = some (mk (wI s (a + 2) j x)))
theorem TB_0 (hn : 239 ≤ n) (ht : t = 6 ∨ t = 29) : TB n (t + 1) 7 0 := by
  refine ⟨?_, ?_, ?_, ?_, ?_, ?_, ?_, ?_, ?_, fun s j x h => absurd h (by omega)⟩ <;> intros <;> simp (disch := omega) only [B_t hn ht]
theorem TB_1 (hn : 239 ≤ n) (ht : t = 6 ∨ t = 29) : TB n (t + 4) 9 5 := by
  refine ⟨?_, ?_, ?_, ?_, ?_, ?_, ?_, ?_, ?_, ?_⟩ <;> intros <;> simp (disch := omega) only [B_t hn ht]
theorem TB_2 (hn : 239 ≤ n) (ht : t = 6 ∨ t = 29) : TB n (t + 7) 4 3 := by
  refine ⟨?_, ?_, ?_, ?_, ?_, ?_, ?_, ?_, ?_, ?_⟩ <;> intros <;> simp (disch := omega) only [B_t hn ht]
theorem TB_3 (hn : 239 ≤ n) (ht : t = 6 ∨ t = 29) : TB n (t + 10) 12 3 := by
  refine ⟨?_, ?_, ?_, ?_, ?_, ?_, ?_, ?_, ?_, ?_⟩ <;> intros <;> simp (disch := omega) only [B_t hn ht]
theorem TB_4 (hn : 239 ≤ n) (ht : t = 6 ∨ t = 29) : TB n (t + 13) 6 3 := by
  refine ⟨?_, ?_, ?_, ?_, ?_, ?_, ?_, ?_, ?_, ?_⟩ <;> intros <;> simp (disch := omega) only [B_t hn ht]
theorem c_full (h : TB n a L W) (hm : s.1 a 4 = nI m) (hL : L < 100) (hmL : m ≤ L) : fX6_isFull n (mk s) a = some (nI (decide (L ≤ m)).toNat, mk s) := by
  obtain ⟨h0, h1, h2, h3, h4, h5, h6, h7, h8, h9⟩ := h
  unfold fX6_isFull
  by_cases g : L ≤ m
  · rw [decide_eq_true g]
    simp (disch := first | omega | assumption | (simp only [wL_1, wL_22, wI_2, wA_2, wQ_1, wQ_21] <;> first | assumption | omega)) only [LIT, LITm, nI_add, n_mul, fa_or, n_31m, n_shl0, n_le, n_lt, n_eq, Option.bind_some, h0, h1, h5, hm, show ¬ m < L by omega, ↓reduceIte, Bool.toNat_true]
  · rw [decide_eq_false g]
    simp (disch := first | omega | assumption | (simp only [wL_1, wL_22, wI_2, wA_2, wQ_1, wQ_21] <;> first | assumption | omega)) only [LIT, LITm, nI_add, n_mul, fa_or, n_31m, n_shl0, n_le, n_lt, n_eq, Option.bind_some, h0, h1, h5, hm, show m < L by omega, ↓reduceIte, Bool.toNat_false]
theorem c_rput {c : Nat} {x : Int32} (h : TB n a L W) (hm : s.1 a 4 = nI m) (hL : L < 100) (hW : W < 10) (hmL : m < L) (hc : c < W) : fX6_put n (mk s) a (nI c) x = some ((), mk (wI s (a + 2) (m * W + c) x)) := by
  have fu := c_full (s := s) h hm hL (by omega)
  rw [decide_eq_false (by omega)] at fu
  obtain ⟨h0, h1, h2, h3, h4, h5, h6, h7, h8, h9⟩ := h
  have lt : m * W + c < L * W := by
    have : (m + 1) * W ≤ L * W := Nat.mul_le_mul_right W (by omega)
    rw [Nat.succ_mul] at this
    omega
  have lt2 : L * W < 1000 := by
    have := Nat.mul_le_mul (show L ≤ 99 by omega) (show W ≤ 9 by omega)
    omega
  have w := h9 s (m * W + c) x lt
  unfold fX6_put
  have mW : m * W < 1000 := by omega
  simp (disch := first | omega | assumption | (simp only [wL_1, wL_22, wI_2, wA_2, wQ_1, wQ_21] <;> first | assumption | omega)) only [LIT, LITm, nI_add, n_mul, fa_or, n_31m, n_shl0, n_le, n_lt, n_eq, Option.bind_some, h0, fu, h2, h4, h5, hm, Bool.toNat_false, show ¬ W ≤ c by omega, show ¬ c < 0 by omega, not_true_eq_false, ↓reduceIte, w]
theorem c_rend (h : TB n a L W) (hm : s.1 a 4 = nI m) (hL : L < 100) (hmL : m < L) : fX6_endRow n (mk s) a = some ((), mk (wI s a 4 (nI (m + 1)))) := by
  have fu := c_full (s := s) h hm hL (by omega)
  rw [decide_eq_false (by omega)] at fu
  obtain ⟨h0, h1, h2, h3, h4, h5, h6, h7, h8, h9⟩ := h
  unfold fX6_endRow
  simp (disch := first | omega | assumption | (simp only [wL_1, wL_22, wI_2, wA_2, wQ_1, wQ_21] <;> first | assumption | omega)) only [LIT, LITm, nI_add, n_mul, fa_or, n_31m, n_shl0, n_le, n_lt, n_eq, Option.bind_some, h0, fu, h5, h6, hm, Bool.toNat_false, not_true_eq_false, ↓reduceIte]
theorem c_tfind (h : TB n a L W) (hm : s.1 a 4 = nI m) (hL : L < 100) (hmL : m ≤ L) (hf : ∀ i, i < m → s.1 (a + 1) i = nI (f i) ∧ f i < 1073741824) (hv : v < 1073741824) : fX6_find n (mk s) a (nI v) = some (if fdN f m v < m then nI (fdN f m v) else m1, mk s) := by
  obtain ⟨h0, h1, h2, h3, h4, h5, h6, h7, h8, h9⟩ := h
  unfold fX6_find
  rw [h0]
  show fX6_find_2 n bi_K (mk s) a (nI v) (0 : Int32) = _
  have gen : ∀ k F i, k + i = m → k < F → fX6_find_2 n F (mk s) a (nI v) (nI i) = some (if fdV f v k i < m then nI (fdV f v k i) else m1, mk s) := by
    intro k
    induction k with
    | zero =>
      intro F i e hF
      obtain ⟨F', rfl⟩ : ∃ F', F = F' + 1 := ⟨F - 1, by omega⟩
      show fX6_find_2b n (fX6_find_2 n F') (mk s) a (nI v) (nI i) = _
      unfold fX6_find_2b
      have e0 : fdV f v 0 i = i := rfl
      rw [e0]
      simp (disch := first | omega | assumption | (simp only [wL_1, wL_22, wI_2, wA_2, wQ_1, wQ_21] <;> first | assumption | omega)) only [LIT, LITm, nI_add, n_mul, fa_or, n_31m, n_shl0, n_le, n_lt, n_eq, Option.bind_some, h5, hm, show m ≤ i by omega, show ¬ i < m by omega, ↓reduceIte]
    | succ k ih =>
      intro F i e hF
      obtain ⟨F', rfl⟩ : ∃ F', F = F' + 1 := ⟨F - 1, by omega⟩
      show fX6_find_2b n (fX6_find_2 n F') (mk s) a (nI v) (nI i) = _
      unfold fX6_find_2b
      obtain ⟨g1, g2⟩ := hf i (by omega)
      have g7 := h7 s i (by omega)
      have e1 : fdV f v (k + 1) i = if f i = v then i else fdV f v k (i + 1) := rfl
      by_cases c : f i = v
      · rw [e1, if_pos c]
        simp (disch := first | omega | assumption | (simp only [wL_1, wL_22, wI_2, wA_2, wQ_1, wQ_21] <;> first | assumption | omega)) only [LIT, LITm, nI_add, n_mul, fa_or, n_31m, n_shl0, n_le, n_lt, n_eq, Option.bind_some, h5, h3, g7, g1, hm, c, not_true_eq_false, show ¬ m ≤ i by omega, show i < m by omega, ↓reduceIte]
      · rw [e1, if_neg c, ← ih F' (i + 1) (by omega) (by omega)]
        simp (disch := first | omega | assumption | (simp only [wL_1, wL_22, wI_2, wA_2, wQ_1, wQ_21] <;> first | assumption | omega)) only [LIT, LITm, nI_add, n_mul, fa_or, n_31m, n_shl0, n_le, n_lt, n_eq, Option.bind_some, h5, h3, g7, g1, hm, c, not_false_eq_true, show ¬ m ≤ i by omega, ↓reduceIte]
  exact gen m bi_K 0 (by omega) (by unfold bi_K; omega)
end Tb
