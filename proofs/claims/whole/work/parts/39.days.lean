/-! ===== the days, by the class ===== -/
theorem B_d2 {n t o : Nat} (hn : 239 ≤ n) (ht : t = 6 ∨ t = 29) (ho : isS o) : (∀ s : zS, s.2.2 68 0 = t → pR n (mk s) 68 0 0 = some t) ∧ (∀ s : zS, s.2.2 68 1 = o → pR n (mk s) 68 0 1 = some o) :=
  ⟨fun s e => (B_dy hn).2.1 s t e (by omega), fun s e => (B_dy hn).2.2.2.1 s o e (by have := is_b ho; omega)⟩
theorem B_d3 {n : Nat} (hn : 239 ≤ n) : (∀ (s : zS) (b : Nat), b ≤ 1 → sF n (mk s) 68 0 3 .boolean (.int (nI b)) = some (mk (wI s 68 3 (nI b)))) ∧ (∀ (s : zS) (b : Nat), b ≤ 1 → sF n (mk s) 68 0 4 .boolean (.int (nI b)) = some (mk (wI s 68 4 (nI b)))) := by
  refine ⟨fun s b hb => ?_, fun s b hb => ?_⟩
  · rcases (by omega : b = 0 ∨ b = 1) with rfl | rfl
    · exact mk_sI rfl rfl rfl ⟨by omega, by omega⟩ (Or.inl (by omega))
    · exact mk_sI rfl rfl rfl ⟨by omega, by omega⟩ (Or.inl (by omega))
  · rcases (by omega : b = 0 ∨ b = 1) with rfl | rfl
    · exact mk_sI rfl rfl rfl ⟨by omega, by omega⟩ (Or.inl (by omega))
    · exact mk_sI rfl rfl rfl ⟨by omega, by omega⟩ (Or.inl (by omega))
/-- a standing in the cells of o -/
def cSd (I : Nat → Nat → Int32) (o : Nat) (T : zT) (S : zD) : Prop :=
  (I o 0 = S.1 0 ∧ I o 1 = nI S.2.2.2.2 ∧ I o 2 = S.1 1 ∧ I o 3 = S.1 2 ∧ I o 4 = nI S.2.2.2.1) ∧
  (∀ p, p < T 0 1 → I (o + 1) p = S.2.1 p ∧ I (o + 2) p = nI (S.2.2.1 2 p)) ∧
  (∀ w, w < T 0 2 → I (o + 3) w = nI (S.2.2.1 0 w) ∧ I (o + 4) w = nI (S.2.2.1 1 w))
/-- the class's days: told t, on o, in one thing otherwise -/
def cOd (s : zS) (t o : Nat) (T : zT) (O : zO) : Prop :=
  s.2.2 68 0 = t ∧ s.2.2 68 1 = o ∧ s.1 68 2 = nI O.1 ∧ s.1 68 3 = nI O.2.1.toNat ∧ s.1 68 4 = nI O.2.2.1.toNat ∧ s.1 68 5 = nI O.2.2.2.1 ∧ s.1 68 6 = O.2.2.2.2.1 ∧ ∀ w, w < T 0 2 → s.1 69 w = nI (O.2.2.2.2.2 w)
def wO (T : zT) (O : zO) : Prop := O.1 ≤ 2 ∧ 1 ≤ O.2.2.2.1 ∧ O.2.2.2.1 ≤ 400 ∧ ∀ w, w < T 0 2 → O.2.2.2.2.2 w ≤ 9
/-- only values of a law's names and stack change -/
def frL (t : Nat) (s s' : zS) : Prop := s'.1 = s.1 ∧ s'.2.2 = s.2.2 ∧ ∀ a, (a < t + 21 ∨ t + 22 < a) → s'.2.1 a = s.2.1 a
def frD (t o : Nat) (s s' : zS) : Prop := (∀ a, (a < o ∨ o + 4 < a) → s'.1 a = s.1 a) ∧ s'.2.2 = s.2.2 ∧ ∀ a, (a < t + 21 ∨ t + 22 < a) → s'.2.1 a = s.2.1 a
theorem frL_r {t : Nat} {s : zS} : frL t s s := ⟨rfl, rfl, fun _ _ => rfl⟩
theorem frL_t {t : Nat} {s s1 s2 : zS} (h : frL t s s1) (g : frL t s1 s2) : frL t s s2 := ⟨g.1.trans h.1, g.2.1.trans h.2.1, fun a ha => (g.2.2 a ha).trans (h.2.2 a ha)⟩
theorem frD_r {t o : Nat} {s : zS} : frD t o s s := ⟨fun _ _ => rfl, rfl, fun _ _ => rfl⟩
theorem frD_t {t o : Nat} {s s1 s2 : zS} (h : frD t o s s1) (g : frD t o s1 s2) : frD t o s s2 := ⟨fun a ha => (g.1 a ha).trans (h.1 a ha), g.2.1.trans h.2.1, fun a ha => (g.2.2 a ha).trans (h.2.2 a ha)⟩
theorem frL_D {t o : Nat} {s s' : zS} (h : frL t s s') : frD t o s s' := ⟨fun a _ => by rw [h.1], h.2.1, h.2.2⟩
theorem frD_I {t o j k : Nat} {x : Int32} {s : zS} (hk : k ≤ 4) : frD t o s (wI s (o + k) j x) := ⟨fun a ha => wI_ne (by omega), rfl, fun _ _ => rfl⟩
theorem cTd_D {t o : Nat} {s s' : zS} {T : zT} (ht : t = 6 ∨ t = 29) (ho : isS o) (h : frD t o s s') (g : cTd s.1 t T) : cTd s'.1 t T := cTd_fr g (fun a h1 h2 => h.1 a (by have := is_b ho; omega))
theorem cOd_D {t o : Nat} {s s' : zS} {T : zT} {O : zO} (ho : isS o) (h : frD t o s s') (g : cOd s t o T O) : cOd s' t o T O := by
  have hb := is_c ho
  have hb2 := is_b ho
  have h68 := h.1 68 (by rcases ho with rfl | rfl | rfl | ⟨i, hi, rfl⟩ <;> omega)
  have h69 := h.1 69 (by rcases ho with rfl | rfl | rfl | ⟨i, hi, rfl⟩ <;> omega)
  unfold cOd
  rw [h.2.1, h68, h69]
  exact g
theorem cSd_fr {I I' : Nat → Nat → Int32} {o : Nat} {T : zT} {S : zD} (h : cSd I o T S) (e : ∀ a, o ≤ a → a ≤ o + 4 → I' a = I a) : cSd I' o T S := by
  unfold cSd
  rw [e o (by omega) (by omega), e (o + 1) (by omega) (by omega), e (o + 2) (by omega) (by omega), e (o + 3) (by omega) (by omega), e (o + 4) (by omega) (by omega)]
  exact h
/-- sizes of tables, as rules for every heap in which the class has T -/
theorem CTp (t : Nat) (T : zT) : (∀ s : zS, cTd s.1 t T → s.1 (t + 1) 4 = nI (T 0 0)) ∧ (∀ s : zS, cTd s.1 t T → s.1 (t + 4) 4 = nI (T 0 1)) ∧ (∀ s : zS, cTd s.1 t T → s.1 (t + 7) 4 = nI (T 0 2)) ∧ (∀ s : zS, cTd s.1 t T → s.1 (t + 10) 4 = nI (T 0 3)) ∧ (∀ s : zS, cTd s.1 t T → s.1 (t + 13) 4 = nI (T 0 4)) ∧
    (∀ s : zS, cTd s.1 t T → s.1 (t + 16) 5 = nI (T 0 5)) ∧ (∀ s : zS, cTd s.1 t T → s.1 t 6 = nI (T 0 6)) ∧ (∀ s : zS, cTd s.1 t T → s.1 t 7 = nI (T 0 7)) ∧ (∀ s : zS, cTd s.1 t T → s.1 t 8 = nI (T 0 8)) :=
  ⟨fun s h => h.1.1, fun s h => h.1.2.1, fun s h => h.1.2.2.1, fun s h => h.1.2.2.2.1, fun s h => h.1.2.2.2.2, fun s h => h.2.1.1, fun s h => h.2.1.2.1, fun s h => h.2.1.2.2.1, fun s h => h.2.1.2.2.2⟩
def enV (T : zT) (p : Nat) : Nat := 2 ^ T 3 p ||| 2 ^ T 4 p
theorem enV_tb (T : zT) (p i : Nat) : (enV T p).testBit i = (decide (T 3 p = i) || decide (T 4 p = i)) := by
  unfold enV
  rw [Nat.testBit_or, Nat.testBit_two_pow, Nat.testBit_two_pow]
theorem enV_lt {T : zT} {p k : Nat} (h1 : T 3 p < k) (h2 : T 4 p < k) : enV T p < 2 ^ k := Nat.or_lt_two_pow (Nat.pow_lt_pow_right (by decide) h1) (Nat.pow_lt_pow_right (by decide) h2)
section Dc
variable {n t o p w : Nat} {s : zS} {T : zT} {O : zO} {S : zD}
theorem WT_p (hW : WT T) (hp : p < T 0 1) : T 3 p < 7 ∧ T 4 p < 7 ∧ T 3 p ≠ T 4 p ∧ 1 ≤ T 5 p ∧ T 5 p ≤ 99 ∧ T 6 p ≤ 9 ∧ T 7 p ≤ 399 ∧ p < 9 := by
  have h := hW.2.2.1 p hp
  have h0 := hW.1
  omega
theorem WT_w (hW : WT T) (hw : w < T 0 2) : T 9 w < 7 ∧ T 10 w ≤ 9 ∧ 1 ≤ T 11 w ∧ T 11 w ≤ 99 ∧ w < 4 := by
  have h := hW.2.2.2.1 w hw
  have h0 := hW.1
  omega
theorem wD_k (hW : WT T) (hD : wD T S) : S.2.2.2.1 < 2147483648 := Nat.lt_of_lt_of_le hD.2.1 (Nat.le_trans (Nat.pow_le_pow_right (by decide) hW.1.2.1) (by decide))
theorem c_ends (hn : 239 ≤ n) (ht : t = 6 ∨ t = 29) (hW : WT T) (hT : cTd s.1 t T) (hp : p < T 0 1) : fX8_ends n (mk s) t (nI p) = some (nI (enV T p), mk s) := by
  have hp' := WT_p hW hp
  unfold fX8_ends
  simp (disch := first | omega | assumption | (simp only [wL_1, wL_22, wI_2, wA_2, wQ_1, wQ_21] <;> first | assumption | omega)) only [LIT, LITm, nI_add, n_mul, fa_or, n_31m, n_shl0, n_le, n_lt, n_eq, Option.bind_some, B_t hn ht, CT hn ht hW, CTp t T, enV]
theorem c_isKept (hn : 239 ≤ n) (ho : isS o) {k : Nat} (hk : s.1 o 4 = nI k) (hk2 : k < 2147483648) (hp : p < 9) : fX5_isKept n (mk s) o (nI p) = some (nI (k.testBit p).toNat, mk s) := by
  unfold fX5_isKept
  simp (disch := first | omega | assumption | (simp only [wL_1, wL_22, wI_2, wA_2, wQ_1, wQ_21] <;> first | assumption | omega)) only [LIT, LITm, nI_add, n_mul, fa_or, n_31m, n_shl0, n_le, n_lt, n_eq, Option.bind_some, B_s hn ho, hk, n_bitz]
  cases k.testBit p <;> rfl
theorem bullV_m {d : Int32} {i : Nat} (h : bullV T p d i = true) : ∀ {m : Nat}, i ≤ m → bullV T p d m = true := by
  intro m
  induction m with
  | zero => intro hm; rwa [show i = 0 by omega] at h
  | succ m ih =>
    intro hm
    by_cases e : i = m + 1
    · rwa [e] at h
    · show (bullV T p d m || _) = true
      rw [ih (by omega)]
      rfl
theorem c_bull (hn : 239 ≤ n) (ht : t = 6 ∨ t = 29) (hW : WT T) (hT : cTd s.1 t T) (hp : p < T 0 1) {d : Int32} : fX8_isBullOn n (mk s) t (nI p) d = some (nI (bullV T p d (T 0 4)).toNat, mk s) := by
  have h0 := hW.1
  unfold fX8_isBullOn
  simp (disch := first | omega | assumption | (simp only [wL_1, wL_22, wI_2, wA_2, wQ_1, wQ_21] <;> first | assumption | omega)) only [LIT, LITm, nI_add, n_mul, fa_or, n_31m, n_shl0, n_le, n_lt, n_eq, Option.bind_some, B_t hn ht]
  refine lp_up (F := fun k (_ : Unit) i => fX8_isBullOn_2 n k (mk s) t (nI p) d (nI i)) (N := T 0 4) (P := fun i _ => bullV T p d i = false) (Q := fun r => r = some (nI (bullV T p d (T 0 4)).toNat, mk s)) ?_ ?_ (T 0 4) bi_K () 0 (by omega) (by unfold bi_K; omega) (by rfl)
  · intro k _ i hi hP
    have f1 : ¬ T 0 4 ≤ i := by omega
    have hb := hW.2.2.2.2.2.1 i hi
    have e0 : bullV T p d (i + 1) = (decide (T 15 i = p) && (decide (nI (T 16 i) ≤ d) && decide (d ≤ nI (T 17 i)))) := by
      show (bullV T p d i || _) = _
      rw [hP]
      rfl
    by_cases e : T 15 i = p
    · by_cases e2 : nI (T 16 i) ≤ d ∧ d ≤ nI (T 17 i)
      · right
        have : bullV T p d (T 0 4) = true := bullV_m (i := i + 1) (by rw [e0]; simp [e, e2]) (by omega)
        rw [this]
        simp (disch := first | omega | assumption | (simp only [wL_1, wL_22, wI_2, wA_2, wQ_1, wQ_21] <;> first | assumption | omega)) only [fX8_isBullOn_2, fX8_isBullOn_2b, fX8_isBullOn_53, LIT, LITm, nI_add, n_mul, fa_or, n_31m, n_shl0, n_le, n_lt, n_eq, Option.bind_some, B_t hn ht, CT hn ht hW, CTp t T, c_isWithin, f1, e, e2, not_true_eq_false, and_self, show ¬ (1 = 0) by omega, ↓reduceIte, Bool.toNat_true]
      · left
        refine ⟨(), ?_, by rw [e0]; simpa [e] using e2⟩
        simp (disch := first | omega | assumption | (simp only [wL_1, wL_22, wI_2, wA_2, wQ_1, wQ_21] <;> first | assumption | omega)) only [fX8_isBullOn_2, fX8_isBullOn_2b, fX8_isBullOn_53, LIT, LITm, nI_add, n_mul, fa_or, n_31m, n_shl0, n_le, n_lt, n_eq, Option.bind_some, B_t hn ht, CT hn ht hW, CTp t T, c_isWithin, f1, e, e2, not_true_eq_false, ↓reduceIte]
    · left
      refine ⟨(), ?_, by rw [e0]; simp [e]⟩
      simp (disch := first | omega | assumption | (simp only [wL_1, wL_22, wI_2, wA_2, wQ_1, wQ_21] <;> first | assumption | omega)) only [fX8_isBullOn_2, fX8_isBullOn_2b, fX8_isBullOn_53, LIT, LITm, nI_add, n_mul, fa_or, n_31m, n_shl0, n_le, n_lt, n_eq, Option.bind_some, B_t hn ht, CT hn ht hW, CTp t T, c_isWithin, f1, e, not_false_eq_true, ↓reduceIte]
  · intro k _ hP
    rw [hP]
    simp (disch := first | omega | assumption | (simp only [wL_1, wL_22, wI_2, wA_2, wQ_1, wQ_21] <;> first | assumption | omega)) only [fX8_isBullOn_2, fX8_isBullOn_2b, LIT, LITm, nI_add, n_mul, fa_or, n_31m, n_shl0, n_le, n_lt, n_eq, Option.bind_some, B_t hn ht, CT hn ht hW, CTp t T, Nat.le_refl, ↓reduceIte, Bool.toNat_false]
theorem c_look (hn : 239 ≤ n) (ht : t = 6 ∨ t = 29) (ho : isS o) (hW : WT T) (hT : cTd s.1 t T) (hO : cOd s t o T O) (hS : cSd s.1 o T S) (hwO : wO T O) (hD : wD T S) (hp : p < T 0 1) (hw : w < T 0 2) : ∃ s' : zS, fX0_lookAt n (mk s) 68 (nI p) (nI w) = some ((), mk s') ∧ frL t s s' ∧ ∀ j, j < 7 → s'.2.1 (t + 21) j = nmV T S p (O.2.2.2.2.2 w) (S.2.2.1 1 w) j := by
  have hp' := WT_p hW hp
  have hw' := WT_w hW hw
  obtain ⟨o1, o2, o3, o4, o5, o6, o7, o8⟩ := hO
  obtain ⟨⟨s1, s2, s3, s4, s5⟩, s6, s7⟩ := hS
  have a1 := hwO.2.2.2 w hw
  have a2 := (hD.2.2.1 w hw).2
  have a3 := hD.2.2.2 p hp
  refine ⟨wL (wL (wL (wL (wL (wL (wL s (t + 21) 0 (lN (T 5 p))) (t + 21) 1 (lN (T 6 p))) (t + 21) 2 (S.2.1 p).toInt64) (t + 21) 3 (lN (O.2.2.2.2.2 w))) (t + 21) 4 (lN (S.2.2.1 1 w))) (t + 21) 5 (lN (S.2.2.1 2 p))) (t + 21) 6 (S.1 0).toInt64, ?_, ⟨rfl, rfl, fun a ha => ?_⟩, ?_⟩
  · unfold fX0_lookAt fX0_lookAt_74 fX0_lookAt_96
    simp (disch := first | omega | assumption | (simp only [wL_1, wL_22, wI_2, wA_2, wQ_1, wQ_21] <;> first | assumption | omega)) only [LIT, LITm, nI_add, n_mul, fa_or, n_31m, n_shl0, n_le, n_lt, n_eq, Option.bind_some, B_dy hn, B_d2 hn ht ho, B_t hn ht, B_s hn ho, CT hn ht hW, CTp t T, wL_1, o8, s6, s7, s1, nI_l, n_m1, not_false_eq_true, ↓reduceIte]
  · simp (disch := omega) only [wL_ne]
  · intro j hj
    rcases (by omega : j = 0 ∨ j = 1 ∨ j = 2 ∨ j = 3 ∨ j = 4 ∨ j = 5 ∨ j = 6) with rfl | rfl | rfl | rfl | rfl | rfl | rfl <;> simp [wL_g, nmV]
theorem c_lookN (hn : 239 ≤ n) (ht : t = 6 ∨ t = 29) (ho : isS o) (hW : WT T) (hT : cTd s.1 t T) (hO : cOd s t o T O) (hS : cSd s.1 o T S) (hD : wD T S) (hp : p < T 0 1) : ∃ s' : zS, fX0_lookAt n (mk s) 68 (nI p) m1 = some ((), mk s') ∧ frL t s s' ∧ ∀ j, j < 7 → s'.2.1 (t + 21) j = nmV T S p 0 0 j := by
  have hp' := WT_p hW hp
  obtain ⟨o1, o2, o3, o4, o5, o6, o7, o8⟩ := hO
  obtain ⟨⟨s1, s2, s3, s4, s5⟩, s6, s7⟩ := hS
  have a3 := hD.2.2.2 p hp
  refine ⟨wL (wL (wL (wL (wL (wL (wL s (t + 21) 0 (lN (T 5 p))) (t + 21) 1 (lN (T 6 p))) (t + 21) 2 (S.2.1 p).toInt64) (t + 21) 3 0) (t + 21) 4 0) (t + 21) 5 (lN (S.2.2.1 2 p))) (t + 21) 6 (S.1 0).toInt64, ?_, ⟨rfl, rfl, fun a ha => ?_⟩, ?_⟩
  · unfold fX0_lookAt fX0_lookAt_74 fX0_lookAt_96
    simp (disch := first | omega | assumption | (simp only [wL_1, wL_22, wI_2, wA_2, wQ_1, wQ_21] <;> first | assumption | omega)) only [LIT, LITm, nI_add, n_mul, fa_or, n_31m, n_shl0, n_le, n_lt, n_eq, Option.bind_some, B_dy hn, B_d2 hn ht ho, B_t hn ht, B_s hn ho, CT hn ht hW, CTp t T, wL_1, s6, s1, nI_l, not_true_eq_false, ↓reduceIte]
  · simp (disch := omega) only [wL_ne]
  · intro j hj
    rcases (by omega : j = 0 ∨ j = 1 ∨ j = 2 ∨ j = 3 ∨ j = 4 ∨ j = 5 ∨ j = 6) with rfl | rfl | rfl | rfl | rfl | rfl | rfl <;> simp [wL_g, nmV] <;> rfl
theorem nmV_b (hW : WT T) (hD : wD T S) (hp : p < T 0 1) {lg lf : Nat} (h1 : lg ≤ 9) (h2 : lf ≤ 99) : ∀ j, j < 7 → bdd (nmV T S p lg lf j) := by
  intro j hj
  have hp' := WT_p hW hp
  have a3 := hD.2.2.2 p hp
  have r1 := fb_rng (S.2.1 p)
  have r2 := fb_rng (S.1 0)
  rcases (by omega : j = 0 ∨ j = 1 ∨ j = 2 ∨ j = 3 ∨ j = 4 ∨ j = 5 ∨ j = 6) with rfl | rfl | rfl | rfl | rfl | rfl | rfl
  · show bdd (lN (T 5 p))
    unfold bdd
    rw [lN_toInt (by omega)]
    omega
  · show bdd (lN (T 6 p))
    unfold bdd
    rw [lN_toInt (by omega)]
    omega
  · show bdd (S.2.1 p).toInt64
    unfold bdd
    rw [Int32.toInt_toInt64]
    omega
  · show bdd (lN lg)
    unfold bdd
    rw [lN_toInt (by omega)]
    omega
  · show bdd (lN lf)
    unfold bdd
    rw [lN_toInt (by omega)]
    omega
  · show bdd (lN (S.2.2.1 2 p))
    unfold bdd
    rw [lN_toInt (by omega)]
    omega
  · show bdd (S.1 0).toInt64
    unfold bdd
    rw [Int32.toInt_toInt64]
    omega
/-- a long cut to least .. most, by the class -/
theorem clV_c {l m : Nat} {v : Int64} (h : l ≤ m) (hm : m < 10000) : (if (if lN m < v then lN m else v) < lN l then lN l else (if lN m < v then lN m else v)) = lN (clV l m v) := by
  have e1 := lN_toInt (n := m) (by omega)
  have e2 := lN_toInt (n := l) (by omega)
  unfold clV
  by_cases h1 : lN m < v
  · have h1' := h1
    rw [fa_lt64, e1] at h1'
    rw [if_pos h1]
    have h2 : ¬ lN m < lN l := by rw [fa_lt64, e1, e2]; omega
    rw [if_neg h2]
    by_cases h3 : v.toInt ≤ l
    · rw [if_pos h3]
      congr 1
      omega
    · rw [if_neg h3, if_pos (by omega)]
  · have h1' := h1
    rw [fa_lt64, e1] at h1'
    rw [if_neg h1]
    by_cases h2 : v < lN l
    · have h2' := h2
      rw [fa_lt64, e2] at h2'
      rw [if_pos h2, if_pos (by omega)]
    · have h2' := h2
      rw [fa_lt64, e2] at h2'
      rw [if_neg h2]
      apply Int64.toInt_inj.mp
      by_cases h3 : v.toInt ≤ l
      · rw [if_pos h3, e2]
        omega
      · rw [if_neg h3]
        by_cases h4 : (m : Int) ≤ v.toInt
        · rw [if_pos h4, e1]
          omega
        · rw [if_neg h4, lN_toInt (by omega)]
          omega
theorem clV_le {l m : Nat} {v : Int64} (h : l ≤ m) : l ≤ clV l m v ∧ clV l m v ≤ m := by
  unfold clV
  split
  · omega
  · split <;> omega
theorem clV_n {l m k : Nat} (h1 : l ≤ k) (h2 : k ≤ m) (hm : m < 10000) : clV l m (lN k) = k := by
  unfold clV
  rw [lN_toInt (by omega)]
  split
  · omega
  · split <;> omega
theorem getD_el {α β : Type} {o : Option α} {x : α} {y : β} {f : α → β} (h : f x = y) : f (o.getD x) = o.elim y f := by
  cases o
  · exact h
  · rfl
theorem c_cost3 (hn : 239 ≤ n) (ht : t = 6 ∨ t = 29) (ho : isS o) (hW : WT T) (hT : cTd s.1 t T) (hO : cOd s t o T O) (hS : cSd s.1 o T S) (hwO : wO T O) (hD : wD T S) (hp : p < T 0 1) (hw : w < T 0 2) {nm : Nat → Int64} (hN : ∀ j, j < 7 → s.2.1 (t + 21) j = nm j) (hB : ∀ j, j < 7 → bdd (nm j)) {v : Int64} {m : Bool} (hm : (lawV T 1 nm).getD v ≠ 0 ↔ m = true) : ∃ s' : zS, fX0_costIfHeCan_113 n (mk s) 68 (nI w) (nI p) v (nI 1) (t + 16) = some (if m = true ∧ (lawV T 2 nm).elim (T 5 p) (clV 0 99) ≤ S.2.2.1 1 w then nI ((lawV T 2 nm).elim (T 5 p) (clV 0 99)) else m1, mk s') ∧ frL t s s' := by
  have hp' := WT_p hW hp
  have hw' := WT_w hW hw
  obtain ⟨o1, o2, o3, o4, o5, o6, o7, o8⟩ := hO
  obtain ⟨⟨s1, s2, s3, s4, s5⟩, s6, s7⟩ := hS
  have a2 := (hD.2.2.1 w hw).2
  obtain ⟨sa, ea, fa1, fa2, fa3⟩ := c_value (x := v) hn ht hW hT (show 1 < 3 by omega) hN hB
  by_cases h0 : (lawV T 1 nm).getD v = 0
  · refine ⟨sa, ?_, fa1, fa2, fun a ha => fa3 a (by omega)⟩
    rw [if_neg (fun h => hm.mpr h.1 h0)]
    unfold fX0_costIfHeCan_113
    simp (disch := first | omega | assumption | (simp only [wL_1, wL_22, wI_2, wA_2, wQ_1, wQ_21] <;> first | assumption | omega)) only [LIT, LITm, nI_add, n_mul, fa_or, n_31m, n_shl0, n_le, n_lt, n_eq, Option.bind_some, ea, CMP, h0, not_true_eq_false, ↓reduceIte]
  · have hTa : cTd sa.1 t T := by rw [fa1]; exact hT
    obtain ⟨sb, eb, fb1, fb2, fb3⟩ := c_value (x := lN (T 5 p)) hn ht hW hTa (show 2 < 3 by omega) (fun j hj => by rw [fa3 _ (by omega)]; exact hN j hj) hB
    have o1a : sa.2.2 68 0 = t := by rw [fa2]; exact o1
    have o2b : sb.2.2 68 1 = o := by rw [fb2, fa2]; exact o2
    have hle := clV_le (l := 0) (m := 99) (v := (lawV T 2 nm).getD (lN (T 5 p))) (by omega)
    refine ⟨sb, ?_, fb1.trans fa1, fb2.trans fa2, fun a ha => (fb3 a (by omega)).trans (fa3 a (by omega))⟩
    rw [← getD_el (f := clV 0 99) (x := lN (T 5 p)) (clV_n (by omega) (by omega) (by omega))]
    unfold fX0_costIfHeCan_113
    have e99 : (99 : Int64) = lN 99 := rfl
    have e0 : (0 : Int64) = lN 0 := rfl
    have hc := clV_c (l := 0) (m := 99) (v := (lawV T 2 nm).getD (lN (T 5 p))) (by omega) (by omega)
    rw [← e99, ← e0] at hc
    simp (disch := first | omega | assumption | (simp only [wL_1, wL_22, wI_2, wA_2, wQ_1, wQ_21] <;> first | assumption | omega)) only [LIT, LITm, nI_add, n_mul, fa_or, n_31m, n_shl0, n_le, n_lt, n_eq, Option.bind_some, B_dy hn, B_d2 hn ht ho, B_t hn ht, B_s hn ho, CT hn ht hW, CTp t T, ea, eb, CMP, h0, nI_l, hc, lN_i, fb1, fa1, (s7 w hw).2, not_false_eq_true, ↓reduceIte, hm.mp h0, true_and]
    by_cases h1 : clV 0 99 ((lawV T 2 nm).getD (lN (T 5 p))) ≤ S.2.2.1 1 w
    · rw [if_neg (by omega), if_pos h1]
    · rw [if_pos (by omega), if_neg h1]
theorem c_cost2 (hn : 239 ≤ n) (ht : t = 6 ∨ t = 29) (ho : isS o) (hW : WT T) (hT : cTd s.1 t T) (hO : cOd s t o T O) (hS : cSd s.1 o T S) (hwO : wO T O) (hD : wD T S) (hp : p < T 0 1) (hw : w < T 0 2) : ∃ s' : zS, fX0_costIfHeCan_63 n (mk s) 68 (nI w) (nI p) = some (if mayV T S p (O.2.2.2.2.2 w) (S.2.2.1 1 w) = true ∧ cstV T S p (O.2.2.2.2.2 w) (S.2.2.1 1 w) ≤ S.2.2.1 1 w then nI (cstV T S p (O.2.2.2.2.2 w) (S.2.2.1 1 w)) else m1, mk s') ∧ frL t s s' := by
  have hp' := WT_p hW hp
  have hw' := WT_w hW hw
  have a1 := hwO.2.2.2 w hw
  have a2 := (hD.2.2.1 w hw).2
  obtain ⟨sa, ea, fa, hN⟩ := c_look hn ht ho hW hT hO hS hwO hD hp hw
  have hTa : cTd sa.1 t T := by rw [fa.1]; exact hT
  have hSa : cSd sa.1 o T S := by rw [fa.1]; exact hS
  have hOa : cOd sa t o T O := by
    unfold cOd
    rw [fa.1, fa.2.1]
    exact hO
  have hB := nmV_b hW hD hp a1 a2
  have hm : ∀ v : Int64, (v = if O.2.2.2.2.2 w < T 6 p then 0 else 1) → ((lawV T 1 (nmV T S p (O.2.2.2.2.2 w) (S.2.2.1 1 w))).getD v ≠ 0 ↔ mayV T S p (O.2.2.2.2.2 w) (S.2.2.1 1 w) = true) := by
    intro v hv
    unfold mayV
    cases lawV T 1 (nmV T S p (O.2.2.2.2.2 w) (S.2.2.1 1 w)) with
    | some u => simp
    | none =>
      rw [hv]
      by_cases h : O.2.2.2.2.2 w < T 6 p
      · simp [h]
      · simp [h]
        omega
  have o1a := hOa.1
  by_cases h : O.2.2.2.2.2 w < T 6 p
  · obtain ⟨sb, eb, fb⟩ := c_cost3 hn ht ho hW hTa hOa hSa hwO hD hp hw hN hB (hm 0 (by rw [if_pos h]))
    refine ⟨sb, ?_, frL_t fa fb⟩
    unfold fX0_costIfHeCan_63 fX0_costIfHeCan_95
    simp (disch := first | omega | assumption | (simp only [wL_1, wL_22, wI_2, wA_2, wQ_1, wQ_21] <;> first | assumption | omega)) only [LIT, LITm, nI_add, n_mul, fa_or, n_31m, n_shl0, n_le, n_lt, n_eq, Option.bind_some, B_dy hn, B_d2 hn ht ho, B_t hn ht, CT hn ht hW, CTp t T, ea, fa.1, hO.2.2.2.2.2.2.2 w hw, h, eb, ↓reduceIte]
    rfl
  · obtain ⟨sb, eb, fb⟩ := c_cost3 hn ht ho hW hTa hOa hSa hwO hD hp hw hN hB (hm 1 (by rw [if_neg h]))
    refine ⟨sb, ?_, frL_t fa fb⟩
    unfold fX0_costIfHeCan_63 fX0_costIfHeCan_95
    simp (disch := first | omega | assumption | (simp only [wL_1, wL_22, wI_2, wA_2, wQ_1, wQ_21] <;> first | assumption | omega)) only [LIT, LITm, nI_add, n_mul, fa_or, n_31m, n_shl0, n_le, n_lt, n_eq, Option.bind_some, B_dy hn, B_d2 hn ht ho, B_t hn ht, CT hn ht hW, CTp t T, ea, fa.1, hO.2.2.2.2.2.2.2 w hw, h, eb, show ¬ (1 = 0) by omega, ↓reduceIte]
    rfl
theorem c_cost (hn : 239 ≤ n) (ht : t = 6 ∨ t = 29) (ho : isS o) (hW : WT T) (hT : cTd s.1 t T) (hO : cOd s t o T O) (hS : cSd s.1 o T S) (hwO : wO T O) (hD : wD T S) (hp : p < T 0 1) (hw : w < T 0 2) : ∃ s' : zS, fX0_costIfHeCan n (mk s) 68 (nI w) (nI p) = some ((canV T O S w p).elim m1 nI, mk s') ∧ frL t s s' := by
  have hp' := WT_p hW hp
  have hw' := WT_w hW hw
  have a2 := hD.2.2.1 w hw
  have h0 := hW.1
  have hk := wD_k hW hD
  have hE : enV T p < 2147483648 := Nat.lt_of_lt_of_le (enV_lt hp'.1 hp'.2.1) (by decide)
  obtain ⟨o1, o2, o3, o4, o5, o6, o7, o8⟩ := hO
  obtain ⟨⟨s1, s2, s3, s4, s5⟩, s6, s7⟩ := hS
  have K := c_isKept hn ho s5 hk hp'.2.2.2.2.2.2.2
  have hb := c_bull hn ht hW hT hp (d := S.1 0)
  obtain ⟨sz, ez, fz⟩ := c_cost2 hn ht ho hW hT ⟨o1, o2, o3, o4, o5, o6, o7, o8⟩ ⟨⟨s1, s2, s3, s4, s5⟩, s6, s7⟩ hwO hD hp hw
  unfold canV fX0_costIfHeCan
  by_cases g1 : T 3 p = S.2.2.1 0 w ∨ T 4 p = S.2.2.1 0 w
  · have t1 : (enV T p).testBit (S.2.2.1 0 w) = true := by
      rw [enV_tb]
      simpa using g1
    cases g2 : S.2.2.2.1.testBit p with
    | false =>
      refine ⟨s, ?_, frL_r⟩
      rw [if_neg (by simp)]
      simp (disch := first | omega | assumption | (simp only [wL_1, wL_22, wI_2, wA_2, wQ_1, wQ_21] <;> first | assumption | omega)) only [LIT, LITm, nI_add, n_mul, fa_or, n_31m, n_shl0, n_le, n_lt, n_eq, Option.bind_some, B_dy hn, B_d2 hn ht ho, B_t hn ht, B_s hn ho, c_ends hn ht hW hT hp, (s7 w hw).1, n_bitz, t1, K, g2, Bool.toNat_false, not_true_eq_false, Bool.true_eq_false, ↓reduceIte, Option.elim_none]
    | true =>
      cases g3 : O.2.1 with
      | false =>
        refine ⟨sz, ?_, fz⟩
        rw [g3] at o4
        simp (disch := first | omega | assumption | (simp only [wL_1, wL_22, wI_2, wA_2, wQ_1, wQ_21] <;> first | assumption | omega)) only [LIT, LITm, nI_add, n_mul, fa_or, n_31m, n_shl0, n_le, n_lt, n_eq, Option.bind_some, B_dy hn, B_d2 hn ht ho, B_t hn ht, B_s hn ho, c_ends hn ht hW hT hp, (s7 w hw).1, n_bitz, t1, K, g2, o4, ez, Bool.toNat_false, Bool.toNat_true, show ¬ (1 = 0) by omega, not_false_eq_true, Bool.true_eq_false, ↓reduceIte]
        simp only [g1, true_and, Bool.false_eq_true, false_and, not_false_eq_true]
        split <;> rfl
      | true =>
        rw [g3] at o4
        cases g4 : bullV T p (S.1 0) (T 0 4) with
        | true =>
          refine ⟨s, ?_, frL_r⟩
          rw [if_neg (by simp)]
          simp (disch := first | omega | assumption | (simp only [wL_1, wL_22, wI_2, wA_2, wQ_1, wQ_21] <;> first | assumption | omega)) only [LIT, LITm, nI_add, n_mul, fa_or, n_31m, n_shl0, n_le, n_lt, n_eq, Option.bind_some, B_dy hn, B_d2 hn ht ho, B_t hn ht, B_s hn ho, c_ends hn ht hW hT hp, (s7 w hw).1, n_bitz, t1, K, g2, o4, s1, hb, g4, Bool.toNat_true, show ¬ (1 = 0) by omega, not_false_eq_true, Bool.true_eq_false, ↓reduceIte, Option.elim_none]
        | false =>
          refine ⟨sz, ?_, fz⟩
          simp (disch := first | omega | assumption | (simp only [wL_1, wL_22, wI_2, wA_2, wQ_1, wQ_21] <;> first | assumption | omega)) only [LIT, LITm, nI_add, n_mul, fa_or, n_31m, n_shl0, n_le, n_lt, n_eq, Option.bind_some, B_dy hn, B_d2 hn ht ho, B_t hn ht, B_s hn ho, c_ends hn ht hW hT hp, (s7 w hw).1, n_bitz, t1, K, g2, o4, s1, hb, g4, ez, Bool.toNat_true, Bool.toNat_false, show ¬ (1 = 0) by omega, not_false_eq_true, Bool.true_eq_false, ↓reduceIte]
          simp only [g1, true_and, Bool.false_eq_true, and_false, not_false_eq_true]
          split <;> rfl
  · refine ⟨s, ?_, frL_r⟩
    have t1 : (enV T p).testBit (S.2.2.1 0 w) = false := by
      rw [enV_tb]
      simpa using g1
    rw [if_neg (fun h => g1 h.1)]
    simp (disch := first | omega | assumption | (simp only [wL_1, wL_22, wI_2, wA_2, wQ_1, wQ_21] <;> first | assumption | omega)) only [LIT, LITm, nI_add, n_mul, fa_or, n_31m, n_shl0, n_le, n_lt, n_eq, Option.bind_some, B_dy hn, B_d2 hn ht ho, B_t hn ht, B_s hn ho, c_ends hn ht hW hT hp, (s7 w hw).1, n_bitz, t1, ↓reduceIte, Option.elim_none]
end Dc
