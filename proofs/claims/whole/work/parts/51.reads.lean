/-! ===== fault, named, path, walker, law: both ===== -/
def faultV (F : Nat × Int32) (x : Int32) : Int32 := if x = nI 0 then nI F.1 else if x = nI 1 then F.2 else m1
def namedV (T : zT) (x y : Int32) : Int32 := if x = nI 0 then fdS (T 1) (T 0 0) y (T 0 0) 0 else if x = nI 1 then fdS (T 2) (T 0 1) y (T 0 1) 0 else if x = nI 2 then fdS (T 8) (T 0 2) y (T 0 2) 0 else m1
def pathV (T : zT) (S : zD) (p : Nat) (y : Int32) : Option Int32 := if y = nI 0 then some (nI (T 3 p)) else if y = nI 1 then some (nI (T 4 p)) else if y = nI 2 then some (nI (T 5 p)) else if y = nI 3 then some (nI (T 6 p)) else if y = nI 4 then some (S.2.1 p) else if y = nI 5 then some (nI (S.2.2.2.1.testBit p).toNat) else if y = nI 6 then some (nI (S.2.2.1 2 p)) else if y = nI 7 then some (nI (bullV T p (S.1 0) (T 0 4)).toNat) else none
/-- a set of bits -/
def goB (f : Nat → Bool) : Nat → Nat
  | 0 => 0
  | k + 1 => goB f k ||| (if f k = true then 2 ^ k else 0)
theorem goB_lt (f : Nat → Bool) : ∀ m, goB f m < 2 ^ m
  | 0 => by show 0 < 1; omega
  | m + 1 => by
    show goB f m ||| _ < _
    refine Nat.or_lt_two_pow (Nat.lt_trans (goB_lt f m) (Nat.pow_lt_pow_right (by decide) (by omega))) ?_
    split
    · exact Nat.pow_lt_pow_right (by decide) (by omega)
    · exact Nat.two_pow_pos _
theorem goB_tb (f : Nat → Bool) (i : Nat) : ∀ m, (goB f m).testBit i = (decide (i < m) && f i)
  | 0 => by show (0 : Nat).testBit i = _; simp
  | m + 1 => by
    show (goB f m ||| _).testBit i = _
    rw [Nat.testBit_or, goB_tb f i m]
    by_cases h : f m = true
    · rw [if_pos h, Nat.testBit_two_pow]
      by_cases e : m = i
      · subst e
        simp [h]
      · simp only [e, decide_false, Bool.or_false]
        have : decide (i < m) = decide (i < m + 1) := by
          by_cases g : i < m
          · rw [decide_eq_true g, decide_eq_true (by omega)]
          · rw [decide_eq_false g, decide_eq_false (by omega)]
        rw [this]
    · rw [if_neg h, Nat.zero_testBit, Bool.or_false]
      by_cases e : m = i
      · subst e
        rw [bF h]
        simp
      · have : decide (i < m) = decide (i < m + 1) := by
          by_cases g : i < m
          · rw [decide_eq_true g, decide_eq_true (by omega)]
          · rw [decide_eq_false g, decide_eq_false (by omega)]
        rw [this]
def walkerV (T : zT) (S : zD) (w : Nat) (y : Int32) : Int32 := if y = nI 0 then nI (S.2.2.1 0 w) else if y = nI 1 then nI (T 10 w) else if y = nI 2 then nI (T 11 w) else if y = nI 3 then nI (S.2.2.1 1 w) else if y = nI 4 then nI (goB (fun p => (canV T (O0 T 0) S w p).isSome) (T 0 1)) else m1
def lawOk (T : zT) (x y z : Int32) : Prop := wiV 0 x 2 = true ∧ inR y (T 0 1) = true ∧ (x = nI 0 ∨ inR z (T 0 2) = true)
def lawR (T : zT) (S : zD) (x y z : Int32) : Int64 := (lawV T x.toNatClampNeg (nmV T S y.toNatClampNeg (if x = nI 0 then 0 else T 10 z.toNatClampNeg) (if x = nI 0 then 0 else S.2.2.1 1 z.toNatClampNeg))).getD (-9223372036854775808)
theorem pr_f {h : ai_H} : ¬ ¬ ((nI false.toNat, h) : Int32 × ai_H).1 = 0 := fun g => g rfl
theorem pr_t {h : ai_H} : ¬ ((nI true.toNat, h) : Int32 × ai_H).1 = 0 := fun g => absurd (show nI 1 = 0 from g) (by decide)
section Rd
variable {n t o p w : Nat} {s : zS} {A : zA} {x y z : Int32}
theorem c_fault (hn : 239 ≤ n) (hK : cK s t A) : fX10_fault n (mk s) 1 x = some (faultV (aF A) x, mk s) := by
  obtain ⟨f1, f2⟩ := hK.2.2.2.2.2.2.2.1
  unfold fX10_fault faultV
  by_cases h0 : x = nI 0
  · simp (disch := first | omega | assumption | (simp only [wL_1, wL_22, wI_2, wA_2, wQ_1, wQ_21] <;> first | assumption | omega)) only [LIT, LITm, nI_add, n_mul, fa_or, n_31m, n_shl0, n_le, n_lt, n_eq, Option.bind_some, B_K hn, B_rd hn, f1, h0, ↓reduceIte]
  · by_cases h1 : x = nI 1
    · simp (disch := first | omega | assumption | (simp only [wL_1, wL_22, wI_2, wA_2, wQ_1, wQ_21] <;> first | assumption | omega)) only [LIT, LITm, nI_add, n_mul, fa_or, n_31m, n_shl0, n_le, n_lt, n_eq, Option.bind_some, B_K hn, B_rd hn, f2, h1, Nat.reduceEqDiff, Nat.reduceLeDiff, ↓reduceIte]
    · simp (disch := first | omega | assumption | (simp only [wL_1, wL_22, wI_2, wA_2, wQ_1, wQ_21] <;> first | assumption | omega)) only [LIT, LITm, nI_add, n_mul, fa_or, n_31m, n_shl0, n_le, n_lt, n_eq, Option.bind_some, B_K hn, h0, h1, ↓reduceIte]
theorem m_fault (hn : 239 ≤ n) (hK : mK s A) : ∃ s' : zS, fX11_fault n (mk s) 187 x = some (faultV (aF A) x, mk s') ∧ frT s s' := by
  obtain ⟨f1, f2⟩ := hK.2.2.2.2.2.1
  refine ⟨wI s 187 2 (nI 0), ?_, m_th s⟩
  unfold fX11_fault faultV
  by_cases h0 : x = nI 0
  · simp (disch := first | omega | assumption | (simp only [wL_1, wL_22, wI_2, wA_2, wQ_1, wQ_21] <;> first | assumption | omega)) only [LIT, LITm, nI_add, n_mul, fa_or, n_31m, n_shl0, n_le, n_lt, n_eq, Option.bind_some, B_m hn, wI_at, upd_ne, f1, h0, not_true_eq_false, ↓reduceIte]
  · by_cases h1 : x = nI 1
    · simp (disch := first | omega | assumption | (simp only [wL_1, wL_22, wI_2, wA_2, wQ_1, wQ_21] <;> first | assumption | omega)) only [LIT, LITm, nI_add, n_mul, fa_or, n_31m, n_shl0, n_le, n_lt, n_eq, Option.bind_some, B_m hn, wI_at, upd_ne, f2, h1, Nat.reduceEqDiff, Nat.reduceLeDiff, not_true_eq_false, not_false_eq_true, ↓reduceIte]
    · simp (disch := first | omega | assumption | (simp only [wL_1, wL_22, wI_2, wA_2, wQ_1, wQ_21] <;> first | assumption | omega)) only [LIT, LITm, nI_add, n_mul, fa_or, n_31m, n_shl0, n_le, n_lt, n_eq, Option.bind_some, B_m hn, h0, h1, not_false_eq_true, ↓reduceIte]
theorem c_named (hn : 239 ≤ n) (hK : cK s t A) (hA : wfA A) : fX10_named n (mk s) 1 x y = some (namedV (aT A) x y, mk s) := by
  have ht := cK_t hK
  have h0 := hA.1.1
  have e3 := hK.2.1
  have hT := hK.2.2.1
  have q0 : fX6_find n (mk s) (t + 1) y = some (fdS (aT A 1) (aT A 0 0) y (aT A 0 0) 0, mk s) := by
    refine c_find (r := t + 2) ?_ ?_ ?_ (by omega) (fun i hi => ?_)
    · simp only [B_t hn ht]
    · simp only [B_t hn ht]
    · simp (disch := first | omega | assumption | (simp only [wL_1, wL_22, wI_2, wA_2, wQ_1, wQ_21] <;> first | assumption | omega)) only [B_t hn ht, CTp t (aT A)]
    · simp (disch := first | omega | assumption | (simp only [wL_1, wL_22, wI_2, wA_2, wQ_1, wQ_21] <;> first | assumption | omega)) only [B_t hn ht, hT.2.2.1 i hi]
  have q1 : fX6_find n (mk s) (t + 4) y = some (fdS (aT A 2) (aT A 0 1) y (aT A 0 1) 0, mk s) := by
    refine c_find (r := t + 5) ?_ ?_ ?_ (by omega) (fun i hi => ?_)
    · simp only [B_t hn ht]
    · simp only [B_t hn ht]
    · simp (disch := first | omega | assumption | (simp only [wL_1, wL_22, wI_2, wA_2, wQ_1, wQ_21] <;> first | assumption | omega)) only [B_t hn ht, CTp t (aT A)]
    · simp (disch := first | omega | assumption | (simp only [wL_1, wL_22, wI_2, wA_2, wQ_1, wQ_21] <;> first | assumption | omega)) only [B_t hn ht, (hT.2.2.2.1 i hi).1]
  have q2 : fX6_find n (mk s) (t + 7) y = some (fdS (aT A 8) (aT A 0 2) y (aT A 0 2) 0, mk s) := by
    refine c_find (r := t + 8) ?_ ?_ ?_ (by omega) (fun i hi => ?_)
    · simp only [B_t hn ht]
    · simp only [B_t hn ht]
    · simp (disch := first | omega | assumption | (simp only [wL_1, wL_22, wI_2, wA_2, wQ_1, wQ_21] <;> first | assumption | omega)) only [B_t hn ht, CTp t (aT A)]
    · simp (disch := first | omega | assumption | (simp only [wL_1, wL_22, wI_2, wA_2, wQ_1, wQ_21] <;> first | assumption | omega)) only [B_t hn ht, (hT.2.2.2.2.1 i hi).1]
  unfold fX10_named namedV
  by_cases h0 : x = nI 0
  · simp (disch := first | omega | assumption | (simp only [wL_1, wL_22, wI_2, wA_2, wQ_1, wQ_21] <;> first | assumption | omega)) only [LIT, LITm, nI_add, n_mul, fa_or, n_31m, n_shl0, n_le, n_lt, n_eq, Option.bind_some, B_K hn, e3, B_t hn ht, q0, h0, ↓reduceIte]
  · by_cases h1 : x = nI 1
    · simp (disch := first | omega | assumption | (simp only [wL_1, wL_22, wI_2, wA_2, wQ_1, wQ_21] <;> first | assumption | omega)) only [LIT, LITm, nI_add, n_mul, fa_or, n_31m, n_shl0, n_le, n_lt, n_eq, Option.bind_some, B_K hn, e3, B_t hn ht, q1, h1, Nat.reduceEqDiff, Nat.reduceLeDiff, ↓reduceIte]
    · by_cases h2 : x = nI 2
      · simp (disch := first | omega | assumption | (simp only [wL_1, wL_22, wI_2, wA_2, wQ_1, wQ_21] <;> first | assumption | omega)) only [LIT, LITm, nI_add, n_mul, fa_or, n_31m, n_shl0, n_le, n_lt, n_eq, Option.bind_some, B_K hn, e3, B_t hn ht, q2, h2, Nat.reduceEqDiff, Nat.reduceLeDiff, ↓reduceIte]
      · simp (disch := first | omega | assumption | (simp only [wL_1, wL_22, wI_2, wA_2, wQ_1, wQ_21] <;> first | assumption | omega)) only [LIT, LITm, nI_add, n_mul, fa_or, n_31m, n_shl0, n_le, n_lt, n_eq, Option.bind_some, B_K hn, h0, h1, h2, ↓reduceIte]
theorem m_find {a b m : Nat} {f : Nat → Nat} (hm : m < 1000) (hb : b < 1000) (hg : ∀ i, i < m → gX 1 n (mk s) a (nI (b + i)) = some (nI (f i))) : fX11_find n (mk s) a (nI b) (nI m) y = some (fdS f m y m 0, mk s) := by
  unfold fX11_find
  simp only [LIT]
  refine lp_up (F := fun k (_ : Unit) i => fX11_find_3 n k (mk s) a (nI b) (nI m) y (nI i)) (N := m) (P := fun i _ => fdS f m y m 0 = fdS f m y (m - i) i) (Q := fun r => r = some (fdS f m y m 0, mk s)) ?_ ?_ m bi_K () 0 (by omega) (by unfold bi_K; omega) rfl
  · intro k _ i hi hP
    obtain ⟨j, hj⟩ : ∃ j, m - i = j + 1 := ⟨m - i - 1, by omega⟩
    rw [hj] at hP
    by_cases h : nI (f i) = y
    · right
      rw [hP, fdS, if_pos h]
      simp (disch := first | omega | assumption | (simp only [wL_1, wL_22, wI_2, wA_2, wQ_1, wQ_21] <;> first | assumption | omega)) only [fX11_find_3, fX11_find_3b, LIT, LITm, nI_add, n_mul, fa_or, n_31m, n_shl0, n_le, n_lt, n_eq, Option.bind_some, hg, h, not_true_eq_false, show ¬ m ≤ i by omega, ↓reduceIte]
    · left
      refine ⟨(), ?_, ?_⟩
      · simp (disch := first | omega | assumption | (simp only [wL_1, wL_22, wI_2, wA_2, wQ_1, wQ_21] <;> first | assumption | omega)) only [fX11_find_3, fX11_find_3b, LIT, LITm, nI_add, n_mul, fa_or, n_31m, n_shl0, n_le, n_lt, n_eq, Option.bind_some, hg, h, not_false_eq_true, show ¬ m ≤ i by omega, ↓reduceIte]
      · rw [hP, fdS, if_neg h, show m - (i + 1) = j by omega]
  · intro k _ hP
    rw [hP, Nat.sub_self, fdS]
    simp (disch := first | omega | assumption | (simp only [wL_1, wL_22, wI_2, wA_2, wQ_1, wQ_21] <;> first | assumption | omega)) only [fX11_find_3, fX11_find_3b, LIT, LITm, nI_add, n_mul, fa_or, n_31m, n_shl0, n_le, n_lt, n_eq, Option.bind_some, Nat.le_refl, ↓reduceIte]
theorem m_named (hn : 239 ≤ n) (hK : mK s A) (hA : wfA A) : ∃ s' : zS, fX11_named n (mk s) 187 x y = some (namedV (aT A) x y, mk s') ∧ frT s s' := by
  have h0 := hA.1.1
  have ft := m_th s
  have hT := mTd_T ft.1 hK.1
  refine ⟨wI s 187 2 (nI 0), ?_, ft⟩
  have q0 : fX11_find n (mk (wI s 187 2 (nI 0))) 192 (nI 0) (nI (aT A 0 0)) y = some (fdS (aT A 1) (aT A 0 0) y (aT A 0 0) 0, mk (wI s 187 2 (nI 0))) := m_find (by omega) (by omega) (fun i hi => by rw [Nat.zero_add]; simp (disch := first | omega | assumption | (simp only [wL_1, wL_22, wI_2, wA_2, wQ_1, wQ_21] <;> first | assumption | omega)) only [B_ma hn, hT.2.2.1 i hi])
  have q1 : fX11_find n (mk (wI s 187 2 (nI 0))) 193 (nI 0) (nI (aT A 0 1)) y = some (fdS (aT A 2) (aT A 0 1) y (aT A 0 1) 0, mk (wI s 187 2 (nI 0))) := m_find (by omega) (by omega) (fun i hi => by rw [Nat.zero_add]; simp (disch := first | omega | assumption | (simp only [wL_1, wL_22, wI_2, wA_2, wQ_1, wQ_21] <;> first | assumption | omega)) only [B_ma hn, (hT.2.2.2.1 i hi).1])
  have q2 : fX11_find n (mk (wI s 187 2 (nI 0))) 199 (nI 0) (nI (aT A 0 2)) y = some (fdS (aT A 8) (aT A 0 2) y (aT A 0 2) 0, mk (wI s 187 2 (nI 0))) := m_find (by omega) (by omega) (fun i hi => by rw [Nat.zero_add]; simp (disch := first | omega | assumption | (simp only [wL_1, wL_22, wI_2, wA_2, wQ_1, wQ_21] <;> first | assumption | omega)) only [B_ma hn, (hT.2.2.2.2.1 i hi).1])
  unfold fX11_named namedV
  by_cases h0 : x = nI 0
  · simp (disch := first | omega | assumption | (simp only [wL_1, wL_22, wI_2, wA_2, wQ_1, wQ_21] <;> first | assumption | omega)) only [LIT, LITm, nI_add, n_mul, fa_or, n_31m, n_shl0, n_le, n_lt, n_eq, Option.bind_some, B_m hn, MTp (aT A), q0, h0, ↓reduceIte]
  · by_cases h1 : x = nI 1
    · simp (disch := first | omega | assumption | (simp only [wL_1, wL_22, wI_2, wA_2, wQ_1, wQ_21] <;> first | assumption | omega)) only [LIT, LITm, nI_add, n_mul, fa_or, n_31m, n_shl0, n_le, n_lt, n_eq, Option.bind_some, B_m hn, MTp (aT A), q1, h1, Nat.reduceEqDiff, Nat.reduceLeDiff, ↓reduceIte]
    · by_cases h2 : x = nI 2
      · simp (disch := first | omega | assumption | (simp only [wL_1, wL_22, wI_2, wA_2, wQ_1, wQ_21] <;> first | assumption | omega)) only [LIT, LITm, nI_add, n_mul, fa_or, n_31m, n_shl0, n_le, n_lt, n_eq, Option.bind_some, B_m hn, MTp (aT A), q2, h2, Nat.reduceEqDiff, Nat.reduceLeDiff, ↓reduceIte]
      · simp (disch := first | omega | assumption | (simp only [wL_1, wL_22, wI_2, wA_2, wQ_1, wQ_21] <;> first | assumption | omega)) only [LIT, LITm, nI_add, n_mul, fa_or, n_31m, n_shl0, n_le, n_lt, n_eq, Option.bind_some, B_m hn, h0, h1, h2, ↓reduceIte]
theorem c_pathX (hn : 239 ≤ n) (hK : cK s t A) (hA : wfA A) (hx : ¬ inR x (aT A 0 1) = true) : fX10_path n (mk s) 1 x y = some (.inr 1, mk s) := by
  unfold fX10_path
  rw [bnd_s (v := ()) (by simp only [B_K hn]), bnd_s (c_isPath hn hK hA), bF hx, if_neg pr_f]
theorem c_path (hn : 239 ≤ n) (hK : cK s t A) (hA : wfA A) (hp : p < aT A 0 1) : fX10_path n (mk s) 1 (nI p) y = some ((pathV (aT A) (aS A) p y).elim (.inr 2) .inl, mk s) := by
  have ht := cK_t hK
  have hW := hA.1
  have h0 := hW.1
  have hT := hK.2.2.1
  have e3 := hK.2.1
  obtain ⟨⟨s1, s2, s3, s4, s5⟩, s6, s7⟩ := hK.2.2.2.1
  obtain ⟨q1, q2⟩ := s6 p hp
  have hp9 : p < 9 := by omega
  have K := c_isKept (p := p) hn is_52 s5 (wD_k hW hA.2.1) hp9
  have hb := c_bull hn ht hW hT hp (d := (aS A).1 0)
  unfold fX10_path pathV
  rw [bnd_s (v := ()) (by simp only [B_K hn]), bnd_s (c_isPath hn hK hA), inR_n hp (by omega), if_pos pr_t]
  by_cases h0 : y = nI 0
  · rw [if_pos h0, if_pos (show y = 0 from h0)]
    simp (disch := first | omega | assumption | (simp only [wL_1, wL_22, wI_2, wA_2, wQ_1, wQ_21] <;> first | assumption | omega)) only [LIT, LITm, nI_add, n_mul, fa_or, n_31m, n_shl0, n_le, n_lt, n_eq, Option.bind_some, B_K hn, e3, B_t hn ht, CT hn ht hW, Option.elim_some]
  · rw [if_neg h0, if_neg (show ¬ y = 0 from h0)]
    by_cases h1 : y = nI 1
    · rw [if_pos h1, if_pos (show y = 1 from h1)]
      simp (disch := first | omega | assumption | (simp only [wL_1, wL_22, wI_2, wA_2, wQ_1, wQ_21] <;> first | assumption | omega)) only [LIT, LITm, nI_add, n_mul, fa_or, n_31m, n_shl0, n_le, n_lt, n_eq, Option.bind_some, B_K hn, e3, B_t hn ht, CT hn ht hW, Option.elim_some]
    · rw [if_neg h1, if_neg (show ¬ y = 1 from h1)]
      by_cases h2 : y = nI 2
      · rw [if_pos h2, if_pos (show y = 2 from h2)]
        simp (disch := first | omega | assumption | (simp only [wL_1, wL_22, wI_2, wA_2, wQ_1, wQ_21] <;> first | assumption | omega)) only [LIT, LITm, nI_add, n_mul, fa_or, n_31m, n_shl0, n_le, n_lt, n_eq, Option.bind_some, B_K hn, e3, B_t hn ht, CT hn ht hW, Option.elim_some]
      · rw [if_neg h2, if_neg (show ¬ y = 2 from h2)]
        by_cases h3 : y = nI 3
        · rw [if_pos h3, if_pos (show y = 3 from h3)]
          simp (disch := first | omega | assumption | (simp only [wL_1, wL_22, wI_2, wA_2, wQ_1, wQ_21] <;> first | assumption | omega)) only [LIT, LITm, nI_add, n_mul, fa_or, n_31m, n_shl0, n_le, n_lt, n_eq, Option.bind_some, B_K hn, e3, B_t hn ht, CT hn ht hW, Option.elim_some]
        · rw [if_neg h3, if_neg (show ¬ y = 3 from h3)]
          by_cases h4 : y = nI 4
          · rw [if_pos h4, if_pos (show y = 4 from h4)]
            simp (disch := first | omega | assumption | (simp only [wL_1, wL_22, wI_2, wA_2, wQ_1, wQ_21] <;> first | assumption | omega)) only [LIT, LITm, nI_add, n_mul, fa_or, n_31m, n_shl0, n_le, n_lt, n_eq, Option.bind_some, B_K hn, B_s hn is_52, q1, Option.elim_some]
          · rw [if_neg h4, if_neg (show ¬ y = 4 from h4)]
            by_cases h5 : y = nI 5
            · rw [if_pos h5, if_pos (show y = 5 from h5)]
              cases g : (aS A).2.2.2.1.testBit p with
              | true =>
                rw [g] at K
                simp (disch := first | omega | assumption | (simp only [wL_1, wL_22, wI_2, wA_2, wQ_1, wQ_21] <;> first | assumption | omega)) only [LIT, LITm, nI_add, n_mul, fa_or, n_31m, n_shl0, n_le, n_lt, n_eq, Option.bind_some, B_K hn, K, Option.elim_some, Bool.toNat_true, Nat.reduceEqDiff, Nat.reduceLeDiff, ↓reduceIte]
              | false =>
                rw [g] at K
                simp (disch := first | omega | assumption | (simp only [wL_1, wL_22, wI_2, wA_2, wQ_1, wQ_21] <;> first | assumption | omega)) only [LIT, LITm, nI_add, n_mul, fa_or, n_31m, n_shl0, n_le, n_lt, n_eq, Option.bind_some, B_K hn, K, Option.elim_some, Bool.toNat_false, ↓reduceIte]
            · rw [if_neg h5, if_neg (show ¬ y = 5 from h5)]
              by_cases h6 : y = nI 6
              · rw [if_pos h6, if_pos (show y = 6 from h6)]
                simp (disch := first | omega | assumption | (simp only [wL_1, wL_22, wI_2, wA_2, wQ_1, wQ_21] <;> first | assumption | omega)) only [LIT, LITm, nI_add, n_mul, fa_or, n_31m, n_shl0, n_le, n_lt, n_eq, Option.bind_some, B_K hn, B_s hn is_52, q2, Option.elim_some]
              · rw [if_neg h6, if_neg (show ¬ y = 6 from h6)]
                by_cases h7 : y = nI 7
                · rw [if_pos h7, if_pos (show y = 7 from h7)]
                  cases g : bullV (aT A) p ((aS A).1 0) (aT A 0 4) with
                  | true =>
                    rw [g] at hb
                    simp (disch := first | omega | assumption | (simp only [wL_1, wL_22, wI_2, wA_2, wQ_1, wQ_21] <;> first | assumption | omega)) only [LIT, LITm, nI_add, n_mul, fa_or, n_31m, n_shl0, n_le, n_lt, n_eq, Option.bind_some, B_K hn, e3, B_s hn is_52, s1, hb, Option.elim_some, Bool.toNat_true, Nat.reduceEqDiff, Nat.reduceLeDiff, ↓reduceIte]
                  | false =>
                    rw [g] at hb
                    simp (disch := first | omega | assumption | (simp only [wL_1, wL_22, wI_2, wA_2, wQ_1, wQ_21] <;> first | assumption | omega)) only [LIT, LITm, nI_add, n_mul, fa_or, n_31m, n_shl0, n_le, n_lt, n_eq, Option.bind_some, B_K hn, e3, B_s hn is_52, s1, hb, Option.elim_some, Bool.toNat_false, ↓reduceIte]
                · rw [if_neg h7, if_neg (show ¬ y = 7 from h7)]
                  rfl
theorem m_pathX (hn : 239 ≤ n) (hK : mK s A) (hA : wfA A) (hx : ¬ inR x (aT A 0 1) = true) : ∃ s' : zS, fX11_path n (mk s) 187 x y = some (nI 0, mk s') ∧ frT s s' ∧ s'.1 187 2 = nI 1 := by
  have ft := m_th s
  have hT := mTd_T ft.1 hK.1
  refine ⟨wI (wI s 187 2 (nI 0)) 187 2 (nI 1), ?_, frT_t ft (frT_w (by unfold scM; omega)), by rw [wI_at, upd_at]⟩
  unfold fX11_path fX11_fails
  rw [bnd_s (v := ()) (by simp only [B_m hn]), bnd_s (v := mk (wI s 187 2 (nI 0))) (by simp only [B_m hn]; rfl), bnd_s (m_isPath hn hT), bF hx, if_neg pr_f]
  simp (disch := first | omega | assumption | (simp only [wL_1, wL_22, wI_2, wA_2, wQ_1, wQ_21] <;> first | assumption | omega)) only [LIT, LITm, nI_add, n_mul, fa_or, n_31m, n_shl0, n_le, n_lt, n_eq, Option.bind_some, B_m hn]
theorem m_path (hn : 239 ≤ n) (hK : mK s A) (hA : wfA A) (hp : p < aT A 0 1) : ∃ s' : zS, fX11_path n (mk s) 187 (nI p) y = some ((pathV (aT A) (aS A) p y).getD (nI 0), mk s') ∧ frT s s' ∧ s'.1 187 2 = nI (if (pathV (aT A) (aS A) p y).isSome = true then 0 else 2) := by
  have hW := hA.1
  have h0 := hW.1
  have ft := m_th s
  have hT := mTd_T ft.1 hK.1
  obtain ⟨sa, ea, fa, ga, ca, oa, pl⟩ := m_plain (T := aT A) (s := wI s 187 2 (nI 0)) hn hW
  have fall := frT_t ft fa
  have hKa := mK_T hW hK fall
  have hTa := hKa.1
  obtain ⟨⟨s1, s2, s3, s4⟩, s5, s6⟩ := hKa.2.1
  obtain ⟨q1, q2, q3⟩ := s5 p hp
  simp only [Nat.mul_zero, Nat.zero_add] at q1 q2 q3
  have hp9 : p < 9 := by omega
  have hb := m_bull (p := p) hn hW hTa oa (by omega) hp9 s1
  have hb' : fX11_hasBull n (mk sa) 187 (nI 0) (nI p) = some (nI (bullV (aT A) p ((aS A).1 0) (aT A 0 4)).toNat, mk sa) := by
    rw [hb]
    rfl
  have a2 : sa.1 187 2 = nI 0 := by
    rw [pl.2.2 2 (by omega), wI_at, upd_at]
  unfold fX11_path fX11_fails pathV
  rw [bnd_s (v := ()) (by simp only [B_m hn]), bnd_s (v := mk (wI s 187 2 (nI 0))) (by simp only [B_m hn]; rfl), bnd_s (m_isPath hn hT), inR_n hp (by omega), if_pos pr_t, bnd_s ea]
  by_cases h0 : y = nI 0
  · rw [if_pos h0, if_pos (show y = 0 from h0)]
    refine ⟨sa, ?_, fall, a2⟩
    simp (disch := first | omega | assumption | (simp only [wL_1, wL_22, wI_2, wA_2, wQ_1, wQ_21] <;> first | assumption | omega)) only [LIT, LITm, nI_add, n_mul, fa_or, n_31m, n_shl0, n_le, n_lt, n_eq, Option.bind_some, B_m hn, B_ma hn, MTp (aT A), Option.getD_some]
  · rw [if_neg h0, if_neg (show ¬ y = 0 from h0)]
    by_cases h1 : y = nI 1
    · rw [if_pos h1, if_pos (show y = 1 from h1)]
      refine ⟨sa, ?_, fall, a2⟩
      simp (disch := first | omega | assumption | (simp only [wL_1, wL_22, wI_2, wA_2, wQ_1, wQ_21] <;> first | assumption | omega)) only [LIT, LITm, nI_add, n_mul, fa_or, n_31m, n_shl0, n_le, n_lt, n_eq, Option.bind_some, B_m hn, B_ma hn, MTp (aT A), Option.getD_some]
    · rw [if_neg h1, if_neg (show ¬ y = 1 from h1)]
      by_cases h2 : y = nI 2
      · rw [if_pos h2, if_pos (show y = 2 from h2)]
        refine ⟨sa, ?_, fall, a2⟩
        simp (disch := first | omega | assumption | (simp only [wL_1, wL_22, wI_2, wA_2, wQ_1, wQ_21] <;> first | assumption | omega)) only [LIT, LITm, nI_add, n_mul, fa_or, n_31m, n_shl0, n_le, n_lt, n_eq, Option.bind_some, B_m hn, B_ma hn, MTp (aT A), Option.getD_some]
      · rw [if_neg h2, if_neg (show ¬ y = 2 from h2)]
        by_cases h3 : y = nI 3
        · rw [if_pos h3, if_pos (show y = 3 from h3)]
          refine ⟨sa, ?_, fall, a2⟩
          simp (disch := first | omega | assumption | (simp only [wL_1, wL_22, wI_2, wA_2, wQ_1, wQ_21] <;> first | assumption | omega)) only [LIT, LITm, nI_add, n_mul, fa_or, n_31m, n_shl0, n_le, n_lt, n_eq, Option.bind_some, B_m hn, B_ma hn, MTp (aT A), Option.getD_some]
        · rw [if_neg h3, if_neg (show ¬ y = 3 from h3)]
          by_cases h4 : y = nI 4
          · rw [if_pos h4, if_pos (show y = 4 from h4)]
            refine ⟨sa, ?_, fall, a2⟩
            simp (disch := first | omega | assumption | (simp only [wL_1, wL_22, wI_2, wA_2, wQ_1, wQ_21] <;> first | assumption | omega)) only [LIT, LITm, nI_add, n_mul, fa_or, n_31m, n_shl0, n_le, n_lt, n_eq, Option.bind_some, B_m hn, B_mb hn, q1, Option.getD_some]
          · rw [if_neg h4, if_neg (show ¬ y = 4 from h4)]
            by_cases h5 : y = nI 5
            · rw [if_pos h5, if_pos (show y = 5 from h5)]
              refine ⟨sa, ?_, fall, a2⟩
              cases g : (aS A).2.2.2.1.testBit p with
              | true =>
                rw [g] at q2
                simp (disch := first | omega | assumption | (simp only [wL_1, wL_22, wI_2, wA_2, wQ_1, wQ_21] <;> first | assumption | omega)) only [LIT, LITm, nI_add, n_mul, fa_or, n_31m, n_shl0, n_le, n_lt, n_eq, Option.bind_some, B_m hn, B_mb hn, q2, Option.getD_some, Bool.toNat_true, Nat.reduceEqDiff, Nat.reduceLeDiff, ↓reduceIte]
              | false =>
                rw [g] at q2
                simp (disch := first | omega | assumption | (simp only [wL_1, wL_22, wI_2, wA_2, wQ_1, wQ_21] <;> first | assumption | omega)) only [LIT, LITm, nI_add, n_mul, fa_or, n_31m, n_shl0, n_le, n_lt, n_eq, Option.bind_some, B_m hn, B_mb hn, q2, Option.getD_some, Bool.toNat_false, ↓reduceIte]
            · rw [if_neg h5, if_neg (show ¬ y = 5 from h5)]
              by_cases h6 : y = nI 6
              · rw [if_pos h6, if_pos (show y = 6 from h6)]
                refine ⟨sa, ?_, fall, a2⟩
                simp (disch := first | omega | assumption | (simp only [wL_1, wL_22, wI_2, wA_2, wQ_1, wQ_21] <;> first | assumption | omega)) only [LIT, LITm, nI_add, n_mul, fa_or, n_31m, n_shl0, n_le, n_lt, n_eq, Option.bind_some, B_m hn, B_mb hn, q3, Option.getD_some]
              · rw [if_neg h6, if_neg (show ¬ y = 6 from h6)]
                by_cases h7 : y = nI 7
                · rw [if_pos h7, if_pos (show y = 7 from h7)]
                  refine ⟨sa, ?_, fall, a2⟩
                  cases g : bullV (aT A) p ((aS A).1 0) (aT A 0 4) with
                  | true =>
                    rw [g] at hb'
                    simp (disch := first | omega | assumption | (simp only [wL_1, wL_22, wI_2, wA_2, wQ_1, wQ_21] <;> first | assumption | omega)) only [LIT, LITm, nI_add, n_mul, fa_or, n_31m, n_shl0, n_le, n_lt, n_eq, Option.bind_some, hb', Option.getD_some, Bool.toNat_true, Nat.reduceEqDiff, Nat.reduceLeDiff, ↓reduceIte]
                  | false =>
                    rw [g] at hb'
                    simp (disch := first | omega | assumption | (simp only [wL_1, wL_22, wI_2, wA_2, wQ_1, wQ_21] <;> first | assumption | omega)) only [LIT, LITm, nI_add, n_mul, fa_or, n_31m, n_shl0, n_le, n_lt, n_eq, Option.bind_some, hb', Option.getD_some, Bool.toNat_false, ↓reduceIte]
                · rw [if_neg h7, if_neg (show ¬ y = 7 from h7)]
                  refine ⟨wI sa 187 2 (nI 2), ?_, frT_t fall (frT_w (by unfold scM; omega)), by rw [wI_at, upd_at]; rfl⟩
                  simp (disch := first | omega | assumption | (simp only [wL_1, wL_22, wI_2, wA_2, wQ_1, wQ_21] <;> first | assumption | omega)) only [LIT, LITm, nI_add, n_mul, fa_or, n_31m, n_shl0, n_le, n_lt, n_eq, Option.bind_some, B_m hn, Option.getD_none]
theorem c_bits (hn : 239 ≤ n) (hK : cK s t A) (hA : wfA A) (hw : w < aT A 0 2) : ∃ s' : zS, fX10_pathsHeCanGo n (mk s) 1 (nI w) = some (nI (goB (fun p => (canV (aT A) (O0 (aT A) 0) (aS A) w p).isSome) (aT A 0 1)), mk s') ∧ frS s s' := by
  have ht := cK_t hK
  have hW := hA.1
  have h0 := hW.1
  have e3 := hK.2.1
  obtain ⟨sa, ea, fa, ha⟩ := c_begin (b := 0) hn ht is_52 hW hK.2.2.1
  have hTa : cTd sa.1 t (aT A) := cTd_fr hK.2.2.1 (fun a h1 h2 => fa.1 a (by omega) (by omega))
  have hSa : cSd sa.1 52 (aT A) (aS A) := cSd_fr hK.2.2.2.1 (fun a h1 h2 => fa.1 a (by omega) (by omega))
  unfold fX10_pathsHeCanGo
  simp (disch := first | omega | assumption | (simp only [wL_1, wL_22, wI_2, wA_2, wQ_1, wQ_21] <;> first | assumption | omega)) only [LIT, LITm, nI_add, n_mul, fa_or, n_31m, n_shl0, n_le, n_lt, n_eq, Option.bind_some, B_K hn, e3, ea]
  refine lp_up (F := fun k (q : zS × Nat) i => fX10_pathsHeCanGo_20 n k (mk q.1) 1 (nI w) (nI q.2) (nI i)) (N := aT A 0 1) (P := fun i q => frL t sa q.1 ∧ q.2 = goB (fun p => (canV (aT A) (O0 (aT A) 0) (aS A) w p).isSome) i) (Q := fun r => ∃ s' : zS, r = some (nI (goB (fun p => (canV (aT A) (O0 (aT A) 0) (aS A) w p).isSome) (aT A 0 1)), mk s') ∧ frS s s') ?_ ?_ (aT A 0 1) bi_K (sa, 0) 0 (by omega) (by unfold bi_K; omega) ⟨frL_r, rfl⟩
  · intro k q i hi hP
    obtain ⟨sy, c⟩ := q
    obtain ⟨f, hc⟩ := hP
    simp only at f hc ⊢
    left
    have hTy : cTd sy.1 t (aT A) := by rw [f.1]; exact hTa
    have hSy : cSd sy.1 52 (aT A) (aS A) := by rw [f.1]; exact hSa
    have hOy := cOd_D is_52 (frL_D f) ha
    have e3y : sy.2.2 1 3 = t := by rw [f.2.1, fa.2.2 1 (by omega)]; exact e3
    have c1 : sy.1 (t + 4) 4 = nI (aT A 0 1) := (CTp t (aT A)).2.1 sy hTy
    obtain ⟨sz, ez, fz⟩ := c_cost hn ht is_52 hW hTy hOy hSy (O0_w hW (by omega)) hA.2.1 hi hw
    cases g : canV (aT A) (O0 (aT A) 0) (aS A) w i with
    | none =>
      rw [g] at ez
      refine ⟨(sz, c), ?_, frL_t f fz, ?_⟩
      · simp (disch := first | omega | assumption | (simp only [wL_1, wL_22, wI_2, wA_2, wQ_1, wQ_21] <;> first | assumption | omega)) only [fX10_pathsHeCanGo_20, fX10_pathsHeCanGo_20b, fX10_pathsHeCanGo_52, LIT, LITm, nI_add, n_mul, fa_or, n_31m, n_shl0, n_le, n_lt, n_eq, Option.bind_some, B_K hn, e3y, B_t hn ht, c1, ez, Option.elim_none, n_m1lt, show ¬ aT A 0 1 ≤ i by omega, ↓reduceIte]
      · rw [hc]
        simp [goB, g]
    | some v =>
      rw [g] at ez
      have hv := canV_le g
      have hl := (hA.2.1.2.2.1 w hw).2
      refine ⟨(sz, c ||| 2 ^ i), ?_, frL_t f fz, ?_⟩
      · simp (disch := first | omega | assumption | (simp only [wL_1, wL_22, wI_2, wA_2, wQ_1, wQ_21] <;> first | assumption | omega)) only [fX10_pathsHeCanGo_20, fX10_pathsHeCanGo_20b, fX10_pathsHeCanGo_52, LIT, LITm, nI_add, n_mul, fa_or, n_31m, n_shl0, n_le, n_lt, n_eq, Option.bind_some, B_K hn, e3y, B_t hn ht, c1, ez, Option.elim_some, Nat.not_lt_zero, show ¬ aT A 0 1 ≤ i by omega, ↓reduceIte]
      · rw [hc]
        simp [goB, g]
  · intro k q hP
    obtain ⟨sy, c⟩ := q
    obtain ⟨f, hc⟩ := hP
    simp only at f hc ⊢
    have hTy : cTd sy.1 t (aT A) := by rw [f.1]; exact hTa
    have e3y : sy.2.2 1 3 = t := by rw [f.2.1, fa.2.2 1 (by omega)]; exact e3
    have c1 : sy.1 (t + 4) 4 = nI (aT A 0 1) := (CTp t (aT A)).2.1 sy hTy
    refine ⟨sy, ?_, frS_t (frB_S fa) (frL_S ht f)⟩
    simp (disch := first | omega | assumption | (simp only [wL_1, wL_22, wI_2, wA_2, wQ_1, wQ_21] <;> first | assumption | omega)) only [fX10_pathsHeCanGo_20, fX10_pathsHeCanGo_20b, LIT, LITm, nI_add, n_mul, fa_or, n_31m, n_shl0, n_le, n_lt, n_eq, Option.bind_some, B_K hn, e3y, B_t hn ht, c1, hc, Nat.le_refl, ↓reduceIte]
theorem c_walker (hn : 239 ≤ n) (hK : cK s t A) (hA : wfA A) : ∃ s' : zS, fX10_walker n (mk s) 1 x y = some (if inR x (aT A 0 2) = true then walkerV (aT A) (aS A) x.toNatClampNeg y else m1, mk s') ∧ frS s s' := by
  have ht := cK_t hK
  have hW := hA.1
  have h0 := hW.1
  have hT := hK.2.2.1
  have e3 := hK.2.1
  by_cases hx : inR x (aT A 0 2) = true
  · rw [if_pos hx]
    obtain ⟨w, hw, rfl⟩ := inR_t (by omega) hx
    rw [cl_n (by omega)]
    obtain ⟨⟨s1, s2, s3, s4, s5⟩, s6, s7⟩ := hK.2.2.2.1
    obtain ⟨q1, q2⟩ := s7 w hw
    have hw4 : w < 4 := by omega
    unfold fX10_walker walkerV
    rw [bnd_s (v := ()) (by simp only [B_K hn]), bnd_s (c_isWalker hn hK hA), hx, if_pos pr_t]
    by_cases h0 : y = nI 0
    · rw [if_pos h0, if_pos (show y = 0 from h0)]
      refine ⟨s, ?_, frS_r⟩
      simp (disch := first | omega | assumption | (simp only [wL_1, wL_22, wI_2, wA_2, wQ_1, wQ_21] <;> first | assumption | omega)) only [LIT, LITm, nI_add, n_mul, fa_or, n_31m, n_shl0, n_le, n_lt, n_eq, Option.bind_some, B_K hn, B_s hn is_52, q1]
    · rw [if_neg h0, if_neg (show ¬ y = 0 from h0)]
      by_cases h1 : y = nI 1
      · rw [if_pos h1, if_pos (show y = 1 from h1)]
        refine ⟨s, ?_, frS_r⟩
        simp (disch := first | omega | assumption | (simp only [wL_1, wL_22, wI_2, wA_2, wQ_1, wQ_21] <;> first | assumption | omega)) only [LIT, LITm, nI_add, n_mul, fa_or, n_31m, n_shl0, n_le, n_lt, n_eq, Option.bind_some, B_K hn, e3, B_t hn ht, CT hn ht hW]
      · rw [if_neg h1, if_neg (show ¬ y = 1 from h1)]
        by_cases h2 : y = nI 2
        · rw [if_pos h2, if_pos (show y = 2 from h2)]
          refine ⟨s, ?_, frS_r⟩
          simp (disch := first | omega | assumption | (simp only [wL_1, wL_22, wI_2, wA_2, wQ_1, wQ_21] <;> first | assumption | omega)) only [LIT, LITm, nI_add, n_mul, fa_or, n_31m, n_shl0, n_le, n_lt, n_eq, Option.bind_some, B_K hn, e3, B_t hn ht, CT hn ht hW]
        · rw [if_neg h2, if_neg (show ¬ y = 2 from h2)]
          by_cases h3 : y = nI 3
          · rw [if_pos h3, if_pos (show y = 3 from h3)]
            refine ⟨s, ?_, frS_r⟩
            simp (disch := first | omega | assumption | (simp only [wL_1, wL_22, wI_2, wA_2, wQ_1, wQ_21] <;> first | assumption | omega)) only [LIT, LITm, nI_add, n_mul, fa_or, n_31m, n_shl0, n_le, n_lt, n_eq, Option.bind_some, B_K hn, B_s hn is_52, q2]
          · rw [if_neg h3, if_neg (show ¬ y = 3 from h3)]
            by_cases h4 : y = nI 4
            · rw [if_pos h4, if_pos (show y = 4 from h4)]
              obtain ⟨sa, ea, fa⟩ := c_bits hn hK hA hw
              refine ⟨sa, ?_, fa⟩
              simp (disch := first | omega | assumption | (simp only [wL_1, wL_22, wI_2, wA_2, wQ_1, wQ_21] <;> first | assumption | omega)) only [LIT, LITm, nI_add, n_mul, fa_or, n_31m, n_shl0, n_le, n_lt, n_eq, Option.bind_some, ea]
            · rw [if_neg h4, if_neg (show ¬ y = 4 from h4)]
              exact ⟨s, rfl, frS_r⟩
  · rw [if_neg hx]
    refine ⟨s, ?_, frS_r⟩
    unfold fX10_walker
    rw [bnd_s (v := ()) (by simp only [B_K hn]), bnd_s (c_isWalker hn hK hA), bF hx, if_neg pr_f]
    rfl
theorem m_walker (hn : 239 ≤ n) (hK : mK s A) (hA : wfA A) : ∃ s' : zS, fX11_walker n (mk s) 187 x y = some (if inR x (aT A 0 2) = true then walkerV (aT A) (aS A) x.toNatClampNeg y else m1, mk s') ∧ frT s s' := by
  have hW := hA.1
  have h0 := hW.1
  have ft := m_th s
  have hT := mTd_T ft.1 hK.1
  by_cases hx : inR x (aT A 0 2) = true
  · rw [if_pos hx]
    obtain ⟨w, hw, rfl⟩ := inR_t (by omega) hx
    rw [cl_n (by omega)]
    obtain ⟨sa, ea, fa, ga, ca, oa, pl⟩ := m_plain (T := aT A) (s := wI s 187 2 (nI 0)) hn hW
    have fall := frT_t ft fa
    have hw4 : w < 4 := by omega
    unfold fX11_walker
    rw [bnd_s (v := ()) (by simp only [B_m hn]), bnd_s (v := mk (wI s 187 2 (nI 0))) (by simp only [B_m hn]; rfl), bnd_s (m_isWalker hn hT), hx, if_pos pr_t, bnd_s ea]
    refine lp_up (F := fun k (q : zS × Nat) i => fX11_walker_24 n k (mk q.1) 187 (nI w) y (nI q.2) (nI i)) (N := aT A 0 1) (P := fun i q => frQ sa q.1 ∧ q.2 = goB (fun p => (canV (aT A) (O0 (aT A) 0) (aS A) w p).isSome) i) (Q := fun r => ∃ s' : zS, r = some (walkerV (aT A) (aS A) w y, mk s') ∧ frT s s') ?_ ?_ (aT A 0 1) bi_K (sa, 0) 0 (by omega) (by unfold bi_K; omega) ⟨frQ_r, rfl⟩
    · intro k q i hi hP
      obtain ⟨sy, c⟩ := q
      obtain ⟨f, hc⟩ := hP
      simp only at f hc ⊢
      left
      have hKy := mK_T hW hK (frT_t fall (frQ_T f))
      have hOy : mOd sy.1 (aT A) (O0 (aT A) 1) := mOd_fr oa (fun j h1 h2 => f.2.1 _ _ (by omega))
      obtain ⟨sz, ez, fz⟩ := m_can hn hW hKy.1 hOy (mSd_O hKy.2.1) (O0_w hW (by omega)) hA.2.1 (by omega) hi hw
      have ec : canV (aT A) (O0 (aT A) 1) (aS A) w i = canV (aT A) (O0 (aT A) 0) (aS A) w i := rfl
      rw [ec] at ez
      cases g : (canV (aT A) (O0 (aT A) 0) (aS A) w i).isSome with
      | false =>
        rw [g] at ez
        refine ⟨(sz, c), ?_, frQ_t f fz, ?_⟩
        · simp (disch := first | omega | assumption | (simp only [wL_1, wL_22, wI_2, wA_2, wQ_1, wQ_21] <;> first | assumption | omega)) only [fX11_walker_24, fX11_walker_24b, fX11_walker_53, LIT, LITm, nI_add, n_mul, fa_or, n_31m, n_shl0, n_le, n_lt, n_eq, Option.bind_some, B_m hn, hKy.1.1.2.1, ez, Bool.toNat_false, show ¬ aT A 0 1 ≤ i by omega, ↓reduceIte, Nat.or_zero]
        · rw [hc]
          simp [goB, g]
      | true =>
        rw [g] at ez
        refine ⟨(sz, c ||| 2 ^ i), ?_, frQ_t f fz, ?_⟩
        · simp (disch := first | omega | assumption | (simp only [wL_1, wL_22, wI_2, wA_2, wQ_1, wQ_21] <;> first | assumption | omega)) only [fX11_walker_24, fX11_walker_24b, fX11_walker_53, LIT, LITm, nI_add, n_mul, fa_or, n_31m, n_shl0, n_le, n_lt, n_eq, Option.bind_some, B_m hn, hKy.1.1.2.1, ez, Bool.toNat_true, Nat.reduceEqDiff, Nat.reduceLeDiff, show ¬ aT A 0 1 ≤ i by omega, ↓reduceIte]
        · rw [hc]
          simp [goB, g]
    · intro k q hP
      obtain ⟨sy, c⟩ := q
      obtain ⟨f, hc⟩ := hP
      simp only at f hc ⊢
      have fY := frT_t fall (frQ_T f)
      have hKy := mK_T hW hK fY
      obtain ⟨q1, q2⟩ := hKy.2.1.2.2 w hw
      simp only [Nat.mul_zero, Nat.zero_add] at q1 q2
      have r1 := (MTp (aT A)).2.2.2.2.2.2.2.2.2.2.2.2.2.2.2.1 sy w hKy.1 hw
      have r2 := (MTp (aT A)).2.2.2.2.2.2.2.2.2.2.2.2.2.2.2.2.1 sy w hKy.1 hw
      refine ⟨sy, ?_, fY⟩
      unfold walkerV
      by_cases h0 : y = nI 0
      · simp (disch := first | omega | assumption | (simp only [wL_1, wL_22, wI_2, wA_2, wQ_1, wQ_21] <;> first | assumption | omega)) only [fX11_walker_24, fX11_walker_24b, LIT, LITm, nI_add, n_mul, fa_or, n_31m, n_shl0, n_le, n_lt, n_eq, Option.bind_some, B_m hn, B_mb hn, hKy.1.1.2.1, q1, h0, Nat.le_refl, ↓reduceIte]
      · by_cases h1 : y = nI 1
        · simp (disch := first | omega | assumption | (simp only [wL_1, wL_22, wI_2, wA_2, wQ_1, wQ_21] <;> first | assumption | omega)) only [fX11_walker_24, fX11_walker_24b, LIT, LITm, nI_add, n_mul, fa_or, n_31m, n_shl0, n_le, n_lt, n_eq, Option.bind_some, B_m hn, B_ma hn, hKy.1.1.2.1, r1, h1, Nat.reduceEqDiff, Nat.reduceLeDiff, Nat.le_refl, ↓reduceIte]
        · by_cases h2 : y = nI 2
          · simp (disch := first | omega | assumption | (simp only [wL_1, wL_22, wI_2, wA_2, wQ_1, wQ_21] <;> first | assumption | omega)) only [fX11_walker_24, fX11_walker_24b, LIT, LITm, nI_add, n_mul, fa_or, n_31m, n_shl0, n_le, n_lt, n_eq, Option.bind_some, B_m hn, B_ma hn, hKy.1.1.2.1, r2, h2, Nat.reduceEqDiff, Nat.reduceLeDiff, Nat.le_refl, ↓reduceIte]
          · by_cases h3 : y = nI 3
            · simp (disch := first | omega | assumption | (simp only [wL_1, wL_22, wI_2, wA_2, wQ_1, wQ_21] <;> first | assumption | omega)) only [fX11_walker_24, fX11_walker_24b, LIT, LITm, nI_add, n_mul, fa_or, n_31m, n_shl0, n_le, n_lt, n_eq, Option.bind_some, B_m hn, B_mb hn, hKy.1.1.2.1, q2, h3, Nat.reduceEqDiff, Nat.reduceLeDiff, Nat.le_refl, ↓reduceIte]
            · by_cases h4 : y = nI 4
              · simp (disch := first | omega | assumption | (simp only [wL_1, wL_22, wI_2, wA_2, wQ_1, wQ_21] <;> first | assumption | omega)) only [fX11_walker_24, fX11_walker_24b, LIT, LITm, nI_add, n_mul, fa_or, n_31m, n_shl0, n_le, n_lt, n_eq, Option.bind_some, B_m hn, hKy.1.1.2.1, hc, h4, Nat.reduceEqDiff, Nat.reduceLeDiff, Nat.le_refl, ↓reduceIte]
              · simp (disch := first | omega | assumption | (simp only [wL_1, wL_22, wI_2, wA_2, wQ_1, wQ_21] <;> first | assumption | omega)) only [fX11_walker_24, fX11_walker_24b, LIT, LITm, nI_add, n_mul, fa_or, n_31m, n_shl0, n_le, n_lt, n_eq, Option.bind_some, B_m hn, hKy.1.1.2.1, h0, h1, h2, h3, h4, Nat.le_refl, ↓reduceIte]
  · rw [if_neg hx]
    refine ⟨wI s 187 2 (nI 0), ?_, ft⟩
    unfold fX11_walker
    rw [bnd_s (v := ()) (by simp only [B_m hn]), bnd_s (v := mk (wI s 187 2 (nI 0))) (by simp only [B_m hn]; rfl), bnd_s (m_isWalker hn hT), bF hx, if_neg pr_f]
    rfl
end Rd
