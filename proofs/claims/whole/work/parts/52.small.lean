/-! ===== law, rests, rest, tries, clear: both ===== -/
def shV (l o t : Nat) : Int32 := if o = 0 then (if t = 0 then nI l else nI l - nI 2) else (if t = 0 then nI l + nI 3 else nI 0)
def rsV (a b g : Nat) : Bool := decide (¬ shV a (g / 2) (g % 2) < shV a (1 - g / 2) (g % 2) ∧ ¬ shV b (g % 2) (g / 2) < shV b (1 - g % 2) (g / 2))
def rkV (a b : Nat) (k : Int32) : Nat → Nat → Nat → Int32
  | 0, _, _ => m2
  | m + 1, c, g => if rsV a b g = true then (if nI c = k then nI (10 * (g / 2) + g % 2) else rkV a b k m (c + 1) (g + 1)) else rkV a b k m c (g + 1)
def pairV (T : zT) (x y : Int32) : Bool := inR x (T 0 2) && (inR y (T 0 2) && decide (x ≠ y))
def trV (p sn : Int64) : Nat → Int64 → Int64 → Nat → Int32
  | 0, _, _, _ => m2
  | m + 1, u, v, i => if (u * 100 - v * sn) * 100 < p * (u * 100) then trV p sn m (u * 100) (v * sn) (i + 1) else nI i
theorem lel32 (x y : Int32) : (y ≤ x) = ¬ (x < y) := propext ⟨fun h => by rw [fa_lt]; rw [fa_le] at h; omega, fun h => by rw [fa_le]; rw [fa_lt] at h; omega⟩
theorem clr_all : ∀ a : Fin 101, ∀ j : Fin 7, ((100 - a.1) / Nat.gcd 100 (100 - a.1)) ^ j.1 = (100 - a.1) ^ j.1 / Nat.gcd (100 ^ j.1) ((100 - a.1) ^ j.1) ∧ (100 / Nat.gcd 100 (100 - a.1)) ^ j.1 = 100 ^ j.1 / Nat.gcd (100 ^ j.1) ((100 - a.1) ^ j.1) := by decide +kernel
def clrV (a j : Nat) (y : Int32) : Nat := if y = nI 0 then ((100 - a) / Nat.gcd 100 (100 - a)) ^ j else (100 / Nat.gcd 100 (100 - a)) ^ j
section Sm
variable {n t o p w : Nat} {s : zS} {A : zA} {x y z : Int32}
theorem c_share {h : ai_H} {l o t : Nat} (ho : o < 1000) (ht : t < 1000) : fX10_share n h (nI l) (nI o) (nI t) = some (shV l o t, h) := by
  unfold fX10_share shV
  by_cases h1 : o = 0 <;> by_cases h2 : t = 0 <;> simp (disch := omega) only [LIT, n_eq, h1, h2, not_true_eq_false, not_false_eq_true, ↓reduceIte]
theorem n_half {g : Nat} (hg : g < 4) : nI g >>> (nI 1 &&& nI 31) = nI (g / 2) ∧ nI g &&& nI 1 = nI (g % 2) := by
  rcases (by omega : g = 0 ∨ g = 1 ∨ g = 2 ∨ g = 3) with rfl | rfl | rfl | rfl <;> exact ⟨by decide, by decide⟩
theorem c_isRest (hn : 239 ≤ n) (hK : cK s t A) (hA : wfA A) {a b g : Nat} (ha : a < aT A 0 2) (hb : b < aT A 0 2) (hg : g < 4) : fX10_isRest n (mk s) 1 (nI a) (nI b) (nI g) = some (nI (rsV (aT A 10 a) (aT A 10 b) g).toNat, mk s) := by
  have ht := cK_t hK
  have hW := hA.1
  have hT := hK.2.2.1
  have e3 := hK.2.1
  have h1 := n_half hg
  unfold fX10_isRest rsV
  by_cases c1 : shV (aT A 10 a) (g / 2) (g % 2) < shV (aT A 10 a) (1 - g / 2) (g % 2)
  · rw [decide_eq_false (fun h => h.1 c1)]
    simp (disch := first | omega | assumption | (simp only [wL_1, wL_22, wI_2, wA_2, wQ_1, wQ_21] <;> first | assumption | omega)) only [LIT, Option.bind_some, B_K hn, e3, B_t hn ht, CT hn ht hW, h1.1, h1.2, n_sub, c_share, c1, ↓reduceIte, Bool.toNat_false]
  · by_cases c2 : shV (aT A 10 b) (g % 2) (g / 2) < shV (aT A 10 b) (1 - g % 2) (g / 2)
    · rw [decide_eq_false (fun h => h.2 c2)]
      simp (disch := first | omega | assumption | (simp only [wL_1, wL_22, wI_2, wA_2, wQ_1, wQ_21] <;> first | assumption | omega)) only [LIT, Option.bind_some, B_K hn, e3, B_t hn ht, CT hn ht hW, h1.1, h1.2, n_sub, c_share, c1, c2, ↓reduceIte, Bool.toNat_false]
    · rw [decide_eq_true ⟨c1, c2⟩]
      simp (disch := first | omega | assumption | (simp only [wL_1, wL_22, wI_2, wA_2, wQ_1, wQ_21] <;> first | assumption | omega)) only [LIT, Option.bind_some, B_K hn, e3, B_t hn ht, CT hn ht hW, h1.1, h1.2, n_sub, c_share, c1, c2, ↓reduceIte, Bool.toNat_true]
theorem c_pair (hn : 239 ≤ n) (hK : cK s t A) (hA : wfA A) : fX10_isPair n (mk s) 1 x y = some (nI (pairV (aT A) x y).toNat, mk s) := by
  unfold fX10_isPair pairV
  cases h1 : inR x (aT A 0 2) with
  | false => simp (disch := first | omega | assumption | (simp only [wL_1, wL_22, wI_2, wA_2, wQ_1, wQ_21] <;> first | assumption | omega)) only [LIT, LITm, nI_add, n_mul, fa_or, n_31m, n_shl0, n_le, n_lt, n_eq, Option.bind_some, B_K hn, c_isWalker hn hK hA, h1, Bool.toNat_false, Bool.false_and, ↓reduceIte]
  | true =>
    cases h2 : inR y (aT A 0 2) with
    | false => simp (disch := first | omega | assumption | (simp only [wL_1, wL_22, wI_2, wA_2, wQ_1, wQ_21] <;> first | assumption | omega)) only [LIT, LITm, nI_add, n_mul, fa_or, n_31m, n_shl0, n_le, n_lt, n_eq, Option.bind_some, B_K hn, c_isWalker hn hK hA, h1, h2, Bool.toNat_false, Bool.toNat_true, Nat.reduceEqDiff, Nat.reduceLeDiff, Bool.false_and, Bool.true_and, ↓reduceIte]
    | true =>
      by_cases h3 : x = y
      · rw [decide_eq_false (fun g => g h3)]
        simp (disch := first | omega | assumption | (simp only [wL_1, wL_22, wI_2, wA_2, wQ_1, wQ_21] <;> first | assumption | omega)) only [LIT, LITm, nI_add, n_mul, fa_or, n_31m, n_shl0, n_le, n_lt, n_eq, Option.bind_some, B_K hn, c_isWalker hn hK hA, h1, h2, h3, Bool.toNat_false, Bool.toNat_true, Nat.reduceEqDiff, Nat.reduceLeDiff, Bool.and_false, ↓reduceIte]
      · rw [decide_eq_true h3]
        simp (disch := first | omega | assumption | (simp only [wL_1, wL_22, wI_2, wA_2, wQ_1, wQ_21] <;> first | assumption | omega)) only [LIT, LITm, nI_add, n_mul, fa_or, n_31m, n_shl0, n_le, n_lt, n_eq, Option.bind_some, B_K hn, c_isWalker hn hK hA, h1, h2, h3, Bool.toNat_true, Nat.reduceEqDiff, Nat.reduceLeDiff, Bool.and_self, ↓reduceIte]
theorem pair_t {T : zT} (hW : WT T) (h : pairV T x y = true) : ∃ a b, a < T 0 2 ∧ b < T 0 2 ∧ x = nI a ∧ y = nI b := by
  have h0 := hW.1
  unfold pairV at h
  simp only [Bool.and_eq_true] at h
  obtain ⟨a, ha, rfl⟩ := inR_t (by omega) h.1
  obtain ⟨b, hb, rfl⟩ := inR_t (by omega) h.2.1
  exact ⟨a, b, ha, hb, rfl, rfl⟩
theorem c_rests (hn : 239 ≤ n) (hK : cK s t A) (hA : wfA A) : fX10_rests n (mk s) 1 x y = some (if pairV (aT A) x y = true then nI (fb_ct (rsV (aT A 10 x.toNatClampNeg) (aT A 10 y.toNatClampNeg)) 4) else m1, mk s) := by
  have h0 := hA.1.1
  unfold fX10_rests
  by_cases hp : pairV (aT A) x y = true
  · obtain ⟨a, b, ha, hb, rfl, rfl⟩ := pair_t hA.1 hp
    rw [if_pos hp, cl_n (by omega), cl_n (by omega)]
    simp (disch := first | omega | assumption | (simp only [wL_1, wL_22, wI_2, wA_2, wQ_1, wQ_21] <;> first | assumption | omega)) only [LIT, LITm, nI_add, n_mul, fa_or, n_31m, n_shl0, n_le, n_lt, n_eq, Option.bind_some, B_K hn, c_pair hn hK hA, hp, Bool.toNat_true, Nat.reduceEqDiff, Nat.reduceLeDiff, not_false_eq_true, ↓reduceIte]
    refine lp_up (F := fun k (c : Nat) i => fX10_rests_16 n k (mk s) 1 (nI a) (nI b) (nI c) (nI i)) (N := 4) (P := fun i c => c = fb_ct (rsV (aT A 10 a) (aT A 10 b)) i) (Q := fun r => r = some (nI (fb_ct (rsV (aT A 10 a) (aT A 10 b)) 4), mk s)) ?_ ?_ 4 bi_K 0 0 (by omega) (by unfold bi_K; omega) rfl
    · intro k c i hi hP
      left
      have R := c_isRest hn hK hA ha hb hi
      cases g : rsV (aT A 10 a) (aT A 10 b) i with
      | false =>
        rw [g] at R
        refine ⟨c, ?_, by rw [hP, fb_ct_succ]; simp [g]⟩
        simp (disch := first | omega | assumption | (simp only [wL_1, wL_22, wI_2, wA_2, wQ_1, wQ_21] <;> first | assumption | omega)) only [fX10_rests_16, fX10_rests_16b, fX10_rests_36, LIT, LITm, nI_add, n_mul, fa_or, n_31m, n_shl0, n_le, n_lt, n_eq, Option.bind_some, R, Bool.toNat_false, show ¬ 4 ≤ i by omega, ↓reduceIte]
      | true =>
        rw [g] at R
        refine ⟨c + 1, ?_, by rw [hP, fb_ct_succ]; simp [g]⟩
        simp (disch := first | omega | assumption | (simp only [wL_1, wL_22, wI_2, wA_2, wQ_1, wQ_21] <;> first | assumption | omega)) only [fX10_rests_16, fX10_rests_16b, fX10_rests_36, LIT, LITm, nI_add, n_mul, fa_or, n_31m, n_shl0, n_le, n_lt, n_eq, Option.bind_some, R, Bool.toNat_true, Nat.reduceEqDiff, Nat.reduceLeDiff, show ¬ 4 ≤ i by omega, ↓reduceIte]
    · intro k c hP
      simp (disch := first | omega | assumption | (simp only [wL_1, wL_22, wI_2, wA_2, wQ_1, wQ_21] <;> first | assumption | omega)) only [fX10_rests_16, fX10_rests_16b, LIT, LITm, nI_add, n_mul, fa_or, n_31m, n_shl0, n_le, n_lt, n_eq, Option.bind_some, hP, Nat.le_refl, ↓reduceIte]
  · rw [if_neg hp]
    simp (disch := first | omega | assumption | (simp only [wL_1, wL_22, wI_2, wA_2, wQ_1, wQ_21] <;> first | assumption | omega)) only [LIT, LITm, nI_add, n_mul, fa_or, n_31m, n_shl0, n_le, n_lt, n_eq, Option.bind_some, B_K hn, c_pair hn hK hA, bF hp, Bool.toNat_false, not_true_eq_false, ↓reduceIte]
theorem c_rest (hn : 239 ≤ n) (hK : cK s t A) (hA : wfA A) : fX10_rest n (mk s) 1 x y z = some (if pairV (aT A) x y = true ∧ ¬ z < nI 0 then rkV (aT A 10 x.toNatClampNeg) (aT A 10 y.toNatClampNeg) z 4 0 0 else m1, mk s) := by
  have h0 := hA.1.1
  unfold fX10_rest
  by_cases hp : pairV (aT A) x y = true
  · by_cases hz : z < nI 0
    · rw [if_neg (fun h => h.2 hz)]
      simp (disch := first | omega | assumption | (simp only [wL_1, wL_22, wI_2, wA_2, wQ_1, wQ_21] <;> first | assumption | omega)) only [LIT, LITm, nI_add, n_mul, fa_or, n_31m, n_shl0, n_le, n_lt, n_eq, Option.bind_some, B_K hn, c_pair hn hK hA, hp, lel32, hz, Bool.toNat_true, Nat.reduceEqDiff, Nat.reduceLeDiff, not_true_eq_false, ↓reduceIte]
    · obtain ⟨a, b, ha, hb, rfl, rfl⟩ := pair_t hA.1 hp
      rw [if_pos ⟨hp, hz⟩, cl_n (by omega), cl_n (by omega)]
      simp (disch := first | omega | assumption | (simp only [wL_1, wL_22, wI_2, wA_2, wQ_1, wQ_21] <;> first | assumption | omega)) only [LIT, LITm, nI_add, n_mul, fa_or, n_31m, n_shl0, n_le, n_lt, n_eq, Option.bind_some, B_K hn, c_pair hn hK hA, hp, lel32, hz, Bool.toNat_true, Nat.reduceEqDiff, Nat.reduceLeDiff, not_false_eq_true, ↓reduceIte]
      obtain ⟨R, hR⟩ : ∃ R, R = rkV (aT A 10 a) (aT A 10 b) z 4 0 0 := ⟨_, rfl⟩
      rw [← hR]
      refine lp_up (F := fun k (c : Nat) i => fX10_rest_21 n k (mk s) 1 (nI a) (nI b) z (nI c) (nI i)) (N := 4) (P := fun i c => R = rkV (aT A 10 a) (aT A 10 b) z (4 - i) c i) (Q := fun r => r = some (R, mk s)) ?_ ?_ 4 bi_K 0 0 (by omega) (by unfold bi_K; omega) hR
      · intro k c i hi hP
        have Re := c_isRest hn hK hA ha hb hi
        have h1 := n_half hi
        rw [show 4 - i = (4 - (i + 1)) + 1 by omega, rkV] at hP
        cases g : rsV (aT A 10 a) (aT A 10 b) i with
        | false =>
          rw [g] at Re hP
          rw [if_neg (by decide)] at hP
          left
          refine ⟨c, ?_, hP⟩
          simp (disch := first | omega | assumption | (simp only [wL_1, wL_22, wI_2, wA_2, wQ_1, wQ_21] <;> first | assumption | omega)) only [fX10_rest_21, fX10_rest_21b, fX10_rest_60, LIT, LITm, nI_add, n_mul, fa_or, n_31m, n_shl0, n_le, n_lt, n_eq, Option.bind_some, Re, Bool.toNat_false, show ¬ 4 ≤ i by omega, ↓reduceIte]
        | true =>
          rw [g] at Re hP
          rw [if_pos rfl] at hP
          by_cases e : nI c = z
          · rw [if_pos e] at hP
            right
            rw [hP]
            simp (disch := first | omega | assumption | (simp only [wL_1, wL_22, wI_2, wA_2, wQ_1, wQ_21] <;> first | assumption | omega)) only [fX10_rest_21, fX10_rest_21b, fX10_rest_60, LIT, LITm, Option.bind_some, nI_add, n_mul, n_le, n_eq, Re, h1.1, h1.2, e, Bool.toNat_true, Nat.reduceEqDiff, Nat.reduceLeDiff, not_true_eq_false, show ¬ 4 ≤ i by omega, ↓reduceIte]
          · rw [if_neg e] at hP
            left
            refine ⟨c + 1, ?_, hP⟩
            simp (disch := first | omega | assumption | (simp only [wL_1, wL_22, wI_2, wA_2, wQ_1, wQ_21] <;> first | assumption | omega)) only [fX10_rest_21, fX10_rest_21b, fX10_rest_60, LIT, LITm, nI_add, n_mul, fa_or, n_31m, n_shl0, n_le, n_lt, n_eq, Option.bind_some, Re, e, Bool.toNat_true, Nat.reduceEqDiff, Nat.reduceLeDiff, not_false_eq_true, show ¬ 4 ≤ i by omega, ↓reduceIte]
      · intro k c hP
        rw [hP, Nat.sub_self, rkV]
        simp (disch := first | omega | assumption | (simp only [wL_1, wL_22, wI_2, wA_2, wQ_1, wQ_21] <;> first | assumption | omega)) only [fX10_rest_21, fX10_rest_21b, LIT, LITm, nI_add, n_mul, fa_or, n_31m, n_shl0, n_le, n_lt, n_eq, Option.bind_some, Nat.le_refl, ↓reduceIte]
  · rw [if_neg (fun h => hp h.1)]
    simp (disch := first | omega | assumption | (simp only [wL_1, wL_22, wI_2, wA_2, wQ_1, wQ_21] <;> first | assumption | omega)) only [LIT, LITm, nI_add, n_mul, fa_or, n_31m, n_shl0, n_le, n_lt, n_eq, Option.bind_some, B_K hn, c_pair hn hK hA, bF hp, Bool.toNat_false, ↓reduceIte]
theorem m_hasBy (hn : 239 ≤ n) {T : zT} (hW : WT T) (hT : mTd s.1 T) (hw : w < T 0 2) {o t : Nat} (ho : o < 1000) (ht : t < 1000) : fX11_hasBy n (mk s) 187 (nI w) (nI o) (nI t) = some (shV (T 10 w) o t, mk s) := by
  have hw' := WT_w hW hw
  unfold fX11_hasBy shV
  by_cases h1 : o = 0 <;> by_cases h2 : t = 0 <;> simp (disch := first | omega | assumption | (simp only [wL_1, wL_22, wI_2, wA_2, wQ_1, wQ_21] <;> first | assumption | omega)) only [LIT, n_eq, Option.bind_some, B_m hn, B_ma hn, MTp T, h1, h2, not_true_eq_false, not_false_eq_true, ↓reduceIte]
theorem m_two (hn : 239 ≤ n) {T : zT} (hT : mTd s.1 T) : fX11_areTwo n (mk s) 187 x y = some (nI (pairV T x y).toNat, mk s) := by
  unfold fX11_areTwo pairV
  cases h1 : inR x (T 0 2) with
  | false => simp (disch := first | omega | assumption | (simp only [wL_1, wL_22, wI_2, wA_2, wQ_1, wQ_21] <;> first | assumption | omega)) only [LIT, LITm, nI_add, n_mul, fa_or, n_31m, n_shl0, n_le, n_lt, n_eq, Option.bind_some, B_m hn, m_isWalker hn hT, h1, Bool.toNat_false, Bool.false_and, ↓reduceIte]
  | true =>
    cases h2 : inR y (T 0 2) with
    | false => simp (disch := first | omega | assumption | (simp only [wL_1, wL_22, wI_2, wA_2, wQ_1, wQ_21] <;> first | assumption | omega)) only [LIT, LITm, nI_add, n_mul, fa_or, n_31m, n_shl0, n_le, n_lt, n_eq, Option.bind_some, B_m hn, m_isWalker hn hT, h1, h2, Bool.toNat_false, Bool.toNat_true, Nat.reduceEqDiff, Nat.reduceLeDiff, Bool.false_and, Bool.true_and, ↓reduceIte]
    | true =>
      by_cases h3 : x = y
      · rw [decide_eq_false (fun g => g h3)]
        simp (disch := first | omega | assumption | (simp only [wL_1, wL_22, wI_2, wA_2, wQ_1, wQ_21] <;> first | assumption | omega)) only [LIT, LITm, nI_add, n_mul, fa_or, n_31m, n_shl0, n_le, n_lt, n_eq, Option.bind_some, B_m hn, m_isWalker hn hT, h1, h2, h3, Bool.toNat_false, Bool.toNat_true, Nat.reduceEqDiff, Nat.reduceLeDiff, Bool.and_false, ↓reduceIte]
      · rw [decide_eq_true h3]
        simp (disch := first | omega | assumption | (simp only [wL_1, wL_22, wI_2, wA_2, wQ_1, wQ_21] <;> first | assumption | omega)) only [LIT, LITm, nI_add, n_mul, fa_or, n_31m, n_shl0, n_le, n_lt, n_eq, Option.bind_some, B_m hn, m_isWalker hn hT, h1, h2, h3, Bool.toNat_true, Nat.reduceEqDiff, Nat.reduceLeDiff, Bool.and_self, ↓reduceIte]
/-- one turn of the reference's loop over the four -/
theorem m_turn (hn : 239 ≤ n) {T : zT} (hW : WT T) (hT : mTd s.1 T) {a b g c k : Nat} (ha : a < T 0 2) (hb : b < T 0 2) (hg : g < 4) (hc : c < 1000) : fX11_restAt_6 n (k + 1) (mk s) 187 (nI a) (nI b) z (nI c) (nI g) = if rsV (T 10 a) (T 10 b) g = true then (if nI c = z then some (nI (10 * (g / 2) + g % 2), mk s) else fX11_restAt_6 n k (mk s) 187 (nI a) (nI b) z (nI (c + 1)) (nI (g + 1))) else fX11_restAt_6 n k (mk s) 187 (nI a) (nI b) z (nI c) (nI (g + 1)) := by
  unfold rsV
  by_cases c1 : shV (T 10 a) (g / 2) (g % 2) < shV (T 10 a) (1 - g / 2) (g % 2)
  · rw [decide_eq_false (fun h => h.1 c1), if_neg (by decide)]
    simp (disch := first | omega | assumption | (simp only [wL_1, wL_22, wI_2, wA_2, wQ_1, wQ_21] <;> first | assumption | omega)) only [fX11_restAt_6, fX11_restAt_6b, fX11_restAt_91, LIT, LITm, nI_add, n_mul, fa_or, n_31m, n_shl0, n_le, n_lt, n_eq, Option.bind_some, n_dI, n_rI, n_sub, m_hasBy hn hW hT, c1, show ¬ 4 ≤ g by omega, ↓reduceIte]
  · by_cases c2 : shV (T 10 b) (g % 2) (g / 2) < shV (T 10 b) (1 - g % 2) (g / 2)
    · rw [decide_eq_false (fun h => h.2 c2), if_neg (by decide)]
      simp (disch := first | omega | assumption | (simp only [wL_1, wL_22, wI_2, wA_2, wQ_1, wQ_21] <;> first | assumption | omega)) only [fX11_restAt_6, fX11_restAt_6b, fX11_restAt_91, LIT, LITm, nI_add, n_mul, fa_or, n_31m, n_shl0, n_le, n_lt, n_eq, Option.bind_some, n_dI, n_rI, n_sub, m_hasBy hn hW hT, c1, lel32, c2, hg, not_true_eq_false, show ¬ 4 ≤ g by omega, ↓reduceIte]
    · rw [decide_eq_true ⟨c1, c2⟩, if_pos rfl]
      by_cases e : nI c = z
      · rw [if_pos e]
        simp (disch := first | omega | assumption | (simp only [wL_1, wL_22, wI_2, wA_2, wQ_1, wQ_21] <;> first | assumption | omega)) only [fX11_restAt_6, fX11_restAt_6b, fX11_restAt_91, LIT, LITm, nI_add, n_mul, fa_or, n_31m, n_shl0, n_le, n_lt, n_eq, Option.bind_some, n_dI, n_rI, n_sub, m_hasBy hn hW hT, c1, lel32, c2, hg, e, not_true_eq_false, not_false_eq_true, show ¬ 4 ≤ g by omega, ↓reduceIte]
      · rw [if_neg e]
        simp (disch := first | omega | assumption | (simp only [wL_1, wL_22, wI_2, wA_2, wQ_1, wQ_21] <;> first | assumption | omega)) only [fX11_restAt_6, fX11_restAt_6b, fX11_restAt_91, LIT, LITm, nI_add, n_mul, fa_or, n_31m, n_shl0, n_le, n_lt, n_eq, Option.bind_some, n_dI, n_rI, n_sub, m_hasBy hn hW hT, c1, lel32, c2, hg, e, not_true_eq_false, not_false_eq_true, show ¬ 4 ≤ g by omega, ↓reduceIte]
theorem m_rests (hn : 239 ≤ n) (hK : mK s A) (hA : wfA A) : ∃ s' : zS, fX11_rests n (mk s) 187 x y = some (if pairV (aT A) x y = true then nI (fb_ct (rsV (aT A 10 x.toNatClampNeg) (aT A 10 y.toNatClampNeg)) 4) else m1, mk s') ∧ frT s s' := by
  have hW := hA.1
  have h0 := hW.1
  have ft := m_th s
  have hT := mTd_T ft.1 hK.1
  refine ⟨wI s 187 2 (nI 0), ?_, ft⟩
  unfold fX11_rests fX11_restAt
  by_cases hp : pairV (aT A) x y = true
  · obtain ⟨a, b, ha, hb, rfl, rfl⟩ := pair_t hA.1 hp
    rw [if_pos hp, cl_n (by omega), cl_n (by omega)]
    have L : fX11_restAt_6 n bi_K (mk (wI s 187 2 (nI 0))) 187 (nI a) (nI b) m1 (nI 0) (nI 0) = some (nI (fb_ct (rsV (aT A 10 a) (aT A 10 b)) 4), mk (wI s 187 2 (nI 0))) := by
      refine lp_up (F := fun k (c : Nat) i => fX11_restAt_6 n k (mk (wI s 187 2 (nI 0))) 187 (nI a) (nI b) m1 (nI c) (nI i)) (N := 4) (P := fun i c => c = fb_ct (rsV (aT A 10 a) (aT A 10 b)) i) (Q := fun r => r = some (nI (fb_ct (rsV (aT A 10 a) (aT A 10 b)) 4), mk (wI s 187 2 (nI 0)))) ?_ ?_ 4 bi_K 0 0 (by omega) (by unfold bi_K; omega) rfl
      · intro k c i hi hP
        left
        have hcl : c ≤ i := by rw [hP]; exact fb_ct_le _ _
        have tr := m_turn (z := m1) (k := k) (c := c) hn hW hT ha hb hi (by omega)
        have hne : ¬ nI c = m1 := by rw [n_m1 (by omega)]; exact fun h => h
        rw [if_neg hne] at tr
        cases g : rsV (aT A 10 a) (aT A 10 b) i with
        | false =>
          rw [g, if_neg (by decide)] at tr
          exact ⟨c, tr, by rw [hP, fb_ct_succ]; simp [g]⟩
        | true =>
          rw [g, if_pos rfl] at tr
          exact ⟨c + 1, tr, by rw [hP, fb_ct_succ]; simp [g]⟩
      · intro k c hP
        simp (disch := first | omega | assumption | (simp only [wL_1, wL_22, wI_2, wA_2, wQ_1, wQ_21] <;> first | assumption | omega)) only [fX11_restAt_6, fX11_restAt_6b, LIT, LITm, nI_add, n_mul, fa_or, n_31m, n_shl0, n_le, n_lt, n_eq, Option.bind_some, hP, lel32, n_m1lt, Nat.lt_irrefl, not_true_eq_false, not_false_eq_true, ↓reduceIte]
    simp (disch := first | omega | assumption | (simp only [wL_1, wL_22, wI_2, wA_2, wQ_1, wQ_21] <;> first | assumption | omega)) only [LIT, LITm, nI_add, n_mul, fa_or, n_31m, n_shl0, n_le, n_lt, n_eq, Option.bind_some, B_m hn, m_two hn hT, hp, L, Bool.toNat_true, Nat.reduceEqDiff, Nat.reduceLeDiff, ↓reduceIte]
  · rw [if_neg hp]
    simp (disch := first | omega | assumption | (simp only [wL_1, wL_22, wI_2, wA_2, wQ_1, wQ_21] <;> first | assumption | omega)) only [LIT, LITm, nI_add, n_mul, fa_or, n_31m, n_shl0, n_le, n_lt, n_eq, Option.bind_some, B_m hn, m_two hn hT, bF hp, Bool.toNat_false, ↓reduceIte]
theorem m_rest (hn : 239 ≤ n) (hK : mK s A) (hA : wfA A) : ∃ s' : zS, fX11_rest n (mk s) 187 x y z = some (if pairV (aT A) x y = true ∧ ¬ z < nI 0 then rkV (aT A 10 x.toNatClampNeg) (aT A 10 y.toNatClampNeg) z 4 0 0 else m1, mk s') ∧ frT s s' := by
  have hW := hA.1
  have h0 := hW.1
  have ft := m_th s
  have hT := mTd_T ft.1 hK.1
  refine ⟨wI s 187 2 (nI 0), ?_, ft⟩
  unfold fX11_rest fX11_restAt
  by_cases hp : pairV (aT A) x y = true
  · by_cases hz : z < nI 0
    · rw [if_neg (fun h => h.2 hz)]
      simp (disch := first | omega | assumption | (simp only [wL_1, wL_22, wI_2, wA_2, wQ_1, wQ_21] <;> first | assumption | omega)) only [LIT, LITm, nI_add, n_mul, fa_or, n_31m, n_shl0, n_le, n_lt, n_eq, Option.bind_some, B_m hn, m_two hn hT, hp, hz, Bool.toNat_true, Nat.reduceEqDiff, Nat.reduceLeDiff, ↓reduceIte]
    · obtain ⟨a, b, ha, hb, rfl, rfl⟩ := pair_t hA.1 hp
      rw [if_pos ⟨hp, hz⟩, cl_n (by omega), cl_n (by omega)]
      obtain ⟨R, hR⟩ : ∃ R, R = rkV (aT A 10 a) (aT A 10 b) z 4 0 0 := ⟨_, rfl⟩
      rw [← hR]
      have L : fX11_restAt_6 n bi_K (mk (wI s 187 2 (nI 0))) 187 (nI a) (nI b) z (nI 0) (nI 0) = some (R, mk (wI s 187 2 (nI 0))) := by
        refine lp_up (F := fun k (c : Nat) i => fX11_restAt_6 n k (mk (wI s 187 2 (nI 0))) 187 (nI a) (nI b) z (nI c) (nI i)) (N := 4) (P := fun i c => c ≤ i ∧ R = rkV (aT A 10 a) (aT A 10 b) z (4 - i) c i) (Q := fun r => r = some (R, mk (wI s 187 2 (nI 0)))) ?_ ?_ 4 bi_K 0 0 (by omega) (by unfold bi_K; omega) ⟨Nat.le_refl _, hR⟩
        · intro k c i hi hP
          obtain ⟨hcl, hP⟩ := hP
          have tr := m_turn (z := z) (k := k) (c := c) hn hW hT ha hb hi (by omega)
          rw [show 4 - i = (4 - (i + 1)) + 1 by omega, rkV] at hP
          cases g : rsV (aT A 10 a) (aT A 10 b) i with
          | false =>
            rw [g, if_neg (by decide)] at tr hP
            exact Or.inl ⟨c, tr, by omega, hP⟩
          | true =>
            rw [g, if_pos rfl] at tr hP
            by_cases e : nI c = z
            · rw [if_pos e] at tr hP
              exact Or.inr (by rw [tr, hP])
            · rw [if_neg e] at tr hP
              exact Or.inl ⟨c + 1, tr, by omega, hP⟩
        · intro k c hP
          rw [hP.2, Nat.sub_self, rkV]
          simp (disch := first | omega | assumption | (simp only [wL_1, wL_22, wI_2, wA_2, wQ_1, wQ_21] <;> first | assumption | omega)) only [fX11_restAt_6, fX11_restAt_6b, LIT, LITm, nI_add, n_mul, fa_or, n_31m, n_shl0, n_le, n_lt, n_eq, Option.bind_some, lel32, hz, Nat.lt_irrefl, not_false_eq_true, ↓reduceIte]
      simp (disch := first | omega | assumption | (simp only [wL_1, wL_22, wI_2, wA_2, wQ_1, wQ_21] <;> first | assumption | omega)) only [LIT, LITm, nI_add, n_mul, fa_or, n_31m, n_shl0, n_le, n_lt, n_eq, Option.bind_some, B_m hn, m_two hn hT, hp, hz, L, Bool.toNat_true, Nat.reduceEqDiff, Nat.reduceLeDiff, ↓reduceIte]
  · rw [if_neg (fun h => hp h.1)]
    simp (disch := first | omega | assumption | (simp only [wL_1, wL_22, wI_2, wA_2, wQ_1, wQ_21] <;> first | assumption | omega)) only [LIT, LITm, nI_add, n_mul, fa_or, n_31m, n_shl0, n_le, n_lt, n_eq, Option.bind_some, B_m hn, m_two hn hT, bF hp, Bool.toNat_false, ↓reduceIte]
theorem c_tries (hn : 239 ≤ n) (hK : cK s t A) (hA : wfA A) : fX10_tries n (mk s) 1 x = some (if wiV 0 x 100 = true then trV x.toInt64 (nI (aT A 0 7)).toInt64 8 1 1 1 else m1, mk s) := by
  have ht := cK_t hK
  have e3 := hK.2.1
  have c7 : s.1 t 7 = nI (aT A 0 7) := (CTp t (aT A)).2.2.2.2.2.2.2.1 s hK.2.2.1
  unfold fX10_tries
  by_cases hx : wiV 0 x 100 = true
  · rw [if_pos hx]
    obtain ⟨R, hR⟩ : ∃ R, R = trV x.toInt64 (nI (aT A 0 7)).toInt64 8 1 1 1 := ⟨_, rfl⟩
    rw [← hR]
    simp (disch := first | omega | assumption | (simp only [wL_1, wL_22, wI_2, wA_2, wQ_1, wQ_21] <;> first | assumption | omega)) only [LIT, LITm, nI_add, n_mul, fa_or, n_31m, n_shl0, n_le, n_lt, n_eq, Option.bind_some, B_K hn, c_within, hx, Bool.toNat_true, Nat.reduceEqDiff, Nat.reduceLeDiff, not_false_eq_true, ↓reduceIte]
    refine lp_up (F := fun k (q : Int64 × Int64) i => fX10_tries_20 n k (mk s) 1 x q.1 q.2 (nI i)) (N := 9) (P := fun i q => 1 ≤ i ∧ R = trV x.toInt64 (nI (aT A 0 7)).toInt64 (9 - i) q.1 q.2 i) (Q := fun r => r = some (R, mk s)) ?_ ?_ 8 bi_K (1, 1) 1 (by omega) (by unfold bi_K; omega) ⟨by omega, hR⟩
    · intro k q i hi hP
      obtain ⟨h1, hP⟩ := hP
      rw [show 9 - i = (9 - (i + 1)) + 1 by omega, trV] at hP
      by_cases c : (q.1 * 100 - q.2 * (nI (aT A 0 7)).toInt64) * 100 < x.toInt64 * (q.1 * 100)
      · rw [if_pos c] at hP
        left
        refine ⟨(q.1 * 100, q.2 * (nI (aT A 0 7)).toInt64), ?_, by omega, hP⟩
        simp (disch := first | omega | assumption | (simp only [wL_1, wL_22, wI_2, wA_2, wQ_1, wQ_21] <;> first | assumption | omega)) only [fX10_tries_20, fX10_tries_20b, LIT, LITm, nI_add, n_mul, fa_or, n_31m, n_shl0, n_le, n_lt, n_eq, Option.bind_some, B_K hn, e3, B_t hn ht, c7, CMP, c, show ¬ 8 < i by omega, ↓reduceIte]
      · rw [if_neg c] at hP
        right
        rw [hP]
        simp (disch := first | omega | assumption | (simp only [wL_1, wL_22, wI_2, wA_2, wQ_1, wQ_21] <;> first | assumption | omega)) only [fX10_tries_20, fX10_tries_20b, LIT, LITm, nI_add, n_mul, fa_or, n_31m, n_shl0, n_le, n_lt, n_eq, Option.bind_some, B_K hn, e3, B_t hn ht, c7, CMP, c, show ¬ 8 < i by omega, ↓reduceIte]
    · intro k q hP
      rw [hP.2, Nat.sub_self, trV]
      simp (disch := first | omega | assumption | (simp only [wL_1, wL_22, wI_2, wA_2, wQ_1, wQ_21] <;> first | assumption | omega)) only [fX10_tries_20, fX10_tries_20b, LIT, LITm, nI_add, n_mul, fa_or, n_31m, n_shl0, n_le, n_lt, n_eq, Option.bind_some, show 8 < 9 by omega, ↓reduceIte]
  · rw [if_neg hx]
    simp (disch := first | omega | assumption | (simp only [wL_1, wL_22, wI_2, wA_2, wQ_1, wQ_21] <;> first | assumption | omega)) only [LIT, LITm, nI_add, n_mul, fa_or, n_31m, n_shl0, n_le, n_lt, n_eq, Option.bind_some, B_K hn, c_within, bF hx, Bool.toNat_false, not_true_eq_false, ↓reduceIte]
theorem m_tries (hn : 239 ≤ n) (hK : mK s A) (hA : wfA A) : ∃ s' : zS, fX11_tries n (mk s) 187 x = some (if wiV 0 x 100 = true then trV x.toInt64 (nI (aT A 0 7)).toInt64 8 1 1 1 else m1, mk s') ∧ frT s s' := by
  have ft := m_th s
  have hT := mTd_T ft.1 hK.1
  have c7 := (MTp (aT A)).2.2.2.2.2.2.2.1 _ hT
  refine ⟨wI s 187 2 (nI 0), ?_, ft⟩
  unfold fX11_tries
  by_cases hx : wiV 0 x 100 = true
  · rw [if_pos hx]
    obtain ⟨R, hR⟩ : ∃ R, R = trV x.toInt64 (nI (aT A 0 7)).toInt64 8 1 1 1 := ⟨_, rfl⟩
    rw [← hR]
    simp (disch := first | omega | assumption | (simp only [wL_1, wL_22, wI_2, wA_2, wQ_1, wQ_21] <;> first | assumption | omega)) only [LIT, LITm, nI_add, n_mul, fa_or, n_31m, n_shl0, n_le, n_lt, n_eq, Option.bind_some, B_m hn, m_within, hx, Bool.toNat_true, Nat.reduceEqDiff, Nat.reduceLeDiff, not_false_eq_true, ↓reduceIte]
    refine lp_up (F := fun k (q : Int64 × Int64) i => fX11_tries_25 n k (mk (wI s 187 2 (nI 0))) 187 x q.1 q.2 (nI i)) (N := 9) (P := fun i q => 1 ≤ i ∧ R = trV x.toInt64 (nI (aT A 0 7)).toInt64 (9 - i) q.1 q.2 i) (Q := fun r => r = some (R, mk (wI s 187 2 (nI 0)))) ?_ ?_ 8 bi_K (1, 1) 1 (by omega) (by unfold bi_K; omega) ⟨by omega, hR⟩
    · intro k q i hi hP
      obtain ⟨h1, hP⟩ := hP
      rw [show 9 - i = (9 - (i + 1)) + 1 by omega, trV] at hP
      by_cases c : (q.1 * 100 - q.2 * (nI (aT A 0 7)).toInt64) * 100 < x.toInt64 * (q.1 * 100)
      · rw [if_pos c] at hP
        left
        refine ⟨(q.1 * 100, q.2 * (nI (aT A 0 7)).toInt64), ?_, by omega, hP⟩
        simp (disch := first | omega | assumption | (simp only [wL_1, wL_22, wI_2, wA_2, wQ_1, wQ_21] <;> first | assumption | omega)) only [fX11_tries_25, fX11_tries_25b, LIT, LITm, nI_add, n_mul, fa_or, n_31m, n_shl0, n_le, n_lt, n_eq, Option.bind_some, B_m hn, B_ma hn, c7, CMP, c, show ¬ 8 < i by omega, ↓reduceIte]
      · rw [if_neg c] at hP
        right
        rw [hP]
        simp (disch := first | omega | assumption | (simp only [wL_1, wL_22, wI_2, wA_2, wQ_1, wQ_21] <;> first | assumption | omega)) only [fX11_tries_25, fX11_tries_25b, LIT, LITm, nI_add, n_mul, fa_or, n_31m, n_shl0, n_le, n_lt, n_eq, Option.bind_some, B_m hn, B_ma hn, c7, CMP, c, show ¬ 8 < i by omega, ↓reduceIte]
    · intro k q hP
      rw [hP.2, Nat.sub_self, trV]
      simp (disch := first | omega | assumption | (simp only [wL_1, wL_22, wI_2, wA_2, wQ_1, wQ_21] <;> first | assumption | omega)) only [fX11_tries_25, fX11_tries_25b, LIT, LITm, nI_add, n_mul, fa_or, n_31m, n_shl0, n_le, n_lt, n_eq, Option.bind_some, show 8 < 9 by omega, ↓reduceIte]
  · rw [if_neg hx]
    simp (disch := first | omega | assumption | (simp only [wL_1, wL_22, wI_2, wA_2, wQ_1, wQ_21] <;> first | assumption | omega)) only [LIT, LITm, nI_add, n_mul, fa_or, n_31m, n_shl0, n_le, n_lt, n_eq, Option.bind_some, B_m hn, m_within, bF hx, Bool.toNat_false, not_true_eq_false, ↓reduceIte]
theorem c_gcd {h : ai_H} {a b : Nat} (ha : a ≤ 100) (ha1 : 1 ≤ a) (hb : b ≤ 100) : fX10_commonDivisor n h (nI a) (nI b) = some (nI (Nat.gcd a b), h) := by
  unfold fX10_commonDivisor
  simp only [LIT]
  obtain ⟨G, hG⟩ : ∃ G, G = Nat.gcd a b := ⟨_, rfl⟩
  rw [← hG]
  have fin : ∀ x : Nat, 1 ≤ x → x ≤ 100 → (if nI x < nI 1 then nI 1 else nI x) = nI x := fun x h1 h2 => if_neg (fun h => by rw [n_lt (by omega) (by omega)] at h; omega)
  refine lp_up (F := fun k (q : Nat × Nat) i => fX10_commonDivisor_7 n k h (nI q.1) (nI q.2) (nI i)) (N := 100) (P := fun i q => 1 ≤ q.1 ∧ q.1 ≤ 100 ∧ q.2 + i ≤ 100 ∧ G = Nat.gcd q.1 q.2) (Q := fun r => r = some (nI G, h)) ?_ ?_ 100 bi_K (a, b) 0 (by omega) (by unfold bi_K; omega) ⟨ha1, ha, hb, hG⟩
  · intro k q i hi hP
    obtain ⟨x, y⟩ := q
    obtain ⟨h1, h2, h3, h4⟩ := hP
    simp only at h1 h2 h3 h4 ⊢
    by_cases y0 : y = 0
    · right
      subst y0
      rw [Nat.gcd_zero_right] at h4
      rw [h4]
      simp (disch := first | omega | assumption | (simp only [wL_1, wL_22, wI_2, wA_2, wQ_1, wQ_21] <;> first | assumption | omega)) only [fX10_commonDivisor_7, fX10_commonDivisor_7b, LIT, n_le, Nat.le_refl, fin x h1 h2, show ¬ 100 ≤ i by omega, ↓reduceIte]
    · left
      have hm : x % y < y := Nat.mod_lt _ (by omega)
      refine ⟨(y, x % y), ?_, by show 1 ≤ y; omega, by show y ≤ 100; omega, by show x % y + (i + 1) ≤ 100; omega, ?_⟩
      · simp (disch := first | omega | assumption | (simp only [wL_1, wL_22, wI_2, wA_2, wQ_1, wQ_21] <;> first | assumption | omega)) only [fX10_commonDivisor_7, fX10_commonDivisor_7b, LIT, LITm, nI_add, n_mul, fa_or, n_31m, n_shl0, n_le, n_lt, n_eq, Option.bind_some, n_rI, show ¬ y ≤ 0 by omega, show ¬ 100 ≤ i by omega, ↓reduceIte]
      · rw [h4, Nat.gcd_comm x y, Nat.gcd_rec y x, Nat.gcd_comm]
  · intro k q hP
    obtain ⟨x, y⟩ := q
    obtain ⟨h1, h2, h3, h4⟩ := hP
    simp only at h1 h2 h3 h4 ⊢
    have y0 : y = 0 := by omega
    subst y0
    rw [Nat.gcd_zero_right] at h4
    rw [h4]
    simp (disch := first | omega | assumption | (simp only [wL_1, wL_22, wI_2, wA_2, wQ_1, wQ_21] <;> first | assumption | omega)) only [fX10_commonDivisor_7, fX10_commonDivisor_7b, LIT, n_le, Nat.le_refl, fin x h1 h2, ↓reduceIte]
theorem c_pow {h : ai_H} {f j : Nat} (hf : f ≤ 100) (hj : j ≤ 6) : fX10_clear_63 n bi_K h (nI j) (nI f) (1 : Int64) (nI 0) = some (lN (f ^ j), h) := by
  refine lp_up (F := fun k (q : Nat) i => fX10_clear_63 n k h (nI j) (nI f) (lN q) (nI i)) (N := j) (P := fun i q => q = f ^ i) (Q := fun r => r = some (lN (f ^ j), h)) ?_ ?_ j bi_K 1 0 (by omega) (by unfold bi_K; omega) rfl
  · intro k q i hi hP
    left
    refine ⟨q * f, ?_, by rw [hP, Nat.pow_succ]⟩
    simp (disch := first | omega | assumption | (simp only [wL_1, wL_22, wI_2, wA_2, wQ_1, wQ_21] <;> first | assumption | omega)) only [fX10_clear_63, fX10_clear_63b, LIT, LITm, nI_add, n_mul, fa_or, n_31m, n_shl0, n_le, n_lt, n_eq, Option.bind_some, nI_l, lN_mul, show ¬ j ≤ i by omega, ↓reduceIte]
  · intro k q hP
    simp (disch := first | omega | assumption | (simp only [wL_1, wL_22, wI_2, wA_2, wQ_1, wQ_21] <;> first | assumption | omega)) only [fX10_clear_63, fX10_clear_63b, LIT, LITm, nI_add, n_mul, fa_or, n_31m, n_shl0, n_le, n_lt, n_eq, Option.bind_some, hP, Nat.le_refl, ↓reduceIte]
theorem c_clear (hn : 239 ≤ n) (hK : cK s t A) (hA : wfA A) : fX10_clear n (mk s) 1 x y = some (if wiV 0 x 6 = true ∧ wiV 0 y 1 = true then lN (clrV (aT A 0 7) x.toNatClampNeg y) else -1, mk s) := by
  have ht := cK_t hK
  have h7 := hA.1.2.1
  have e3 := hK.2.1
  have c7 : s.1 t 7 = nI (aT A 0 7) := (CTp t (aT A)).2.2.2.2.2.2.2.1 s hK.2.2.1
  have hg := c_gcd (n := n) (h := mk s) (a := 100) (b := 100 - aT A 0 7) (by omega) (by omega) (by omega)
  have g1 : 1 ≤ Nat.gcd 100 (100 - aT A 0 7) := Nat.gcd_pos_of_pos_left _ (by omega)
  have g2 : Nat.gcd 100 (100 - aT A 0 7) ≤ 100 := Nat.le_of_dvd (by omega) (Nat.gcd_dvd_left _ _)
  unfold fX10_clear fX10_clear_52
  by_cases hx : wiV 0 x 6 = true
  · by_cases hy : wiV 0 y 1 = true
    · rw [if_pos ⟨hx, hy⟩]
      obtain ⟨j, -, hj, rfl⟩ := wiV_t (by omega) (by omega) hx
      rw [cl_n (by omega)]
      unfold clrV
      have d1 : (100 - aT A 0 7) / Nat.gcd 100 (100 - aT A 0 7) ≤ 100 := Nat.le_trans (Nat.div_le_self _ _) (by omega)
      have d2 : 100 / Nat.gcd 100 (100 - aT A 0 7) ≤ 100 := Nat.div_le_self _ _
      by_cases h0 : y = nI 0
      · rw [if_pos h0]
        have cp := c_pow (n := n) (h := mk s) d1 hj
        simp (disch := first | omega | assumption | (simp only [wL_1, wL_22, wI_2, wA_2, wQ_1, wQ_21] <;> first | assumption | omega)) only [LIT, LITm, nI_add, n_mul, fa_or, n_31m, n_shl0, n_le, n_lt, n_eq, Option.bind_some, B_K hn, c_within, hx, hy, e3, B_t hn ht, c7, n_sub, hg, n_dI, cp, h0, Bool.toNat_true, Nat.reduceEqDiff, Nat.reduceLeDiff, not_true_eq_false, not_false_eq_true, ↓reduceIte]
        rw [h0] at hy
        simp (disch := first | omega | assumption | (simp only [wL_1, wL_22, wI_2, wA_2, wQ_1, wQ_21] <;> first | assumption | omega)) only [hy, Bool.toNat_true, Nat.reduceEqDiff, Nat.reduceLeDiff, n_eq, not_false_eq_true, ↓reduceIte]
      · rw [if_neg h0]
        have cp := c_pow (n := n) (h := mk s) d2 hj
        simp (disch := first | omega | assumption | (simp only [wL_1, wL_22, wI_2, wA_2, wQ_1, wQ_21] <;> first | assumption | omega)) only [LIT, LITm, nI_add, n_mul, fa_or, n_31m, n_shl0, n_le, n_lt, n_eq, Option.bind_some, B_K hn, c_within, hx, hy, e3, B_t hn ht, c7, n_sub, hg, n_dI, cp, h0, Bool.toNat_true, Nat.reduceEqDiff, Nat.reduceLeDiff, not_false_eq_true, ↓reduceIte]
    · rw [if_neg (fun h => hy h.2)]
      simp (disch := first | omega | assumption | (simp only [wL_1, wL_22, wI_2, wA_2, wQ_1, wQ_21] <;> first | assumption | omega)) only [LIT, LITm, nI_add, n_mul, fa_or, n_31m, n_shl0, n_le, n_lt, n_eq, Option.bind_some, B_K hn, c_within, hx, bF hy, Bool.toNat_true, Bool.toNat_false, Nat.reduceEqDiff, Nat.reduceLeDiff, not_true_eq_false, ↓reduceIte]
  · rw [if_neg (fun h => hx h.1)]
    simp (disch := first | omega | assumption | (simp only [wL_1, wL_22, wI_2, wA_2, wQ_1, wQ_21] <;> first | assumption | omega)) only [LIT, LITm, nI_add, n_mul, fa_or, n_31m, n_shl0, n_le, n_lt, n_eq, Option.bind_some, B_K hn, c_within, bF hx, Bool.toNat_false, ↓reduceIte]
theorem nL_dJ {a d : Nat} (ha : a < 2 ^ 63) (h0 : 0 < d) (hd : d < 2 ^ 63) : dJ (lN a) (lN d) = some (lN (a / d)) := by
  unfold dJ
  rw [if_neg (fun h => by have := (pk_lEQ (b := 0) hd (by omega)).mp h; omega), pk_lDiv ha h0 hd]
theorem nL_rJ {a d : Nat} (ha : a < 2 ^ 63) (h0 : 0 < d) (hd : d < 2 ^ 63) : rJ (lN a) (lN d) = some (lN (a % d)) := by
  unfold rJ
  rw [if_neg (fun h => by have := (pk_lEQ (b := 0) hd (by omega)).mp h; omega), pk_lRem ha h0 hd]
theorem m_gcd {h : ai_H} {u c d : Nat} (hd : d ≤ 1) (hu : u < 2 ^ 63) (hc : c < 2 ^ 63) : ∀ m k a b, b ≤ a → 1 ≤ a → a < 2 ^ 63 → a * b < 2 ^ m → m < k → fX11_clear_76 n k h (nI d) (lN u) (lN c) (lN a) (lN b) = some (lN ((if d = 0 then u else c) / Nat.gcd a b), h) := by
  have z0 : ∀ k : Nat, k < 2 ^ 63 → ((lN k = (0 : Int64)) = (k = 0)) := fun k hk => propext (pk_lEQ (b := 0) hk (by omega))
  have base : ∀ k a, 1 ≤ a → a < 2 ^ 63 → fX11_clear_76 n (k + 1) h (nI d) (lN u) (lN c) (lN a) (lN 0) = some (lN ((if d = 0 then u else c) / Nat.gcd a 0), h) := by
    intro k a h1 h2
    rw [Nat.gcd_zero_right]
    have e1 : dJ (lN u) (lN a) = some (lN (u / a)) := nL_dJ hu (by omega) h2
    have e2 : dJ (lN c) (lN a) = some (lN (c / a)) := nL_dJ hc (by omega) h2
    rcases (by omega : d = 0 ∨ d = 1) with rfl | rfl
    · simp (disch := omega) only [fX11_clear_76, fX11_clear_76b, LIT, Option.bind_some, n_eq, CMP, z0, e1, not_true_eq_false, ↓reduceIte]
    · simp (disch := omega) only [fX11_clear_76, fX11_clear_76b, LIT, Option.bind_some, n_eq, CMP, z0, e2, Nat.reduceEqDiff, Nat.reduceLeDiff, not_false_eq_true, ↓reduceIte]
  intro m
  induction m with
  | zero =>
    intro k a b h1 h2 h3 h4 h5
    obtain ⟨k, rfl⟩ : ∃ k', k = k' + 1 := ⟨k - 1, by omega⟩
    have b0 : b = 0 := by
      rcases Nat.eq_zero_or_pos b with e | e
      · exact e
      · have := Nat.mul_le_mul h2 e
        omega
    subst b0
    exact base k a h2 h3
  | succ m ih =>
    intro k a b h1 h2 h3 h4 h5
    obtain ⟨k, rfl⟩ : ∃ k', k = k' + 1 := ⟨k - 1, by omega⟩
    by_cases b0 : b = 0
    · subst b0
      exact base k a h2 h3
    · have hm : a % b < b := Nat.mod_lt _ (by omega)
      have hh : 2 * (a % b) ≤ a := by
        have e := Nat.div_add_mod a b
        have q1 : 1 ≤ a / b := Nat.div_pos h1 (by omega)
        have q2 := Nat.mul_le_mul_left b q1
        omega
      have hp : b * (a % b) < 2 ^ m := by
        have e := Nat.mul_le_mul_left b hh
        rw [Nat.mul_comm b a, ← Nat.mul_assoc, Nat.mul_comm b 2, Nat.mul_assoc] at e
        rw [Nat.pow_succ] at h4
        omega
      have st : fX11_clear_76 n (k + 1) h (nI d) (lN u) (lN c) (lN a) (lN b) = fX11_clear_76 n k h (nI d) (lN u) (lN c) (lN b) (lN (a % b)) := by
        have er : rJ (lN a) (lN b) = some (lN (a % b)) := nL_rJ h3 (by omega) (by omega)
        have eb := z0 b (by omega)
        simp only [fX11_clear_76, fX11_clear_76b, LIT, Option.bind_some, CMP, eb, b0, er, ↓reduceIte]
      rw [st, ih k b (a % b) (by omega) (by omega) (by omega) hp (by omega), Nat.gcd_comm a b, Nat.gcd_rec b a, Nat.gcd_comm (a % b) b]
theorem m_clear (hn : 239 ≤ n) (hK : mK s A) (hA : wfA A) : ∃ s' : zS, fX11_clear n (mk s) 187 x y = some (if wiV 0 x 6 = true ∧ wiV 0 y 1 = true then lN (clrV (aT A 0 7) x.toNatClampNeg y) else -1, mk s') ∧ frT s s' := by
  have h7 := hA.1.2.1
  have ft := m_th s
  have hT := mTd_T ft.1 hK.1
  have c7 := (MTp (aT A)).2.2.2.2.2.2.2.1 _ hT
  refine ⟨wI s 187 2 (nI 0), ?_, ft⟩
  unfold fX11_clear
  by_cases hx : wiV 0 x 6 = true
  · by_cases hy : wiV 0 y 1 = true
    · rw [if_pos ⟨hx, hy⟩]
      obtain ⟨j, -, hj, rfl⟩ := wiV_t (by omega) (by omega) hx
      obtain ⟨d, -, hd, rfl⟩ := wiV_t (by omega) (by omega) hy
      rw [cl_n (by omega)]
      obtain ⟨R, hR⟩ : ∃ R, R = clrV (aT A 0 7) j (nI d) := ⟨_, rfl⟩
      rw [← hR]
      have hp : ∀ a, a ≤ 100 → ∀ i, i ≤ 6 → a ^ i ≤ 1000000000000 := fun a ha i hi => Nat.le_trans (Nat.pow_le_pow_left ha i) (Nat.le_trans (Nat.pow_le_pow_right (by omega) hi) (by decide))
      have L : fX11_clear_36 n bi_K (mk (wI s 187 2 (nI 0))) 187 (nI j) (nI d) (1 : Int64) (1 : Int64) (nI 0) = some (lN R, mk (wI s 187 2 (nI 0))) := by
        refine lp_up (F := fun k (q : Nat × Nat) i => fX11_clear_36 n k (mk (wI s 187 2 (nI 0))) 187 (nI j) (nI d) (lN q.1) (lN q.2) (nI i)) (N := j) (P := fun i q => q.1 = (100 - aT A 0 7) ^ i ∧ q.2 = 100 ^ i) (Q := fun r => r = some (lN R, mk (wI s 187 2 (nI 0)))) ?_ ?_ j bi_K (1, 1) 0 (by omega) (by unfold bi_K; omega) ⟨rfl, rfl⟩
        · intro k q i hi hP
          left
          refine ⟨(q.1 * (100 - aT A 0 7), q.2 * 100), ?_, by rw [hP.1, Nat.pow_succ], by rw [hP.2, Nat.pow_succ]⟩
          have e100 : (100 : Int64) = lN 100 := rfl
          simp (disch := first | omega | assumption | (simp only [wL_1, wL_22, wI_2, wA_2, wQ_1, wQ_21] <;> first | assumption | omega)) only [fX11_clear_36, fX11_clear_36b, LIT, LITm, nI_add, n_mul, fa_or, n_31m, n_shl0, n_le, n_lt, n_eq, Option.bind_some, B_m hn, B_ma hn, c7, n_sub, nI_l, e100, lN_mul, show ¬ j ≤ i by omega, ↓reduceIte]
        · intro k q hP
          obtain ⟨u, v⟩ := q
          obtain ⟨h1, h2⟩ := hP
          simp only at h1 h2 ⊢
          have b1 := hp (100 - aT A 0 7) (by omega) j hj
          have b2 := hp 100 (by omega) j hj
          rw [← h1] at b1
          rw [← h2] at b2
          have le : u ≤ v := by rw [h1, h2]; exact Nat.pow_le_pow_left (by omega) j
          have v1 : 1 ≤ v := by rw [h2]; exact Nat.pow_pos (by omega)
          have G := m_gcd (n := n) (h := mk (wI s 187 2 (nI 0))) (u := u) (c := v) (d := d) hd (by omega) (by omega) 80 bi_K v u le v1 (by omega) (Nat.lt_of_le_of_lt (Nat.mul_le_mul b2 b1) (by decide)) (by unfold bi_K; omega)
          have hf := clr_all ⟨aT A 0 7, by omega⟩ ⟨j, by omega⟩
          simp only at hf
          rw [← h1, ← h2] at hf
          have hRv : R = (if d = 0 then u else v) / Nat.gcd v u := by
            rw [hR]
            unfold clrV
            rcases (by omega : d = 0 ∨ d = 1) with rfl | rfl
            · rw [if_pos rfl, if_pos rfl, hf.1]
            · rw [if_neg (by decide), if_neg (by omega), hf.2]
          rw [hRv]
          simp (disch := first | omega | assumption | (simp only [wL_1, wL_22, wI_2, wA_2, wQ_1, wQ_21] <;> first | assumption | omega)) only [fX11_clear_36, fX11_clear_36b, LIT, LITm, nI_add, n_mul, fa_or, n_31m, n_shl0, n_le, n_lt, n_eq, Option.bind_some, G, Nat.le_refl, ↓reduceIte]
      simp (disch := first | omega | assumption | (simp only [wL_1, wL_22, wI_2, wA_2, wQ_1, wQ_21] <;> first | assumption | omega)) only [LIT, LITm, nI_add, n_mul, fa_or, n_31m, n_shl0, n_le, n_lt, n_eq, Option.bind_some, B_m hn, m_within, wiV_n, L, Bool.toNat_true, Nat.reduceEqDiff, Nat.reduceLeDiff, not_false_eq_true, ↓reduceIte]
    · rw [if_neg (fun h => hy h.2)]
      simp (disch := first | omega | assumption | (simp only [wL_1, wL_22, wI_2, wA_2, wQ_1, wQ_21] <;> first | assumption | omega)) only [LIT, LITm, nI_add, n_mul, fa_or, n_31m, n_shl0, n_le, n_lt, n_eq, Option.bind_some, B_m hn, m_within, hx, bF hy, Bool.toNat_true, Bool.toNat_false, Nat.reduceEqDiff, Nat.reduceLeDiff, not_true_eq_false, ↓reduceIte]
  · rw [if_neg (fun h => hx h.1)]
    simp (disch := first | omega | assumption | (simp only [wL_1, wL_22, wI_2, wA_2, wQ_1, wQ_21] <;> first | assumption | omega)) only [LIT, LITm, nI_add, n_mul, fa_or, n_31m, n_shl0, n_le, n_lt, n_eq, Option.bind_some, B_m hn, m_within, bF hx, Bool.toNat_false, ↓reduceIte]
end Sm
