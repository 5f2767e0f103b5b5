/-! ===== a law's value, by the class ===== -/
theorem CMP : (∀ x y : Int64, (nI 0 ≤ lg_cmp x y) = (y ≤ x)) ∧ (∀ x y : Int64, (lg_cmp x y ≤ nI 0) = (x ≤ y)) ∧ (∀ x y : Int64, (nI 0 < lg_cmp x y) = (y < x)) ∧ (∀ x y : Int64, (lg_cmp x y < nI 0) = (x < y)) ∧ (∀ x y : Int64, (lg_cmp x y = nI 0) = (x = y)) :=
  ⟨fun x y => propext (lg_cmp_ge x y), fun x y => propext (lg_cmp_le x y), fun x y => propext (lg_cmp_gt x y), fun x y => propext (lg_cmp_lt x y), fun x y => propext (lg_cmp_eq x y)⟩
theorem bm64 {z : Int} (h1 : -9223372036854775808 ≤ z) (h2 : z < 9223372036854775808) : z.bmod (2 ^ 64) = z := by
  rw [Int.bmod_def]
  split <;> omega
theorem bd_b (c : Prop) [Decidable c] : bdV (b64 c) = some (b64 c) := by
  unfold b64
  split <;> decide
theorem bdd_b (c : Prop) [Decidable c] : bdd (b64 c) := by
  unfold b64 bdd
  split <;> decide
theorem bdV_some {x : Int64} (h : bdd x) : bdV x = some x := if_pos h
theorem bdV_i {x y : Int64} (h : bdV x = some y) : y = x ∧ bdd x := by
  unfold bdV at h
  split at h
  · cases h
    exact ⟨rfl, by assumption⟩
  · cases h
def absV (a : Int64) : Int64 := if 0 < a then a else -a
theorem abs_i {a : Int64} (h : bdd a) : (absV a).toInt = (a.toInt.natAbs : Int) := by
  obtain ⟨h1, h2⟩ := h
  have z : (0 : Int64).toInt = 0 := by decide
  unfold absV
  split
  · rename_i h0
    rw [fa_lt64, z] at h0
    omega
  · rename_i h0
    rw [fa_lt64, z] at h0
    rw [Int64.toInt_neg, bm64 (by omega) (by omega)]
    omega
theorem tm_i {a b : Int64} (ha : bdd a) (hb : bdd b) (h : a.toInt.natAbs * b.toInt.natAbs ≤ 1000000000000) : (a * b).toInt = a.toInt * b.toInt ∧ bdd (a * b) := by
  have e := Int.natAbs_mul a.toInt b.toInt
  rw [← e] at h
  have e2 : (a * b).toInt = a.toInt * b.toInt := by
    rw [Int64.toInt_mul]
    exact bm64 (by omega) (by omega)
  refine ⟨e2, ?_⟩
  unfold bdd
  rw [e2]
  omega
theorem tm_q {a b : Int64} (ha : bdd a) (hb : bdd b) (h0 : a ≠ 0) : ∃ q, dJ (1000000000000 : Int64) (absV a) = some q ∧ (absV b ≤ q ↔ a.toInt.natAbs * b.toInt.natAbs ≤ 1000000000000) := by
  have ea := abs_i ha
  have eb := abs_i hb
  have z : (0 : Int64).toInt = 0 := by decide
  have zz : (1000000000000 : Int64).toInt = 1000000000000 := by decide
  have hn : a.toInt ≠ 0 := fun e => h0 (Int64.toInt_inj.mp (by rw [e, z]))
  have hp : 0 < a.toInt.natAbs := by omega
  have hne : absV a ≠ 0 := fun e => by
    rw [e, z] at ea
    omega
  refine ⟨_, if_neg hne, ?_⟩
  have hd : ((1000000000000 : Int) / (a.toInt.natAbs : Int)) = ((1000000000000 / a.toInt.natAbs : Nat) : Int) := by
    rw [Int.natCast_ediv]
    rfl
  have hle : 1000000000000 / a.toInt.natAbs ≤ 1000000000000 := Nat.div_le_self _ _
  rw [fa_le64, Int64.toInt_div, zz, ea, eb, Int.tdiv_eq_ediv_of_nonneg (by decide), hd, bm64 (by omega) (by omega), Nat.mul_comm, ← Nat.le_div_iff_mul_le hp]
  omega
theorem dv_i {a b : Int64} (ha : bdd a) : bdd (a / b) := by
  obtain ⟨h1, h2⟩ := ha
  have e := Int.natAbs_tdiv a.toInt b.toInt
  have h : a.toInt.natAbs / b.toInt.natAbs ≤ a.toInt.natAbs := Nat.div_le_self _ _
  unfold bdd
  rw [Int64.toInt_div, bm64 (by omega) (by omega)]
  omega
theorem c_join {n k : Nat} {h : ai_H} {a b : Int64} (ha : bdd a) (hb : bdd b) (hk : k = 12 ∨ k = 13 ∨ (27 ≤ k ∧ k ≤ 36)) : ∃ r, fX2_join n h (nI k) a b = some (r, h) ∧ bdV r = opV k a b := by
  have hk2 : k = 12 ∨ k = 13 ∨ k = 27 ∨ k = 28 ∨ k = 29 ∨ k = 30 ∨ k = 31 ∨ k = 32 ∨ k = 33 ∨ k = 34 ∨ k = 35 ∨ k = 36 := by omega
  rcases hk2 with rfl | rfl | rfl | rfl | rfl | rfl | rfl | rfl | rfl | rfl | rfl | rfl
  · refine ⟨b64 (a ≠ 0 ∨ b ≠ 0), ?_, bd_b _⟩
    unfold fX2_join fX2_join_128
    simp (disch := omega) only [LIT, LITm, nI_add, n_mul, fa_and, fa_or, n_shl1, n_le, n_lt, n_eq, Option.bind_some, CMP]
    by_cases h1 : a = 0 <;> by_cases h2 : b = 0 <;> simp [h1, h2, b64]
  · refine ⟨b64 (a ≠ 0 ∧ b ≠ 0), ?_, bd_b _⟩
    unfold fX2_join fX2_join_128
    simp (disch := omega) only [LIT, LITm, nI_add, n_mul, fa_and, fa_or, n_shl1, n_le, n_lt, n_eq, Option.bind_some, CMP]
    by_cases h1 : a = 0 <;> by_cases h2 : b = 0 <;> simp [h1, h2, b64]
  · refine ⟨b64 (a < b), ?_, bd_b _⟩
    unfold fX2_join fX2_join_128
    simp (disch := omega) only [LIT, LITm, nI_add, n_mul, fa_and, fa_or, n_shl1, n_le, n_lt, n_eq, Option.bind_some, CMP]
    by_cases h1 : b ≤ a
    · have h2 : ¬ a < b := by rw [fa_lt64]; rw [fa_le64] at h1; omega
      simp [h1, h2, b64]
    · have h2 : a < b := by rw [fa_lt64]; rw [fa_le64] at h1; omega
      simp [h1, h2, b64]
  · refine ⟨b64 (a ≤ b), ?_, bd_b _⟩
    unfold fX2_join fX2_join_128
    simp (disch := omega) only [LIT, LITm, nI_add, n_mul, fa_and, fa_or, n_shl1, n_le, n_lt, n_eq, Option.bind_some, CMP]
    by_cases h1 : b < a
    · have h2 : ¬ a ≤ b := by rw [fa_le64]; rw [fa_lt64] at h1; omega
      simp [h1, h2, b64]
    · have h2 : a ≤ b := by rw [fa_le64]; rw [fa_lt64] at h1; omega
      simp [h1, h2, b64]
  · refine ⟨b64 (a = b), ?_, bd_b _⟩
    unfold fX2_join fX2_join_128
    simp (disch := omega) only [LIT, LITm, nI_add, n_mul, fa_and, fa_or, n_shl1, n_le, n_lt, n_eq, Option.bind_some, CMP]
    by_cases h1 : a = b <;> simp [h1, b64]
  · refine ⟨b64 (a ≠ b), ?_, bd_b _⟩
    unfold fX2_join fX2_join_128
    simp (disch := omega) only [LIT, LITm, nI_add, n_mul, fa_and, fa_or, n_shl1, n_le, n_lt, n_eq, Option.bind_some, CMP]
    by_cases h1 : a = b <;> simp [h1, b64]
  · refine ⟨b64 (b ≤ a), ?_, bd_b _⟩
    unfold fX2_join fX2_join_128
    simp (disch := omega) only [LIT, LITm, nI_add, n_mul, fa_and, fa_or, n_shl1, n_le, n_lt, n_eq, Option.bind_some, CMP]
    by_cases h1 : a < b
    · have h2 : ¬ b ≤ a := by rw [fa_le64]; rw [fa_lt64] at h1; omega
      simp [h1, h2, b64]
    · have h2 : b ≤ a := by rw [fa_le64]; rw [fa_lt64] at h1; omega
      simp [h1, h2, b64]
  · refine ⟨b64 (b < a), ?_, bd_b _⟩
    unfold fX2_join fX2_join_128
    simp (disch := omega) only [LIT, LITm, nI_add, n_mul, fa_and, fa_or, n_shl1, n_le, n_lt, n_eq, Option.bind_some, CMP]
    by_cases h1 : a ≤ b
    · have h2 : ¬ b < a := by rw [fa_lt64]; rw [fa_le64] at h1; omega
      simp [h1, h2, b64]
    · have h2 : b < a := by rw [fa_lt64]; rw [fa_le64] at h1; omega
      simp [h1, h2, b64]
  · refine ⟨a + b, ?_, rfl⟩
    unfold fX2_join fX2_join_128
    simp (disch := omega) only [LIT, LITm, nI_add, n_mul, fa_and, fa_or, n_shl1, n_le, n_lt, n_eq, Option.bind_some, CMP]
    simp
  · refine ⟨a - b, ?_, rfl⟩
    unfold fX2_join fX2_join_128
    simp (disch := omega) only [LIT, LITm, nI_add, n_mul, fa_and, fa_or, n_shl1, n_le, n_lt, n_eq, Option.bind_some, CMP]
    simp
  · by_cases h0 : a = 0
    · subst h0
      have e : (0 : Int64).toInt.natAbs * b.toInt.natAbs ≤ 1000000000000 := by
        rw [show (0 : Int64).toInt.natAbs = 0 by decide, Nat.zero_mul]
        decide
      refine ⟨0 * b, ?_, ?_⟩
      · unfold fX2_join fX2_join_128
        simp (disch := omega) only [LIT, LITm, nI_add, n_mul, fa_and, fa_or, n_shl1, n_le, n_lt, n_eq, Option.bind_some, CMP]
        simp
      · rw [bdV_some (tm_i ha hb e).2]
        show _ = (if (0 : Int64).toInt.natAbs * b.toInt.natAbs ≤ 1000000000000 then some (0 * b) else none)
        rw [if_pos e]
    · obtain ⟨q, hq, hi⟩ := tm_q ha hb h0
      by_cases hm : a.toInt.natAbs * b.toInt.natAbs ≤ 1000000000000
      · refine ⟨a * b, ?_, ?_⟩
        · unfold fX2_join fX2_join_128
          simp (disch := omega) only [LIT, LITm, nI_add, n_mul, fa_and, fa_or, n_shl1, n_le, n_lt, n_eq, Option.bind_some, CMP]
          have hi' := hi.mpr hm
          unfold absV at hq hi'
          simp [h0, hq, hi']
        · rw [bdV_some (tm_i ha hb hm).2]
          show _ = (if a.toInt.natAbs * b.toInt.natAbs ≤ 1000000000000 then some (a * b) else none)
          rw [if_pos hm]
      · refine ⟨-9223372036854775808, ?_, ?_⟩
        · unfold fX2_join fX2_join_128
          simp (disch := omega) only [LIT, LITm, nI_add, n_mul, fa_and, fa_or, n_shl1, n_le, n_lt, n_eq, Option.bind_some, CMP]
          have hi' := fun e => hm (hi.mp e)
          unfold absV at hq hi'
          simp [h0, hq, hi']
        · show _ = (if a.toInt.natAbs * b.toInt.natAbs ≤ 1000000000000 then some (a * b) else none)
          rw [if_neg hm]
          decide
  · by_cases h0 : b = 0
    · refine ⟨-9223372036854775808, ?_, ?_⟩
      · unfold fX2_join fX2_join_128
        simp (disch := omega) only [LIT, LITm, nI_add, n_mul, fa_and, fa_or, n_shl1, n_le, n_lt, n_eq, Option.bind_some, CMP]
        simp [h0]
      · show _ = (if b = 0 then none else some (a / b))
        rw [if_pos h0]
        decide
    · refine ⟨a / b, ?_, ?_⟩
      · unfold fX2_join fX2_join_128
        simp (disch := omega) only [LIT, LITm, nI_add, n_mul, fa_and, fa_or, n_shl1, n_le, n_lt, n_eq, Option.bind_some, CMP]
        simp [h0, dJ]
      · rw [bdV_some (dv_i ha)]
        show _ = (if b = 0 then none else some (a / b))
        rw [if_neg h0]
theorem opV_b {k : Nat} {a b r : Int64} (ha : bdd a) (hb : bdd b) (hk : k = 12 ∨ k = 13 ∨ (27 ≤ k ∧ k ≤ 36)) (e : opV k a b = some r) : bdd r := by
  obtain ⟨r', -, h2⟩ := c_join (n := 0) (h := ai_h0) ha hb hk
  rw [e] at h2
  obtain ⟨rfl, h⟩ := bdV_i h2
  exact h
theorem c_isName {n k : Nat} {h : ai_H} (hk : k < 64) : fX7_isName n h (nI k) = some (nI (if 15 ≤ k ∧ k ≤ 21 then 1 else 0), h) := by
  unfold fX7_isName
  simp (disch := omega) only [LIT, LITm, nI_add, n_mul, fa_and, fa_or, n_shl1, n_le, n_lt, n_eq, Option.bind_some]
  (repeat' split) <;> first | rfl | (exfalso; omega)
theorem c_isWithin {n : Nat} {h : ai_H} {a b c : Int32} : fX10_isWithin n h a b c = some (nI (if a ≤ b ∧ b ≤ c then 1 else 0), h) := by
  unfold fX10_isWithin
  simp only [LIT, LITm, nI_add, n_mul, fa_and, fa_or, n_shl1, n_le, n_lt, n_eq, Option.bind_some]
  by_cases h1 : a ≤ b
  · have h1' : ¬ b < a := by rw [fa_lt]; rw [fa_le] at h1; omega
    by_cases h2 : b ≤ c
    · have h2' : ¬ c < b := by rw [fa_lt]; rw [fa_le] at h2; omega
      simp [h1, h2, h1', h2']
    · have h2' : c < b := by rw [fa_lt]; rw [fa_le] at h2; omega
      simp [h1, h2, h1', h2']
  · have h1' : b < a := by rw [fa_lt]; rw [fa_le] at h1; omega
    simp [h1, h1']
