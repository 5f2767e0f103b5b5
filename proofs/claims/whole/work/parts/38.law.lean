/-! ===== a law's value, by the class ===== -/
theorem n_31m {p : Nat} (hp : p < 32) : nI p &&& nI 31 = nI p := by
  rw [fa_and, show (31 : Nat) = 2 ^ 5 - 1 from rfl, Nat.and_two_pow_sub_one_eq_mod, Nat.mod_eq_of_lt hp]
theorem n_shl0 {p : Nat} (hp : p < 31) : nI 1 <<< nI p = nI (2 ^ p) := by
  have h := n_shl1 hp
  rwa [n_31m (by omega)] at h
theorem n_shr0 {b p : Nat} (hb : b < 2147483648) (hp : p < 31) : nI b >>> nI p = nI (b >>> p) := by
  have h := n_shr hb hp
  rwa [n_31m (by omega)] at h
theorem n_bitz {b p : Nat} (hb : b < 2147483648) (hp : p < 31) : ((nI b >>> nI p) &&& nI 1 = nI 0) = (b.testBit p = false) := by
  have h := n_bit0 hb hp
  rwa [n_31m (by omega)] at h
theorem n_bitv {b p : Nat} (hb : b < 2147483648) (hp : p < 31) : (nI b >>> nI p) &&& nI 1 = nI (b.testBit p).toNat := by
  have h := n_bit hb hp
  rw [n_31m (by omega)] at h
  rw [h]
  cases b.testBit p <;> rfl
theorem CMP : (∀ x y : Int64, (nI 0 ≤ lg_cmp x y) = (y ≤ x)) ∧ (∀ x y : Int64, (lg_cmp x y ≤ nI 0) = (x ≤ y)) ∧ (∀ x y : Int64, (nI 0 < lg_cmp x y) = (y < x)) ∧ (∀ x y : Int64, (lg_cmp x y < nI 0) = (x < y)) ∧ (∀ x y : Int64, (lg_cmp x y = nI 0) = (x = y)) :=
  ⟨fun x y => propext (lg_cmp_ge x y), fun x y => propext (lg_cmp_le x y), fun x y => propext (lg_cmp_gt x y), fun x y => propext (lg_cmp_lt x y), fun x y => propext (lg_cmp_eq x y)⟩
theorem bm64 {z : Int} (h1 : -9223372036854775808 ≤ z) (h2 : z < 9223372036854775808) : z.bmod (2 ^ 64) = z := by
  rw [Int.bmod_def]
  split <;> omega
theorem bd_b (c : Prop) [Decidable c] : bdV (b64 c) = some (b64 c) := by
  unfold b64
  split <;> decide
theorem bdd_b (c : Prop) [Decidable c] : bdd (b64 c) := by
  unfold b64 bdd
  split <;> decide
theorem bdV_some {x : Int64} (h : bdd x) : bdV x = some x := if_pos h
theorem bdV_i {x y : Int64} (h : bdV x = some y) : y = x ∧ bdd x := by
  unfold bdV at h
  split at h
  · cases h
    exact ⟨rfl, by assumption⟩
  · cases h
def absV (a : Int64) : Int64 := if 0 < a then a else -a
theorem abs_i {a : Int64} (h : bdd a) : (absV a).toInt = (a.toInt.natAbs : Int) := by
  obtain ⟨h1, h2⟩ := h
  have z : (0 : Int64).toInt = 0 := by decide
  unfold absV
  split
  · rename_i h0
    rw [fa_lt64, z] at h0
    omega
  · rename_i h0
    rw [fa_lt64, z] at h0
    rw [Int64.toInt_neg, bm64 (by omega) (by omega)]
    omega
theorem tm_i {a b : Int64} (ha : bdd a) (hb : bdd b) (h : a.toInt.natAbs * b.toInt.natAbs ≤ 1000000000000) : (a * b).toInt = a.toInt * b.toInt ∧ bdd (a * b) := by
  have e := Int.natAbs_mul a.toInt b.toInt
  rw [← e] at h
  have e2 : (a * b).toInt = a.toInt * b.toInt := by
    rw [Int64.toInt_mul]
    exact bm64 (by omega) (by omega)
  refine ⟨e2, ?_⟩
  unfold bdd
  rw [e2]
  omega
theorem tm_q {a b : Int64} (ha : bdd a) (hb : bdd b) (h0 : a ≠ 0) : ∃ q, dJ (1000000000000 : Int64) (absV a) = some q ∧ (absV b ≤ q ↔ a.toInt.natAbs * b.toInt.natAbs ≤ 1000000000000) := by
  have ea := abs_i ha
  have eb := abs_i hb
  have z : (0 : Int64).toInt = 0 := by decide
  have zz : (1000000000000 : Int64).toInt = 1000000000000 := by decide
  have hn : a.toInt ≠ 0 := fun e => h0 (Int64.toInt_inj.mp (by rw [e, z]))
  have hp : 0 < a.toInt.natAbs := by omega
  have hne : absV a ≠ 0 := fun e => by
    rw [e, z] at ea
    omega
  refine ⟨_, if_neg hne, ?_⟩
  have hd : ((1000000000000 : Int) / (a.toInt.natAbs : Int)) = ((1000000000000 / a.toInt.natAbs : Nat) : Int) := by
    rw [Int.natCast_ediv]
    rfl
  have hle : 1000000000000 / a.toInt.natAbs ≤ 1000000000000 := Nat.div_le_self _ _
  rw [Nat.mul_comm a.toInt.natAbs, ← Nat.le_div_iff_mul_le hp, fa_le64, Int64.toInt_div, zz, ea, eb, Int.tdiv_eq_ediv_of_nonneg (by decide), hd]
  generalize 1000000000000 / a.toInt.natAbs = Q at hle ⊢
  rw [bm64 (by omega) (by omega)]
  omega
theorem dv_i {a b : Int64} (ha : bdd a) : bdd (a / b) := by
  obtain ⟨h1, h2⟩ := ha
  have h : (a.toInt.tdiv b.toInt).natAbs ≤ a.toInt.natAbs := by
    rw [Int.natAbs_tdiv]
    exact Nat.div_le_self _ _
  unfold bdd
  rw [Int64.toInt_div]
  generalize a.toInt.tdiv b.toInt = f at h ⊢
  rw [bm64 (by omega) (by omega)]
  omega
theorem c_join {n k : Nat} {h : ai_H} {a b : Int64} (ha : bdd a) (hb : bdd b) (hk : k = 12 ∨ k = 13 ∨ (27 ≤ k ∧ k ≤ 36)) : ∃ r, fX2_join n h (nI k) a b = some (r, h) ∧ bdV r = opV k a b := by
  have hk2 : k = 12 ∨ k = 13 ∨ k = 27 ∨ k = 28 ∨ k = 29 ∨ k = 30 ∨ k = 31 ∨ k = 32 ∨ k = 33 ∨ k = 34 ∨ k = 35 ∨ k = 36 := by omega
  rcases hk2 with rfl | rfl | rfl | rfl | rfl | rfl | rfl | rfl | rfl | rfl | rfl | rfl
  · refine ⟨b64 (a ≠ 0 ∨ b ≠ 0), ?_, bd_b _⟩
    unfold fX2_join fX2_join_128
    simp (disch := omega) only [LIT, LITm, nI_add, n_mul, fa_or, n_31m, n_shl0, n_le, n_lt, n_eq, Option.bind_some, CMP, Nat.reduceEqDiff, Nat.reduceLeDiff, ↓reduceIte]
    by_cases h1 : a = 0 <;> by_cases h2 : b = 0 <;> simp [h1, h2, b64]
  · refine ⟨b64 (a ≠ 0 ∧ b ≠ 0), ?_, bd_b _⟩
    unfold fX2_join fX2_join_128
    simp (disch := omega) only [LIT, LITm, nI_add, n_mul, fa_or, n_31m, n_shl0, n_le, n_lt, n_eq, Option.bind_some, CMP, Nat.reduceEqDiff, Nat.reduceLeDiff, ↓reduceIte]
    by_cases h1 : a = 0 <;> by_cases h2 : b = 0 <;> simp [h1, h2, b64]
  · refine ⟨b64 (a < b), ?_, bd_b _⟩
    unfold fX2_join fX2_join_128
    simp (disch := omega) only [LIT, LITm, nI_add, n_mul, fa_or, n_31m, n_shl0, n_le, n_lt, n_eq, Option.bind_some, CMP, Nat.reduceEqDiff, Nat.reduceLeDiff, ↓reduceIte]
    by_cases h1 : b ≤ a
    · have h2 : ¬ a < b := by rw [fa_lt64]; rw [fa_le64] at h1; omega
      simp [h1, h2, b64]
    · have h2 : a < b := by rw [fa_lt64]; rw [fa_le64] at h1; omega
      simp [h1, h2, b64]
  · refine ⟨b64 (a ≤ b), ?_, bd_b _⟩
    unfold fX2_join fX2_join_128
    simp (disch := omega) only [LIT, LITm, nI_add, n_mul, fa_or, n_31m, n_shl0, n_le, n_lt, n_eq, Option.bind_some, CMP, Nat.reduceEqDiff, Nat.reduceLeDiff, ↓reduceIte]
    by_cases h1 : b < a
    · have h2 : ¬ a ≤ b := by rw [fa_le64]; rw [fa_lt64] at h1; omega
      simp [h1, h2, b64]
    · have h2 : a ≤ b := by rw [fa_le64]; rw [fa_lt64] at h1; omega
      simp [h1, h2, b64]
  · refine ⟨b64 (a = b), ?_, bd_b _⟩
    unfold fX2_join fX2_join_128
    simp (disch := omega) only [LIT, LITm, nI_add, n_mul, fa_or, n_31m, n_shl0, n_le, n_lt, n_eq, Option.bind_some, CMP, Nat.reduceEqDiff, Nat.reduceLeDiff, ↓reduceIte]
    by_cases h1 : a = b <;> simp [h1, b64]
  · refine ⟨b64 (a ≠ b), ?_, bd_b _⟩
    unfold fX2_join fX2_join_128
    simp (disch := omega) only [LIT, LITm, nI_add, n_mul, fa_or, n_31m, n_shl0, n_le, n_lt, n_eq, Option.bind_some, CMP, Nat.reduceEqDiff, Nat.reduceLeDiff, ↓reduceIte]
    by_cases h1 : a = b <;> simp [h1, b64]
  · refine ⟨b64 (b ≤ a), ?_, bd_b _⟩
    unfold fX2_join fX2_join_128
    simp (disch := omega) only [LIT, LITm, nI_add, n_mul, fa_or, n_31m, n_shl0, n_le, n_lt, n_eq, Option.bind_some, CMP, Nat.reduceEqDiff, Nat.reduceLeDiff, ↓reduceIte]
    by_cases h1 : a < b
    · have h2 : ¬ b ≤ a := by rw [fa_le64]; rw [fa_lt64] at h1; omega
      simp [h1, h2, b64]
    · have h2 : b ≤ a := by rw [fa_le64]; rw [fa_lt64] at h1; omega
      simp [h1, h2, b64]
  · refine ⟨b64 (b < a), ?_, bd_b _⟩
    unfold fX2_join fX2_join_128
    simp (disch := omega) only [LIT, LITm, nI_add, n_mul, fa_or, n_31m, n_shl0, n_le, n_lt, n_eq, Option.bind_some, CMP, Nat.reduceEqDiff, Nat.reduceLeDiff, ↓reduceIte]
    by_cases h1 : a ≤ b
    · have h2 : ¬ b < a := by rw [fa_lt64]; rw [fa_le64] at h1; omega
      simp [h1, h2, b64]
    · have h2 : b < a := by rw [fa_lt64]; rw [fa_le64] at h1; omega
      simp [h1, h2, b64]
  · refine ⟨a + b, ?_, rfl⟩
    unfold fX2_join fX2_join_128
    simp (disch := omega) only [LIT, LITm, nI_add, n_mul, fa_or, n_31m, n_shl0, n_le, n_lt, n_eq, Option.bind_some, CMP, Nat.reduceEqDiff, Nat.reduceLeDiff, ↓reduceIte]
    try simp
  · refine ⟨a - b, ?_, rfl⟩
    unfold fX2_join fX2_join_128
    simp (disch := omega) only [LIT, LITm, nI_add, n_mul, fa_or, n_31m, n_shl0, n_le, n_lt, n_eq, Option.bind_some, CMP, Nat.reduceEqDiff, Nat.reduceLeDiff, ↓reduceIte]
    try simp
  · by_cases h0 : a = 0
    · subst h0
      have e : (0 : Int64).toInt.natAbs * b.toInt.natAbs ≤ 1000000000000 := by
        rw [show (0 : Int64).toInt.natAbs = 0 by decide, Nat.zero_mul]
        decide
      refine ⟨0 * b, ?_, ?_⟩
      · unfold fX2_join fX2_join_128
        simp (disch := omega) only [LIT, LITm, nI_add, n_mul, fa_or, n_31m, n_shl0, n_le, n_lt, n_eq, Option.bind_some, CMP, Nat.reduceEqDiff, Nat.reduceLeDiff, ↓reduceIte]
        try simp
      · rw [bdV_some (tm_i ha hb e).2]
        show _ = (if (0 : Int64).toInt.natAbs * b.toInt.natAbs ≤ 1000000000000 then some (0 * b) else none)
        rw [if_pos e]
    · obtain ⟨q, hq, hi⟩ := tm_q ha hb h0
      by_cases hm : a.toInt.natAbs * b.toInt.natAbs ≤ 1000000000000
      · refine ⟨a * b, ?_, ?_⟩
        · unfold fX2_join fX2_join_128
          simp (disch := omega) only [LIT, LITm, nI_add, n_mul, fa_or, n_31m, n_shl0, n_le, n_lt, n_eq, Option.bind_some, CMP, Nat.reduceEqDiff, Nat.reduceLeDiff, ↓reduceIte]
          have hi' := hi.mpr hm
          unfold absV at hq hi'
          simp [h0, hq, hi']
        · rw [bdV_some (tm_i ha hb hm).2]
          show _ = (if a.toInt.natAbs * b.toInt.natAbs ≤ 1000000000000 then some (a * b) else none)
          rw [if_pos hm]
      · refine ⟨-9223372036854775808, ?_, ?_⟩
        · unfold fX2_join fX2_join_128
          simp (disch := omega) only [LIT, LITm, nI_add, n_mul, fa_or, n_31m, n_shl0, n_le, n_lt, n_eq, Option.bind_some, CMP, Nat.reduceEqDiff, Nat.reduceLeDiff, ↓reduceIte]
          have hi' : ¬ absV b ≤ q := fun e => hm (hi.mp e)
          unfold absV at hq hi'
          simp [h0, hq, hi']
        · show _ = (if a.toInt.natAbs * b.toInt.natAbs ≤ 1000000000000 then some (a * b) else none)
          rw [if_neg hm]
          decide
  · by_cases h0 : b = 0
    · refine ⟨-9223372036854775808, ?_, ?_⟩
      · unfold fX2_join fX2_join_128
        simp (disch := omega) only [LIT, LITm, nI_add, n_mul, fa_or, n_31m, n_shl0, n_le, n_lt, n_eq, Option.bind_some, CMP, Nat.reduceEqDiff, Nat.reduceLeDiff, ↓reduceIte]
        simp [h0]
      · show _ = (if b = 0 then none else some (a / b))
        rw [if_pos h0]
        decide
    · refine ⟨a / b, ?_, ?_⟩
      · unfold fX2_join fX2_join_128
        simp (disch := omega) only [LIT, LITm, nI_add, n_mul, fa_or, n_31m, n_shl0, n_le, n_lt, n_eq, Option.bind_some, CMP, Nat.reduceEqDiff, Nat.reduceLeDiff, ↓reduceIte]
        simp [h0, dJ]
      · rw [bdV_some (dv_i ha)]
        show _ = (if b = 0 then none else some (a / b))
        rw [if_neg h0]
theorem opV_b {k : Nat} {a b r : Int64} (ha : bdd a) (hb : bdd b) (hk : k = 12 ∨ k = 13 ∨ (27 ≤ k ∧ k ≤ 36)) (e : opV k a b = some r) : bdd r := by
  obtain ⟨r', -, h2⟩ := c_join (n := 0) (h := ai_h0) ha hb hk
  rw [e] at h2
  obtain ⟨rfl, h⟩ := bdV_i h2
  exact h
theorem c_isName {n k : Nat} {h : ai_H} (hk : k < 64) : fX7_isName n h (nI k) = some (nI (if 15 ≤ k ∧ k ≤ 21 then 1 else 0), h) := by
  unfold fX7_isName
  simp (disch := omega) only [LIT, LITm, nI_add, n_mul, fa_and, fa_or, n_shl1, n_le, n_lt, n_eq, Option.bind_some]
  (repeat' split) <;> first | rfl | (exfalso; omega)
theorem c_isWithin {n : Nat} {h : ai_H} {a b c : Int32} : fX10_isWithin n h a b c = some (nI (if a ≤ b ∧ b ≤ c then 1 else 0), h) := by
  unfold fX10_isWithin
  simp only [LIT, LITm, nI_add, n_mul, fa_and, fa_or, n_shl1, n_le, n_lt, n_eq, Option.bind_some]
  by_cases h1 : a ≤ b
  · have h1' : ¬ b < a := by rw [fa_lt]; rw [fa_le] at h1; omega
    by_cases h2 : b ≤ c
    · have h2' : ¬ c < b := by rw [fa_lt]; rw [fa_le] at h2; omega
      simp [h1, h2, h1', h2']
    · have h2' : c < b := by rw [fa_lt]; rw [fa_le] at h2; omega
      simp [h1, h2, h1', h2']
  · have h1' : b < a := by rw [fa_lt]; rw [fa_le] at h1; omega
    simp [h1, h1']
/-! the stack of values -/
theorem n_dec {d : Nat} (h : 1 ≤ d) : nI d + m1 = nI (d - 1) := by
  rw [← n_sub h]
  exact (Int32.sub_eq_add_neg _ _).symm
theorem lp_0 {ρ : Type} {F : Nat → ρ} {Q : ρ → Prop} (h : ∀ k, Q (F (k + 1))) : Q (F bi_K) := h 4294967295
def stk (L : Nat → Int64) : List Int64 → Prop
  | [] => True
  | x :: r => L r.length = x ∧ stk L r
def bdl : List Int64 → Prop
  | [] => True
  | x :: r => bdd x ∧ bdl r
theorem stk_fr {L L' : Nat → Int64} : ∀ {st : List Int64}, (∀ j, j < st.length → L' j = L j) → stk L st → stk L' st
  | [], _, _ => trivial
  | x :: r, e, h => ⟨(e r.length (by simp)).trans h.1, stk_fr (fun j hj => e j (by simp only [List.length_cons]; omega)) h.2⟩
theorem updL_at {f : Nat → Int64} {i : Nat} {x : Int64} : vp_updL f i x i = x := by unfold vp_updL; exact if_pos rfl
theorem updL_ne {f : Nat → Int64} {i j : Nat} {x : Int64} (hne : j ≠ i) : vp_updL f i x j = f j := by unfold vp_updL; exact if_neg hne
theorem stk_push {L : Nat → Int64} {st : List Int64} {x : Int64} (h : stk L st) : stk (vp_updL L st.length x) (x :: st) := ⟨updL_at, stk_fr (fun j hj => updL_ne (by omega)) h⟩
theorem wfL_len {T : zT} {a b : Nat} {H : Nat → List Nat} (H0 : H a = []) (Hs : ∀ i, a ≤ i → i < b → wfS T i (H i) (H (i + 1))) : ∀ i, a ≤ i → i ≤ b → (H i).length ≤ i - a := by
  intro i
  induction i with
  | zero =>
    intro h1 h2
    have : a = 0 := by omega
    subst this
    rw [H0]
    simp
  | succ i ih =>
    intro h1 h2
    by_cases h : a = i + 1
    · subst h
      rw [H0]
      simp
    · have h3 := ih (by omega) (by omega)
      rcases Hs i (by omega) (by omega) with ⟨-, e⟩ | ⟨-, c, r, e1, e2⟩ | ⟨-, d, c, r, e1, e2⟩
      · rw [e]
        simp only [List.length_cons]
        omega
      · rw [e2]
        rw [e1] at h3
        simp only [List.length_cons] at h3 ⊢
        omega
      · rw [e2]
        rw [e1] at h3
        simp only [List.length_cons] at h3 ⊢
        omega
theorem two_of {α : Type} {st : List α} {m : Nat} (h : st.length = m + 1 + 1) : ∃ y x r, st = y :: x :: r ∧ r.length = m := by
  match st, h with
  | y :: x :: r, h => exact ⟨y, x, r, rfl, by simpa using h⟩
theorem one_of {α : Type} {st : List α} {m : Nat} (h : st.length = m + 1) : ∃ y r, st = y :: r ∧ r.length = m := by
  match st, h with
  | y :: r, h => exact ⟨y, r, rfl, by simpa using h⟩
theorem stV_len {T : zT} {nm : Nat → Int64} {i : Nat} {st st' : List Int64} {l l' : List Nat} (hs : wfS T i l l') (hl : st.length = l.length) (hb : bdl st) (hB : ∀ j, j < 7 → bdd (nm j)) (e : stV T nm i st = some st') : st'.length = l'.length ∧ bdl st' := by
  unfold stV at e
  rcases hs with ⟨⟨h1, h2⟩ | h1, e1⟩ | ⟨h1, c, r, e1, e2⟩ | ⟨h1, d, c, r, e1, e2⟩
  · rw [if_pos h1] at e
    cases e
    rw [e1]
    refine ⟨by simp [hl], ?_, hb⟩
    unfold bdd
    rw [lN_toInt (by omega)]
    omega
  · rw [if_neg (by omega), if_pos h1] at e
    cases e
    rw [e1]
    exact ⟨by simp [hl], hB _ (by omega), hb⟩
  · rw [if_neg (by omega), if_neg (by omega), if_pos h1] at e
    rw [e1] at hl
    obtain ⟨y, st0, rfl, h0⟩ := one_of hl
    cases e
    rw [e2]
    exact ⟨by simp [h0], bdd_b _, hb.2⟩
  · rw [if_neg (by omega), if_neg (by omega), if_neg (by omega)] at e
    rw [e1] at hl
    obtain ⟨y, x, st0, rfl, h0⟩ := two_of hl
    simp only at e
    cases ho : opV (T 21 i) x y with
    | none => rw [ho] at e; cases e
    | some v =>
      rw [ho] at e
      cases e
      rw [e2]
      exact ⟨by simp [h0], opV_b hb.2.1 hb.1 h1 ho, hb.2.2⟩
theorem evV_none {T : zT} {nm : Nat → Int64} {a k : Nat} (h : evV T nm a k = none) : ∀ j, evV T nm a (k + j) = none
  | 0 => h
  | j + 1 => by
    show (evV T nm a (k + j)).bind _ = _
    rw [evV_none h j]
    rfl
theorem evV_s {T : zT} {nm : Nat → Int64} {a i : Nat} {st : List Int64} (h : a ≤ i) (e : evV T nm a (i - a) = some st) : evV T nm a (i + 1 - a) = stV T nm i st := by
  rw [show i + 1 - a = (i - a) + 1 by omega]
  show (evV T nm a (i - a)).bind (stV T nm (a + (i - a))) = _
  rw [e, show a + (i - a) = i by omega]
  rfl
theorem bnd_s {α β : Type} {x : Option α} {v : α} (h : x = some v) (f : α → Option β) : x.bind f = f v := by rw [h]; rfl
theorem c_value {n t w : Nat} {s : zS} {T : zT} {nm : Nat → Int64} {x : Int64} (hn : 239 ≤ n) (ht : t = 6 ∨ t = 29) (hW : WT T) (hT : cTd s.1 t T) (hw : w < 3) (hN : ∀ j, j < 7 → s.2.1 (t + 21) j = nm j) (hB : ∀ j, j < 7 → bdd (nm j)) : ∃ s' : zS, fX2_value n (mk s) (t + 16) (nI w) x = some ((lawV T w nm).getD x, mk s') ∧ s'.1 = s.1 ∧ s'.2.2 = s.2.2 ∧ ∀ a, a ≠ t + 22 → s'.2.1 a = s.2.1 a := by
  have hL := hT.2.2.2.2.2.2.2 w hw
  unfold fX2_value
  by_cases h18 : T 18 w = 0
  · obtain ⟨e1, e2⟩ := hL.1 h18
    simp (disch := omega) only [LIT, LITm, nI_add, n_mul, fa_and, fa_or, n_shl1, n_le, n_lt, n_eq, Option.bind_some, B_t hn ht, e1, Nat.not_lt_zero, show w ≤ 2 by omega, ↓reduceIte]
    refine lp_0 (F := fun k => fX2_value_22 n k (mk s) (t + 16) (nI w) x (nI 0) (nI 0)) (Q := fun r => ∃ s' : zS, r = some ((lawV T w nm).getD x, mk s') ∧ s'.1 = s.1 ∧ s'.2.2 = s.2.2 ∧ ∀ a, a ≠ t + 22 → s'.2.1 a = s.2.1 a) ?_
    intro k
    refine ⟨s, ?_, rfl, rfl, fun _ _ => rfl⟩
    show fX2_value_22b n (fX2_value_22 n k) (mk s) (t + 16) (nI w) x (nI 0) (nI 0) = _
    unfold fX2_value_22b
    rw [bnd_s (v := t + 18) (by simp only [B_t hn ht]), bnd_s (v := nI 0) (by simp (disch := omega) only [B_t hn ht, e2]), if_pos (by simp (disch := omega) only [n_le, Nat.le_refl])]
    unfold fX2_value_231
    rw [if_pos (by decide)]
    unfold lawV
    rw [if_pos h18]
    rfl
  · obtain ⟨hab, hb64, H, H0, Hb, Hs⟩ := hW.2.2.2.2.2.2 w hw h18
    obtain ⟨e1, e2, hk⟩ := hL.2 h18
    have hno : ∀ i, T 19 w ≤ i → i < T 20 w → evV T nm (T 19 w) (i + 1 - T 19 w) = none → lawV T w nm = none := by
      intro i h1 h2 h3
      unfold lawV
      rw [if_neg h18, show T 20 w - T 19 w = (i + 1 - T 19 w) + (T 20 w - i - 1) by omega, evV_none h3]
    simp (disch := omega) only [LIT, LITm, nI_add, n_mul, fa_and, fa_or, n_shl1, n_le, n_lt, n_eq, Option.bind_some, B_t hn ht, e1, Nat.not_lt_zero, show w ≤ 2 by omega, ↓reduceIte]
    refine lp_up (F := fun k (q : zS × List Int64) i => fX2_value_22 n k (mk q.1) (t + 16) (nI w) x (nI q.2.length) (nI i)) (N := T 20 w)
      (P := fun i q => q.1.1 = s.1 ∧ q.1.2.2 = s.2.2 ∧ (∀ a, a ≠ t + 22 → q.1.2.1 a = s.2.1 a) ∧ T 19 w ≤ i ∧ evV T nm (T 19 w) (i - T 19 w) = some q.2 ∧ q.2.length = (H i).length ∧ stk (q.1.2.1 (t + 22)) q.2 ∧ bdl q.2)
      (Q := fun r => ∃ s' : zS, r = some ((lawV T w nm).getD x, mk s') ∧ s'.1 = s.1 ∧ s'.2.2 = s.2.2 ∧ ∀ a, a ≠ t + 22 → s'.2.1 a = s.2.1 a) ?_ ?_ (T 20 w - T 19 w) bi_K (s, []) (T 19 w) (by omega) (by unfold bi_K; omega) ⟨rfl, rfl, fun _ _ => rfl, Nat.le_refl _, by rw [Nat.sub_self]; rfl, by rw [H0]; rfl, trivial, trivial⟩
    · intro k q i hi hP
      obtain ⟨s1, st⟩ := q
      obtain ⟨h1, h2, h3, h4, h5, h6, h7, h8⟩ := hP
      simp only at h1 h2 h3 h4 h5 h6 h7 h8 ⊢
      have hlen := wfL_len H0 Hs i h4 (by omega)
      have hs := Hs i h4 hi
      have hki := hk i h4 hi
      have hev := evV_s h4 h5
      have hNm : ∀ j, j < 7 → s1.2.1 (t + 21) j = nm j := fun j hj => by rw [h3 _ (by omega)]; exact hN j hj
      have f1 : ¬ T 20 w ≤ i := by omega
      have f2 : ¬ 64 ≤ i := by omega
      have f3 : st.length < 64 := by omega
      have hgo : ∀ (v : Int64) (d : Nat) (st' : List Int64), stV T nm i st = some st' → stk ((wL s1 (t + 22) d v).2.1 (t + 22)) st' → (wL s1 (t + 22) d v).1 = s.1 ∧ (wL s1 (t + 22) d v).2.2 = s.2.2 ∧ (∀ a, a ≠ t + 22 → (wL s1 (t + 22) d v).2.1 a = s.2.1 a) ∧ T 19 w ≤ i + 1 ∧ evV T nm (T 19 w) (i + 1 - T 19 w) = some st' ∧ st'.length = (H (i + 1)).length ∧ stk ((wL s1 (t + 22) d v).2.1 (t + 22)) st' ∧ bdl st' := by
        intro v d st' hst hk'
        obtain ⟨l1, l2⟩ := stV_len hs h6 h8 hB hst
        exact ⟨h1, h2, fun a ha => by rw [wL_ne ha]; exact h3 a ha, by omega, by rw [hev, hst], l1, hk', l2⟩
      have hs' := hs
      rcases hs' with ⟨⟨k1, k2⟩ | k1, -⟩ | ⟨k1, c, r, l1, -⟩ | ⟨k1, d, c, r, l1, -⟩
      · left
        refine ⟨(wL s1 (t + 22) st.length (lN (T 22 i)), lN (T 22 i) :: st), ?_, hgo _ _ _ ?_ ?_⟩
        · simp (disch := omega) only [fX2_value_22, fX2_value_22b, fX2_value_64, fX2_value_107, fX2_value_225, LIT, LITm, nI_add, n_mul, fa_and, fa_or, n_shl1, n_le, n_lt, n_eq, Option.bind_some, B_t hn ht, h1, e2, hki.1, hki.2, nI_l, f1, f2, f3, k1, not_true_eq_false, ↓reduceIte, List.length_cons]
        · unfold stV
          rw [if_pos k1]
        · rw [wL_at]
          exact stk_push h7
      · left
        refine ⟨(wL s1 (t + 22) st.length (nm (T 21 i - 15)), nm (T 21 i - 15) :: st), ?_, hgo _ _ _ ?_ ?_⟩
        · simp (disch := omega) only [fX2_value_22, fX2_value_22b, fX2_value_64, fX2_value_107, fX2_value_225, LIT, LITm, nI_add, n_mul, fa_and, fa_or, n_shl1, n_le, n_lt, n_eq, Option.bind_some, B_t hn ht, h1, e2, hki.1, hki.2, c_isName, n_sub, hNm, f1, f2, f3, k1, and_self, show ¬ T 21 i = 23 by omega, show ¬ (1 = 0) by omega, not_false_eq_true, ↓reduceIte, List.length_cons]
        · unfold stV
          rw [if_neg (by omega), if_pos k1]
        · rw [wL_at]
          exact stk_push h7
      · left
        rw [l1] at h6
        obtain ⟨y, st0, rfl, h0⟩ := one_of h6
        have g1 : s1.2.1 (t + 22) st0.length = y := h7.1
        have g2 : ¬ (15 ≤ T 21 i ∧ T 21 i ≤ 21) := by omega
        simp only [List.length_cons] at f3
        refine ⟨(wL s1 (t + 22) st0.length (b64 (y = 0)), b64 (y = 0) :: st0), ?_, hgo _ _ _ ?_ ?_⟩
        · by_cases hy : y = 0
          · simp (disch := omega) only [fX2_value_22, fX2_value_22b, fX2_value_156, fX2_value_225, LIT, LITm, nI_add, n_mul, fa_and, fa_or, n_shl1, n_le, n_lt, n_eq, Option.bind_some, B_t hn ht, h1, e2, hki.1, hki.2, c_isName, n_sub, f1, f2, k1, g2, CMP, g1, hy, show ¬ (14 = 23) by omega, show ¬ (15 ≤ 14) by omega, false_and, not_true_eq_false, show 1 ≤ st0.length + 1 by omega, not_false_eq_true, ↓reduceIte, List.length_cons, Nat.add_sub_cancel, b64]
          · simp (disch := omega) only [fX2_value_22, fX2_value_22b, fX2_value_156, fX2_value_225, LIT, LITm, nI_add, n_mul, fa_and, fa_or, n_shl1, n_le, n_lt, n_eq, Option.bind_some, B_t hn ht, h1, e2, hki.1, hki.2, c_isName, n_sub, f1, f2, k1, g2, CMP, g1, hy, show ¬ (14 = 23) by omega, show ¬ (15 ≤ 14) by omega, false_and, not_true_eq_false, show 1 ≤ st0.length + 1 by omega, not_false_eq_true, ↓reduceIte, List.length_cons, Nat.add_sub_cancel, b64]
        · unfold stV
          rw [if_neg (by omega), if_neg (by omega), if_pos k1]
        · rw [wL_at]
          exact stk_push h7.2
      · rw [l1] at h6
        obtain ⟨y, z, st0, rfl, h0⟩ := two_of h6
        have g1 : s1.2.1 (t + 22) (st0.length + 1) = y := h7.1
        have g3 : s1.2.1 (t + 22) st0.length = z := h7.2.1
        have g2 : ¬ (15 ≤ T 21 i ∧ T 21 i ≤ 21) := by omega
        simp only [List.length_cons] at f3
        obtain ⟨v, hv, hv2⟩ := c_join (n := n) (h := mk s1) h8.2.1 h8.1 k1
        have hst : stV T nm i (y :: z :: st0) = (bdV v).map (· :: st0) := by
          unfold stV
          rw [if_neg (by omega), if_neg (by omega), if_neg (by omega), hv2]
        by_cases hbd : bdd v
        · left
          have c1 : ¬ (1000000000000 : Int64) < v := by
            rw [fa_lt64, show (1000000000000 : Int64).toInt = 1000000000000 by decide]
            have := hbd.2
            omega
          have c2 : (-1000000000000 : Int64) ≤ v := by
            rw [fa_le64, show (-1000000000000 : Int64).toInt = -1000000000000 by decide]
            exact hbd.1
          refine ⟨(wL s1 (t + 22) st0.length v, v :: st0), ?_, hgo _ _ _ ?_ ?_⟩
          · simp (disch := omega) only [fX2_value_22, fX2_value_22b, fX2_value_156, fX2_value_225, LIT, LITm, nI_add, n_mul, fa_and, fa_or, n_shl1, n_le, n_lt, n_eq, Option.bind_some, B_t hn ht, h1, e2, hki.1, hki.2, c_isName, n_sub, n_dec, f1, f2, g2, CMP, g1, g3, hv, c1, c2, show ¬ T 21 i = 23 by omega, show ¬ T 21 i = 14 by omega, show 2 ≤ st0.length + 1 + 1 by omega, not_false_eq_true, ↓reduceIte, List.length_cons, Nat.add_sub_cancel]
          · rw [hst, bdV_some hbd]
            rfl
          · rw [wL_at]
            exact stk_push h7.2.2
        · right
          have hb0 : bdV v = none := if_neg hbd
          refine ⟨s1, ?_, h1, h2, h3⟩
          rw [hno i h4 hi (by rw [hev, hst, hb0]; rfl)]
          by_cases c1 : (1000000000000 : Int64) < v
          · simp (disch := omega) only [fX2_value_22, fX2_value_22b, fX2_value_156, fX2_value_225, LIT, LITm, nI_add, n_mul, fa_and, fa_or, n_shl1, n_le, n_lt, n_eq, Option.bind_some, B_t hn ht, h1, e2, hki.1, hki.2, c_isName, n_sub, n_dec, f1, f2, g2, CMP, g1, g3, hv, c1, show ¬ T 21 i = 23 by omega, show ¬ T 21 i = 14 by omega, show 2 ≤ st0.length + 1 + 1 by omega, not_false_eq_true, ↓reduceIte, List.length_cons, Nat.add_sub_cancel, Option.getD_none]
          · have c2 : ¬ (-1000000000000 : Int64) ≤ v := by
              intro c3
              rw [fa_lt64, show (1000000000000 : Int64).toInt = 1000000000000 by decide] at c1
              rw [fa_le64, show (-1000000000000 : Int64).toInt = -1000000000000 by decide] at c3
              exact hbd ⟨c3, by omega⟩
            simp (disch := omega) only [fX2_value_22, fX2_value_22b, fX2_value_156, fX2_value_225, LIT, LITm, nI_add, n_mul, fa_and, fa_or, n_shl1, n_le, n_lt, n_eq, Option.bind_some, B_t hn ht, h1, e2, hki.1, hki.2, c_isName, n_sub, n_dec, f1, f2, g2, CMP, g1, g3, hv, c1, c2, show ¬ T 21 i = 23 by omega, show ¬ T 21 i = 14 by omega, show 2 ≤ st0.length + 1 + 1 by omega, not_false_eq_true, ↓reduceIte, List.length_cons, Nat.add_sub_cancel, Option.getD_none]
    · intro k q hP
      obtain ⟨s1, st⟩ := q
      obtain ⟨h1, h2, h3, h4, h5, h6, h7, h8⟩ := hP
      simp only at h1 h2 h3 h4 h5 h6 h7 h8 ⊢
      rw [Hb] at h6
      obtain ⟨v, st0, rfl, h0⟩ := one_of h6
      have : st0 = [] := List.eq_nil_of_length_eq_zero h0
      subst this
      refine ⟨s1, ?_, h1, h2, h3⟩
      have hv : lawV T w nm = some v := by
        unfold lawV
        rw [if_neg h18, h5]
      have g1 : s1.2.1 (t + 22) 0 = v := h7.1
      rw [hv]
      show fX2_value_22b n (fX2_value_22 n k) (mk s1) (t + 16) (nI w) x (nI 1) (nI (T 20 w)) = _
      unfold fX2_value_22b
      rw [bnd_s (v := t + 18) (by simp only [B_t hn ht]), bnd_s (v := nI (T 20 w)) (by simp (disch := omega) only [B_t hn ht, h1, e2]), if_pos (by simp (disch := omega) only [n_le, Nat.le_refl])]
      unfold fX2_value_231
      rw [if_neg (by decide)]
      simp (disch := omega) only [LIT, LITm, nI_add, n_mul, fa_and, fa_or, n_shl1, n_le, n_lt, n_eq, Option.bind_some, B_t hn ht, g1, Option.getD_some]
