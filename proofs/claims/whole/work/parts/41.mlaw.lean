/-! ===== what a text told, and a law's value, in the reference's cells ===== -/
/-- the reference's number of a sign -/
def mcd (k : Nat) : Nat := if k = 13 then 3 else if k = 12 then 4 else k - 22
def mkS (I : Nat → Nat → Int32) (T : zT) (i : Nat) (l : List Nat) : Prop :=
  (T 21 i = 23 → I 212 i = nI 0 ∧ I 213 i = nI (T 22 i)) ∧ (15 ≤ T 21 i ∧ T 21 i ≤ 21 → I 212 i = nI 1 ∧ I 213 i = nI (T 21 i - 15)) ∧
  (T 21 i = 14 → I 212 i = nI 2 ∧ ∀ a r, l = a :: r → I 213 i = nI a) ∧
  ((T 21 i = 12 ∨ T 21 i = 13 ∨ (27 ≤ T 21 i ∧ T 21 i ≤ 36)) → I 212 i = nI (mcd (T 21 i)) ∧ ∀ b a r, l = b :: a :: r → I 213 i = nI a ∧ I 214 i = nI b)
def mLw (I : Nat → Nat → Int32) (T : zT) (w : Nat) : Prop := ∃ H : Nat → List Nat, H (T 19 w) = [] ∧ H (T 20 w) = [T 20 w - 1] ∧ ∀ i, T 19 w ≤ i → i < T 20 w → wfS T i (H i) (H (i + 1)) ∧ mkS I T i (H i)
def mTd (I : Nat → Nat → Int32) (T : zT) : Prop :=
  (I 187 12 = nI (T 0 0) ∧ I 187 13 = nI (T 0 1) ∧ I 187 14 = nI (T 0 2) ∧ I 187 15 = nI (T 0 3) ∧ I 187 16 = nI (T 0 4) ∧ I 187 17 = nI (T 0 5)) ∧
  (I 191 0 = nI (T 0 6) ∧ I 191 1 = nI (T 0 7) ∧ I 191 2 = nI (T 0 8)) ∧
  (∀ i, i < T 0 0 → I 192 i = nI (T 1 i)) ∧
  (∀ p, p < T 0 1 → I 193 p = nI (T 2 p) ∧ I 194 p = nI (T 3 p) ∧ I 195 p = nI (T 4 p) ∧ I 196 p = nI (T 5 p) ∧ I 197 p = nI (T 6 p) ∧ I 198 p = nI (T 7 p)) ∧
  (∀ w, w < T 0 2 → I 199 w = nI (T 8 w) ∧ I 200 w = nI (T 9 w) ∧ I 201 w = nI (T 10 w) ∧ I 202 w = nI (T 11 w)) ∧
  (∀ k, k < T 0 3 → I 203 k = nI (T 12 k) ∧ I 204 k = nI (T 13 k) ∧ I 205 k = nI (T 14 k)) ∧
  (∀ b, b < T 0 4 → I 206 b = nI (T 15 b) ∧ I 207 b = nI (T 16 b) ∧ I 208 b = nI (T 17 b)) ∧
  (∀ w, w < 3 → (T 18 w = 0 → I 209 w = nI 0) ∧ (T 18 w ≠ 0 → I 209 w = nI 1 ∧ I 210 w = nI (T 19 w) ∧ I 211 w = nI (T 20 w) ∧ mLw I T w))
theorem fits_b {b : Nat} (h : b ≤ 1) : fits .boolean (.int (nI b)) = true := by
  rcases (by omega : b = 0 ∨ b = 1) with rfl | rfl <;> rfl
theorem nar_b {b : Nat} (h : b ≤ 1) : vp_nar .boolean (nI b) = nI b := by
  rcases (by omega : b = 0 ∨ b = 1) with rfl | rfl <;> rfl
theorem B_mz {n : Nat} (hn : 239 ≤ n) : (∀ (s : zS) (b : Nat), b ≤ 1 → sF n (mk s) 187 11 55 .boolean (.int (nI b)) = some (mk (wI s 187 55 (nI b)))) ∧
  (∀ (s : zS) (b : Nat), b ≤ 1 → sF n (mk s) 187 11 56 .boolean (.int (nI b)) = some (mk (wI s 187 56 (nI b)))) ∧
  (∀ (s : zS) (b : Nat), b ≤ 1 → sF n (mk s) 187 11 59 .boolean (.int (nI b)) = some (mk (wI s 187 59 (nI b)))) ∧
  (∀ (s : zS) (b : Nat), b ≤ 1 → sF n (mk s) 187 11 69 .boolean (.int (nI b)) = some (mk (wI s 187 69 (nI b)))) ∧
  (∀ (s : zS) (b : Nat), b ≤ 1 → sF n (mk s) 187 11 70 .boolean (.int (nI b)) = some (mk (wI s 187 70 (nI b)))) ∧
  (∀ (s : zS) (b : Nat), b ≤ 1 → sF n (mk s) 187 11 71 .boolean (.int (nI b)) = some (mk (wI s 187 71 (nI b)))) ∧
  (∀ (s : zS) (b : Nat), b ≤ 1 → sF n (mk s) 187 11 72 .boolean (.int (nI b)) = some (mk (wI s 187 72 (nI b)))) ∧
  (∀ (s : zS) (b : Nat), b ≤ 1 → sF n (mk s) 187 11 73 .boolean (.int (nI b)) = some (mk (wI s 187 73 (nI b)))) ∧
  (∀ (s : zS) (b : Nat), b ≤ 1 → sF n (mk s) 187 11 91 .boolean (.int (nI b)) = some (mk (wI s 187 91 (nI b)))) :=
  ⟨fun s b hb => mk_sI rfl rfl (fits_b hb) ⟨by omega, by omega⟩ (Or.inl (by omega)), fun s b hb => mk_sI rfl rfl (fits_b hb) ⟨by omega, by omega⟩ (Or.inl (by omega)), fun s b hb => mk_sI rfl rfl (fits_b hb) ⟨by omega, by omega⟩ (Or.inl (by omega)),
   fun s b hb => mk_sI rfl rfl (fits_b hb) ⟨by omega, by omega⟩ (Or.inl (by omega)), fun s b hb => mk_sI rfl rfl (fits_b hb) ⟨by omega, by omega⟩ (Or.inl (by omega)), fun s b hb => mk_sI rfl rfl (fits_b hb) ⟨by omega, by omega⟩ (Or.inl (by omega)),
   fun s b hb => mk_sI rfl rfl (fits_b hb) ⟨by omega, by omega⟩ (Or.inl (by omega)), fun s b hb => mk_sI rfl rfl (fits_b hb) ⟨by omega, by omega⟩ (Or.inl (by omega)), fun s b hb => mk_sI rfl rfl (fits_b hb) ⟨by omega, by omega⟩ (Or.inl (by omega))⟩
theorem wfL_mem {T : zT} {a b : Nat} {H : Nat → List Nat} (H0 : H a = []) (Hs : ∀ i, a ≤ i → i < b → wfS T i (H i) (H (i + 1))) : ∀ i, a ≤ i → i ≤ b → ∀ x, x ∈ H i → a ≤ x ∧ x < i := by
  intro i
  induction i with
  | zero =>
    intro h1 h2 x hx
    have : a = 0 := by omega
    subst this
    rw [H0] at hx
    cases hx
  | succ i ih =>
    intro h1 h2 x hx
    by_cases h : a = i + 1
    · subst h
      rw [H0] at hx
      cases hx
    · have h3 := ih (by omega) (by omega)
      rcases Hs i (by omega) (by omega) with ⟨-, e⟩ | ⟨-, c, r, e1, e2⟩ | ⟨-, d, c, r, e1, e2⟩
      · rw [e] at hx
        rcases List.mem_cons.mp hx with e | e
        · omega
        · have := h3 x e
          omega
      · rw [e2] at hx
        rcases List.mem_cons.mp hx with e | e
        · omega
        · have := h3 x (by rw [e1]; exact List.mem_cons_of_mem _ e)
          omega
      · rw [e2] at hx
        rcases List.mem_cons.mp hx with e | e
        · omega
        · have := h3 x (by rw [e1]; exact List.mem_cons_of_mem _ (List.mem_cons_of_mem _ e))
          omega
/-- only the flag of an error changes -/
def frE (s s' : zS) : Prop := s'.2 = s.2 ∧ ∀ a j, ¬ (a = 187 ∧ j = 59) → s'.1 a j = s.1 a j
theorem frE_r {s : zS} : frE s s := ⟨rfl, fun _ _ _ => rfl⟩
theorem frE_w {s : zS} {x : Int32} : frE s (wI s 187 59 x) := ⟨rfl, fun a j h => by rw [wI_g, if_neg h]⟩
section Ml
variable {n i k e : Nat} {s : zS}
theorem m_bounded (hn : 239 ≤ n) (he : s.1 187 59 = nI e) (he1 : e ≤ 1) {x : Int64} : fX11_bounded n (mk s) 187 x = some ((if e = 0 then bdV x else none).getD 0, mk (wI s 187 59 (nI (if e = 0 ∧ (bdV x).isSome = true then 0 else 1)))) := by
  unfold fX11_bounded fX11_bounded_24 fX11_bounded_29
  rcases (by omega : e = 0 ∨ e = 1) with rfl | rfl
  · by_cases c1 : (1000000000000 : Int64) < x
    · have hb : ¬ bdd x := fun h => by
        rw [fa_lt64, show (1000000000000 : Int64).toInt = 1000000000000 by decide] at c1
        have := h.2
        omega
      simp (disch := first | omega | assumption | (simp only [wL_1, wL_22, wI_2, wA_2, wQ_1, wQ_21] <;> first | assumption | omega)) only [LIT, LITm, nI_add, n_mul, fa_or, n_31m, n_shl0, n_le, n_lt, n_eq, Option.bind_some, B_m hn, B_mz hn, he, CMP, c1, wI_at, upd_at, not_true_eq_false, show ¬ (1 = 0) by omega, ↓reduceIte, show bdV x = none from if_neg hb, Option.isSome_none, Bool.false_eq_true, and_false]
      rfl
    · by_cases c2 : (-1000000000000 : Int64) ≤ x
      · have hb : bdd x := by
          rw [fa_lt64, show (1000000000000 : Int64).toInt = 1000000000000 by decide] at c1
          rw [fa_le64, show (-1000000000000 : Int64).toInt = -1000000000000 by decide] at c2
          exact ⟨c2, by omega⟩
        simp (disch := first | omega | assumption | (simp only [wL_1, wL_22, wI_2, wA_2, wQ_1, wQ_21] <;> first | assumption | omega)) only [LIT, LITm, nI_add, n_mul, fa_or, n_31m, n_shl0, n_le, n_lt, n_eq, Option.bind_some, B_m hn, B_mz hn, he, CMP, c1, c2, wI_at, upd_at, not_true_eq_false, ↓reduceIte, bdV_some hb, Option.isSome_some, and_self]
        rfl
      · have hb : ¬ bdd x := fun h => by
          rw [fa_le64, show (-1000000000000 : Int64).toInt = -1000000000000 by decide] at c2
          exact c2 h.1
        simp (disch := first | omega | assumption | (simp only [wL_1, wL_22, wI_2, wA_2, wQ_1, wQ_21] <;> first | assumption | omega)) only [LIT, LITm, nI_add, n_mul, fa_or, n_31m, n_shl0, n_le, n_lt, n_eq, Option.bind_some, B_m hn, B_mz hn, he, CMP, c1, c2, wI_at, upd_at, not_true_eq_false, show ¬ (1 = 0) by omega, ↓reduceIte, show bdV x = none from if_neg hb, Option.isSome_none, Bool.false_eq_true, and_false]
        rfl
  · simp (disch := first | omega | assumption | (simp only [wL_1, wL_22, wI_2, wA_2, wQ_1, wQ_21] <;> first | assumption | omega)) only [LIT, LITm, nI_add, n_mul, fa_or, n_31m, n_shl0, n_le, n_lt, n_eq, Option.bind_some, B_m hn, B_mz hn, he, CMP, wI_at, upd_at, not_false_eq_true, show ¬ (1 = 0) by omega, ↓reduceIte, false_and]
    rfl
theorem m_times (hn : 239 ≤ n) (he : s.1 187 59 = nI e) (he1 : e ≤ 1) {a b : Int64} (hab : e = 0 → bdd a ∧ bdd b) : fX11_times n (mk s) 187 a b = some ((if e = 0 then (if a.toInt.natAbs * b.toInt.natAbs ≤ 1000000000000 then some (a * b) else none) else none).getD 0, mk (wI s 187 59 (nI (if e = 0 ∧ a.toInt.natAbs * b.toInt.natAbs ≤ 1000000000000 then 0 else 1)))) := by
  have z : (0 : Int64).toInt = 0 := by decide
  have k1 : ∀ c : Nat, c ≤ 1 → (e = 0 → (c = 0 ↔ a.toInt.natAbs * b.toInt.natAbs ≤ 1000000000000)) → fX11_times_49 n (mk s) 187 a b (nI c) = some ((if e = 0 then (if a.toInt.natAbs * b.toInt.natAbs ≤ 1000000000000 then some (a * b) else none) else none).getD 0, mk (wI s 187 59 (nI (if e = 0 ∧ a.toInt.natAbs * b.toInt.natAbs ≤ 1000000000000 then 0 else 1)))) := by
    intro c hc hcc
    unfold fX11_times_49 fX11_times_64 fX11_times_69
    rcases (by omega : e = 0 ∨ e = 1) with rfl | rfl
    · have := hcc rfl
      rcases (by omega : c = 0 ∨ c = 1) with rfl | rfl
      · have h := this.mp rfl
        simp (disch := first | omega | assumption | (simp only [wL_1, wL_22, wI_2, wA_2, wQ_1, wQ_21] <;> first | assumption | omega)) only [LIT, LITm, nI_add, n_mul, fa_or, n_31m, n_shl0, n_le, n_lt, n_eq, Option.bind_some, B_m hn, B_mz hn, he, wI_at, upd_at, not_true_eq_false, ↓reduceIte, h, and_self]
        rfl
      · have h : ¬ a.toInt.natAbs * b.toInt.natAbs ≤ 1000000000000 := fun h => by have := this.mpr h; omega
        simp (disch := first | omega | assumption | (simp only [wL_1, wL_22, wI_2, wA_2, wQ_1, wQ_21] <;> first | assumption | omega)) only [LIT, LITm, nI_add, n_mul, fa_or, n_31m, n_shl0, n_le, n_lt, n_eq, Option.bind_some, B_m hn, B_mz hn, he, wI_at, upd_at, not_true_eq_false, show ¬ (1 = 0) by omega, ↓reduceIte, h, and_false]
        rfl
    · simp (disch := first | omega | assumption | (simp only [wL_1, wL_22, wI_2, wA_2, wQ_1, wQ_21] <;> first | assumption | omega)) only [LIT, LITm, nI_add, n_mul, fa_or, n_31m, n_shl0, n_le, n_lt, n_eq, Option.bind_some, B_m hn, B_mz hn, he, wI_at, upd_at, not_false_eq_true, show ¬ (1 = 0) by omega, ↓reduceIte, false_and]
      rfl
  unfold fX11_times fX11_times_24 fX11_times_39 fX11_times_48
  by_cases ha : a = 0
  · simp (disch := first | omega | assumption | (simp only [wL_1, wL_22, wI_2, wA_2, wQ_1, wQ_21] <;> first | assumption | omega)) only [LIT, LITm, nI_add, n_mul, fa_or, n_31m, n_shl0, n_le, n_lt, n_eq, Option.bind_some, B_m hn, CMP, ha, ↓reduceIte]
    rw [ha] at k1
    exact k1 0 (by omega) (fun _ => ⟨fun _ => by rw [z]; simp, fun _ => rfl⟩)
  · by_cases hb : b = 0
    · simp (disch := first | omega | assumption | (simp only [wL_1, wL_22, wI_2, wA_2, wQ_1, wQ_21] <;> first | assumption | omega)) only [LIT, LITm, nI_add, n_mul, fa_or, n_31m, n_shl0, n_le, n_lt, n_eq, Option.bind_some, B_m hn, CMP, ha, hb, ↓reduceIte]
      rw [hb] at k1
      exact k1 0 (by omega) (fun _ => ⟨fun _ => by rw [z]; simp, fun _ => rfl⟩)
    · have na : a.toInt ≠ 0 := fun h => ha (Int64.toInt_inj.mp (by rw [h, z]))
      have nb : b.toInt ≠ 0 := fun h => hb (Int64.toInt_inj.mp (by rw [h, z]))
      have ea : absV a = if (0 : Int64) ≤ a then a else -a := by
        unfold absV
        by_cases h : (0 : Int64) < a
        · rw [if_pos h, if_pos (by rw [fa_le64, z]; rw [fa_lt64, z] at h; omega)]
        · rw [if_neg h, if_neg (by rw [fa_le64, z]; rw [fa_lt64, z] at h; omega)]
      have eb : absV b = if (0 : Int64) ≤ b then b else -b := by
        unfold absV
        by_cases h : (0 : Int64) < b
        · rw [if_pos h, if_pos (by rw [fa_le64, z]; rw [fa_lt64, z] at h; omega)]
        · rw [if_neg h, if_neg (by rw [fa_le64, z]; rw [fa_lt64, z] at h; omega)]
      have hq : ∃ q, dJ (1000000000000 : Int64) (absV a) = some q ∧ (e = 0 → (absV b ≤ q ↔ a.toInt.natAbs * b.toInt.natAbs ≤ 1000000000000)) := by
        rcases (by omega : e = 0 ∨ e = 1) with rfl | rfl
        · obtain ⟨q, h1, h2⟩ := tm_q (hab rfl).1 (hab rfl).2 ha
          exact ⟨q, h1, fun _ => h2⟩
        · have hne : absV a ≠ 0 := by
            rw [ea]
            split
            · exact ha
            · intro h
              have h2 := congrArg Neg.neg h
              rw [Int64.neg_neg] at h2
              exact ha (by rw [h2]; rfl)
          exact ⟨_, if_neg hne, fun h => by omega⟩
      obtain ⟨q, hq1, hq2⟩ := hq
      have fin : (if absV b ≤ q then fX11_times_49 n (mk s) 187 a b (nI 0) else fX11_times_49 n (mk s) 187 a b (nI 1)) = some ((if e = 0 then (if a.toInt.natAbs * b.toInt.natAbs ≤ 1000000000000 then some (a * b) else none) else none).getD 0, mk (wI s 187 59 (nI (if e = 0 ∧ a.toInt.natAbs * b.toInt.natAbs ≤ 1000000000000 then 0 else 1)))) := by
        by_cases h : absV b ≤ q
        · rw [if_pos h]
          exact k1 0 (by omega) (fun h0 => ⟨fun _ => (hq2 h0).mp h, fun _ => rfl⟩)
        · rw [if_neg h]
          exact k1 1 (by omega) (fun h0 => ⟨fun h1 => by omega, fun h1 => absurd ((hq2 h0).mpr h1) h⟩)
      rw [eb] at fin
      rw [ea] at hq1
      by_cases h1 : (0 : Int64) ≤ a
      · rw [if_pos h1] at hq1
        by_cases h2 : (0 : Int64) ≤ b
        · rw [if_pos h2] at fin
          simp (disch := first | omega | assumption | (simp only [wL_1, wL_22, wI_2, wA_2, wQ_1, wQ_21] <;> first | assumption | omega)) only [LIT, LITm, nI_add, n_mul, fa_or, n_31m, n_shl0, n_le, n_lt, n_eq, Option.bind_some, B_m hn, CMP, ha, hb, h1, h2, hq1, ↓reduceIte]
          exact fin
        · rw [if_neg h2] at fin
          simp (disch := first | omega | assumption | (simp only [wL_1, wL_22, wI_2, wA_2, wQ_1, wQ_21] <;> first | assumption | omega)) only [LIT, LITm, nI_add, n_mul, fa_or, n_31m, n_shl0, n_le, n_lt, n_eq, Option.bind_some, B_m hn, CMP, ha, hb, h1, h2, hq1, ↓reduceIte]
          exact fin
      · rw [if_neg h1] at hq1
        by_cases h2 : (0 : Int64) ≤ b
        · rw [if_pos h2] at fin
          simp (disch := first | omega | assumption | (simp only [wL_1, wL_22, wI_2, wA_2, wQ_1, wQ_21] <;> first | assumption | omega)) only [LIT, LITm, nI_add, n_mul, fa_or, n_31m, n_shl0, n_le, n_lt, n_eq, Option.bind_some, B_m hn, CMP, ha, hb, h1, h2, hq1, ↓reduceIte]
          exact fin
        · rw [if_neg h2] at fin
          simp (disch := first | omega | assumption | (simp only [wL_1, wL_22, wI_2, wA_2, wQ_1, wQ_21] <;> first | assumption | omega)) only [LIT, LITm, nI_add, n_mul, fa_or, n_31m, n_shl0, n_le, n_lt, n_eq, Option.bind_some, B_m hn, CMP, ha, hb, h1, h2, hq1, ↓reduceIte]
          exact fin
theorem m_cmp {h : ai_H} {a b : Int64} : fX11_compares n h (nI 5) a b = some (nI (if a < b then 1 else 0), h) ∧ fX11_compares n h (nI 6) a b = some (nI (if a ≤ b then 1 else 0), h) ∧ fX11_compares n h (nI 7) a b = some (nI (if a = b then 1 else 0), h) ∧ fX11_compares n h (nI 8) a b = some (nI (if a ≠ b then 1 else 0), h) ∧ fX11_compares n h (nI 9) a b = some (nI (if b ≤ a then 1 else 0), h) ∧ fX11_compares n h (nI 10) a b = some (nI (if b < a then 1 else 0), h) := by
  unfold fX11_compares
  simp (disch := omega) only [LIT, LITm, nI_add, n_mul, fa_or, n_31m, n_shl0, n_le, n_lt, n_eq, Option.bind_some, CMP, Nat.reduceEqDiff, Nat.reduceLeDiff, ↓reduceIte]
  refine ⟨?_, ?_, ?_, ?_, ?_, ?_⟩
  · by_cases q1 : b ≤ a
    · rw [if_pos q1, if_neg (by rw [fa_lt64]; rw [fa_le64] at q1; omega)]
    · rw [if_neg q1, if_pos (by rw [fa_lt64]; rw [fa_le64] at q1; omega)]
  · by_cases q1 : b < a
    · rw [if_pos q1, if_neg (by rw [fa_le64]; rw [fa_lt64] at q1; omega)]
    · rw [if_neg q1, if_pos (by rw [fa_le64]; rw [fa_lt64] at q1; omega)]
  · by_cases q1 : a = b <;> simp [q1]
  · by_cases q1 : a = b <;> simp [q1]
  · by_cases q1 : a < b
    · rw [if_pos q1, if_neg (by rw [fa_le64]; rw [fa_lt64] at q1; omega)]
    · rw [if_neg q1, if_pos (by rw [fa_le64]; rw [fa_lt64] at q1; omega)]
  · by_cases q1 : a ≤ b
    · rw [if_pos q1, if_neg (by rw [fa_lt64]; rw [fa_le64] at q1; omega)]
    · rw [if_neg q1, if_pos (by rw [fa_lt64]; rw [fa_le64] at q1; omega)]
/-- a sign that joins two, by the reference -/
theorem m_op (hn : 239 ≤ n) (hi : i < 64) (he : s.1 187 59 = nI e) (he1 : e ≤ 1) {pa pb : Nat} {a b : Int64} (h1 : s.1 212 i = nI (mcd k)) (h2 : s.1 213 i = nI pa) (h3 : s.1 214 i = nI pb) (hpa : pa < 64) (hpb : pb < 64) (ea : s.2.1 218 pa = a) (eb : s.2.1 218 pb = b) (hk : k = 12 ∨ k = 13 ∨ (27 ≤ k ∧ k ≤ 36)) (hab : e = 0 → bdd a ∧ bdd b) : ∃ (v : Int64) (s' : zS) (e' : Nat), fX11_valueOf n (mk s) 187 (nI i) = some (v, mk s') ∧ frE s s' ∧ e' ≤ 1 ∧ s'.1 187 59 = nI e' ∧ (e = 1 → e' = 1) ∧ (e = 0 → (e' = 0 ∧ opV k a b = some v) ∨ (e' = 1 ∧ opV k a b = none)) := by
  have hk2 : k = 12 ∨ k = 13 ∨ k = 27 ∨ k = 28 ∨ k = 29 ∨ k = 30 ∨ k = 31 ∨ k = 32 ∨ k = 33 ∨ k = 34 ∨ k = 35 ∨ k = 36 := by omega
  have L : ∀ (v : Int64), opV k a b = some v → fX11_valueOf n (mk s) 187 (nI i) = some (v, mk s) → ∃ (v : Int64) (s' : zS) (e' : Nat), fX11_valueOf n (mk s) 187 (nI i) = some (v, mk s') ∧ frE s s' ∧ e' ≤ 1 ∧ s'.1 187 59 = nI e' ∧ (e = 1 → e' = 1) ∧ (e = 0 → (e' = 0 ∧ opV k a b = some v) ∨ (e' = 1 ∧ opV k a b = none)) := fun v h g => ⟨v, s, e, g, frE_r, he1, he, fun h => h, fun h0 => Or.inl ⟨h0, h⟩⟩
  rcases hk2 with rfl | rfl | rfl | rfl | rfl | rfl | rfl | rfl | rfl | rfl | rfl | rfl
  · refine L (b64 (a ≠ 0 ∨ b ≠ 0)) rfl ?_
    rw [show mcd 12 = 4 from rfl] at h1
    unfold fX11_valueOf fX11_valueOf_188
    simp (disch := first | omega | assumption | (simp only [wL_1, wL_22, wI_2, wA_2, wQ_1, wQ_21] <;> first | assumption | omega)) only [LIT, LITm, nI_add, n_mul, fa_or, n_31m, n_shl0, n_le, n_lt, n_eq, Option.bind_some, B_m hn, B_mb hn, h1, h2, h3, ea, eb, CMP, Nat.reduceEqDiff, Nat.reduceLeDiff, not_false_eq_true, ↓reduceIte]
    by_cases q1 : a = 0 <;> by_cases q2 : b = 0 <;> simp [q1, q2, b64]
  · refine L (b64 (a ≠ 0 ∧ b ≠ 0)) rfl ?_
    rw [show mcd 13 = 3 from rfl] at h1
    unfold fX11_valueOf fX11_valueOf_188
    simp (disch := first | omega | assumption | (simp only [wL_1, wL_22, wI_2, wA_2, wQ_1, wQ_21] <;> first | assumption | omega)) only [LIT, LITm, nI_add, n_mul, fa_or, n_31m, n_shl0, n_le, n_lt, n_eq, Option.bind_some, B_m hn, B_mb hn, h1, h2, h3, ea, eb, CMP, Nat.reduceEqDiff, Nat.reduceLeDiff, not_false_eq_true, ↓reduceIte]
    by_cases q1 : a = 0 <;> by_cases q2 : b = 0 <;> simp [q1, q2, b64]
  · refine L (b64 (a < b)) rfl ?_
    rw [show mcd 27 = 5 from rfl] at h1
    unfold fX11_valueOf fX11_valueOf_259
    simp (disch := first | omega | assumption | (simp only [wL_1, wL_22, wI_2, wA_2, wQ_1, wQ_21] <;> first | assumption | omega)) only [LIT, LITm, nI_add, n_mul, fa_or, n_31m, n_shl0, n_le, n_lt, n_eq, Option.bind_some, B_m hn, B_mb hn, h1, h2, h3, ea, eb, Nat.reduceEqDiff, Nat.reduceLeDiff, not_false_eq_true, ↓reduceIte, m_cmp]
    unfold b64
    by_cases q1 : a < b
    · rw [if_pos q1, if_pos q1, if_neg (by decide)]
    · rw [if_neg q1, if_neg q1, if_pos rfl]
  · refine L (b64 (a ≤ b)) rfl ?_
    rw [show mcd 28 = 6 from rfl] at h1
    unfold fX11_valueOf fX11_valueOf_259
    simp (disch := first | omega | assumption | (simp only [wL_1, wL_22, wI_2, wA_2, wQ_1, wQ_21] <;> first | assumption | omega)) only [LIT, LITm, nI_add, n_mul, fa_or, n_31m, n_shl0, n_le, n_lt, n_eq, Option.bind_some, B_m hn, B_mb hn, h1, h2, h3, ea, eb, Nat.reduceEqDiff, Nat.reduceLeDiff, not_false_eq_true, ↓reduceIte, m_cmp]
    unfold b64
    by_cases q1 : a ≤ b
    · rw [if_pos q1, if_pos q1, if_neg (by decide)]
    · rw [if_neg q1, if_neg q1, if_pos rfl]
  · refine L (b64 (a = b)) rfl ?_
    rw [show mcd 29 = 7 from rfl] at h1
    unfold fX11_valueOf fX11_valueOf_259
    simp (disch := first | omega | assumption | (simp only [wL_1, wL_22, wI_2, wA_2, wQ_1, wQ_21] <;> first | assumption | omega)) only [LIT, LITm, nI_add, n_mul, fa_or, n_31m, n_shl0, n_le, n_lt, n_eq, Option.bind_some, B_m hn, B_mb hn, h1, h2, h3, ea, eb, Nat.reduceEqDiff, Nat.reduceLeDiff, not_false_eq_true, ↓reduceIte, m_cmp]
    unfold b64
    by_cases q1 : a = b
    · rw [if_pos q1, if_pos q1, if_neg (by decide)]
    · rw [if_neg q1, if_neg q1, if_pos rfl]
  · refine L (b64 (a ≠ b)) rfl ?_
    rw [show mcd 30 = 8 from rfl] at h1
    unfold fX11_valueOf fX11_valueOf_259
    simp (disch := first | omega | assumption | (simp only [wL_1, wL_22, wI_2, wA_2, wQ_1, wQ_21] <;> first | assumption | omega)) only [LIT, LITm, nI_add, n_mul, fa_or, n_31m, n_shl0, n_le, n_lt, n_eq, Option.bind_some, B_m hn, B_mb hn, h1, h2, h3, ea, eb, Nat.reduceEqDiff, Nat.reduceLeDiff, not_false_eq_true, ↓reduceIte, m_cmp]
    unfold b64
    by_cases q1 : a ≠ b
    · rw [if_pos q1, if_pos q1, if_neg (by decide)]
    · rw [if_neg q1, if_neg q1, if_pos rfl]
  · refine L (b64 (b ≤ a)) rfl ?_
    rw [show mcd 31 = 9 from rfl] at h1
    unfold fX11_valueOf fX11_valueOf_259
    simp (disch := first | omega | assumption | (simp only [wL_1, wL_22, wI_2, wA_2, wQ_1, wQ_21] <;> first | assumption | omega)) only [LIT, LITm, nI_add, n_mul, fa_or, n_31m, n_shl0, n_le, n_lt, n_eq, Option.bind_some, B_m hn, B_mb hn, h1, h2, h3, ea, eb, Nat.reduceEqDiff, Nat.reduceLeDiff, not_false_eq_true, ↓reduceIte, m_cmp]
    unfold b64
    by_cases q1 : b ≤ a
    · rw [if_pos q1, if_pos q1, if_neg (by decide)]
    · rw [if_neg q1, if_neg q1, if_pos rfl]
  · refine L (b64 (b < a)) rfl ?_
    rw [show mcd 32 = 10 from rfl] at h1
    unfold fX11_valueOf fX11_valueOf_259
    simp (disch := first | omega | assumption | (simp only [wL_1, wL_22, wI_2, wA_2, wQ_1, wQ_21] <;> first | assumption | omega)) only [LIT, LITm, nI_add, n_mul, fa_or, n_31m, n_shl0, n_le, n_lt, n_eq, Option.bind_some, B_m hn, B_mb hn, h1, h2, h3, ea, eb, Nat.reduceEqDiff, Nat.reduceLeDiff, not_false_eq_true, ↓reduceIte, m_cmp]
    unfold b64
    by_cases q1 : b < a
    · rw [if_pos q1, if_pos q1, if_neg (by decide)]
    · rw [if_neg q1, if_neg q1, if_pos rfl]
  · rw [show mcd 33 = 11 from rfl] at h1
    refine ⟨(if e = 0 then bdV (a + b) else none).getD 0, _, (if e = 0 ∧ (bdV (a + b)).isSome = true then 0 else 1), ?_, frE_w, by split <;> omega, by rw [wI_at, upd_at], fun h => by rw [if_neg (by omega)], fun h => ?_⟩
    · unfold fX11_valueOf
      simp (disch := first | omega | assumption | (simp only [wL_1, wL_22, wI_2, wA_2, wQ_1, wQ_21] <;> first | assumption | omega)) only [LIT, LITm, nI_add, n_mul, fa_or, n_31m, n_shl0, n_le, n_lt, n_eq, Option.bind_some, B_m hn, B_mb hn, h1, h2, h3, ea, eb, CMP, Nat.reduceEqDiff, Nat.reduceLeDiff, not_false_eq_true, ↓reduceIte]
      rw [m_bounded hn he he1]
      rfl
    · show (_ ∧ bdV (a + b) = _) ∨ (_ ∧ bdV (a + b) = none)
      rw [if_pos h]
      cases bdV (a + b) with
      | some r => exact Or.inl ⟨if_pos ⟨h, rfl⟩, rfl⟩
      | none => exact Or.inr ⟨if_neg (fun g => by cases g.2), rfl⟩
  · rw [show mcd 34 = 12 from rfl] at h1
    refine ⟨(if e = 0 then bdV (a - b) else none).getD 0, _, (if e = 0 ∧ (bdV (a - b)).isSome = true then 0 else 1), ?_, frE_w, by split <;> omega, by rw [wI_at, upd_at], fun h => by rw [if_neg (by omega)], fun h => ?_⟩
    · unfold fX11_valueOf
      simp (disch := first | omega | assumption | (simp only [wL_1, wL_22, wI_2, wA_2, wQ_1, wQ_21] <;> first | assumption | omega)) only [LIT, LITm, nI_add, n_mul, fa_or, n_31m, n_shl0, n_le, n_lt, n_eq, Option.bind_some, B_m hn, B_mb hn, h1, h2, h3, ea, eb, CMP, Nat.reduceEqDiff, Nat.reduceLeDiff, not_false_eq_true, ↓reduceIte]
      rw [m_bounded hn he he1]
      rfl
    · show (_ ∧ bdV (a - b) = _) ∨ (_ ∧ bdV (a - b) = none)
      rw [if_pos h]
      cases bdV (a - b) with
      | some r => exact Or.inl ⟨if_pos ⟨h, rfl⟩, rfl⟩
      | none => exact Or.inr ⟨if_neg (fun g => by cases g.2), rfl⟩
  · rw [show mcd 35 = 13 from rfl] at h1
    refine ⟨(if e = 0 then (if a.toInt.natAbs * b.toInt.natAbs ≤ 1000000000000 then some (a * b) else none) else none).getD 0, _, (if e = 0 ∧ a.toInt.natAbs * b.toInt.natAbs ≤ 1000000000000 then 0 else 1), ?_, frE_w, by split <;> omega, by rw [wI_at, upd_at], fun h => by rw [if_neg (by omega)], fun h => ?_⟩
    · unfold fX11_valueOf
      simp (disch := first | omega | assumption | (simp only [wL_1, wL_22, wI_2, wA_2, wQ_1, wQ_21] <;> first | assumption | omega)) only [LIT, LITm, nI_add, n_mul, fa_or, n_31m, n_shl0, n_le, n_lt, n_eq, Option.bind_some, B_m hn, B_mb hn, h1, h2, h3, ea, eb, CMP, Nat.reduceEqDiff, Nat.reduceLeDiff, not_false_eq_true, ↓reduceIte]
      rw [m_times hn he he1 hab]
      rfl
    · show (_ ∧ (if a.toInt.natAbs * b.toInt.natAbs ≤ 1000000000000 then some (a * b) else none) = _) ∨ (_ ∧ (if a.toInt.natAbs * b.toInt.natAbs ≤ 1000000000000 then some (a * b) else none) = none)
      rw [if_pos h]
      by_cases hb : a.toInt.natAbs * b.toInt.natAbs ≤ 1000000000000
      · left
        rw [if_pos ⟨h, hb⟩, if_pos hb]
        exact ⟨rfl, rfl⟩
      · right
        rw [if_neg (fun h => hb h.2), if_neg hb]
        exact ⟨rfl, rfl⟩
  · rw [show mcd 36 = 14 from rfl] at h1
    unfold fX11_valueOf fX11_valueOf_235 fX11_valueOf_240
    rcases (by omega : e = 0 ∨ e = 1) with rfl | rfl
    · by_cases hb : b = 0
      · refine ⟨0, wI s 187 59 (nI 1), 1, ?_, frE_w, by omega, by rw [wI_at, upd_at], fun _ => rfl, fun _ => Or.inr ⟨rfl, if_pos hb⟩⟩
        simp (disch := first | omega | assumption | (simp only [wL_1, wL_22, wI_2, wA_2, wQ_1, wQ_21] <;> first | assumption | omega)) only [LIT, LITm, nI_add, n_mul, fa_or, n_31m, n_shl0, n_le, n_lt, n_eq, Option.bind_some, B_m hn, B_mz hn, B_mb hn, h1, h2, h3, ea, eb, he, hb, wI_at, upd_at, CMP, Nat.reduceEqDiff, Nat.reduceLeDiff, not_false_eq_true, not_true_eq_false, ↓reduceIte]
      · refine ⟨a / b, wI s 187 59 (nI 0), 0, ?_, frE_w, by omega, by rw [wI_at, upd_at], fun h => h, fun _ => Or.inl ⟨rfl, if_neg hb⟩⟩
        simp (disch := first | omega | assumption | (simp only [wL_1, wL_22, wI_2, wA_2, wQ_1, wQ_21] <;> first | assumption | omega)) only [LIT, LITm, nI_add, n_mul, fa_or, n_31m, n_shl0, n_le, n_lt, n_eq, Option.bind_some, B_m hn, B_mz hn, B_mb hn, h1, h2, h3, ea, eb, he, hb, dJ, wI_at, upd_at, CMP, Nat.reduceEqDiff, Nat.reduceLeDiff, not_false_eq_true, not_true_eq_false, ↓reduceIte]
    · refine ⟨0, wI s 187 59 (nI 1), 1, ?_, frE_w, by omega, by rw [wI_at, upd_at], fun _ => rfl, fun h => by omega⟩
      simp (disch := first | omega | assumption | (simp only [wL_1, wL_22, wI_2, wA_2, wQ_1, wQ_21] <;> first | assumption | omega)) only [LIT, LITm, nI_add, n_mul, fa_or, n_31m, n_shl0, n_le, n_lt, n_eq, Option.bind_some, B_m hn, B_mz hn, B_mb hn, h1, h2, h3, ea, eb, he, wI_at, upd_at, CMP, Nat.reduceEqDiff, Nat.reduceLeDiff, not_false_eq_true, not_true_eq_false, ↓reduceIte]
end Ml
