/-! ===== expressions on the reference: what waits and what is held ===== -/
def wcd (k : Nat) : Nat := if k = 25 then 0 else if k = 14 then 2 else mcd k
def okW (h : Nat) : Prop := h = 25 ∨ h = 14 ∨ lvO h ≠ 9
/-- numbers of what is held after these knots, from one place on -/
def hdK (a : Nat) : List (Nat × Nat) → List Nat
  | [] => []
  | x :: o => if o.length < a then [] else if isLf x.1 = true then o.length :: hdK a o else if x.1 = 14 then o.length :: (hdK a o).tail else o.length :: (hdK a o).tail.tail
def wsM (I : Nat → Nat → Int32) : List Nat → Prop
  | [] => True
  | h :: t => I 215 t.length = nI (wcd h) ∧ wsM I t
def hsM (I : Nat → Nat → Int32) : List Nat → Prop
  | [] => True
  | h :: t => I 216 t.length = nI h ∧ hsM I t
/-- one knot in the reference's draft, given what is held ahead of it -/
def kE (I : Nat → Nat → Int32) (i : Nat) (x : Nat × Nat) (l : List Nat) : Prop :=
  (x.1 = 23 → x.2 ≤ 9999 ∧ I 212 i = nI 0 ∧ I 213 i = nI x.2) ∧ (15 ≤ x.1 ∧ x.1 ≤ 21 → I 212 i = nI 1 ∧ I 213 i = nI (x.1 - 15)) ∧ (x.1 = 14 → I 212 i = nI 2 ∧ ∃ a r, l = a :: r ∧ I 213 i = nI a) ∧
  (lvO x.1 ≠ 9 → I 212 i = nI (mcd x.1) ∧ ∃ b a r, l = b :: a :: r ∧ I 213 i = nI a ∧ I 214 i = nI b) ∧ (isLf x.1 = true ∨ x.1 = 14 ∨ lvO x.1 ≠ 9)
def knM (I : Nat → Nat → Int32) (a : Nat) : List (Nat × Nat) → Prop
  | [] => True
  | x :: o => (a ≤ o.length → kE I (64 + o.length) x (hdK a o)) ∧ knM I a o
section Mw
variable {n N k a : Nat} {B : Nat → Nat} {s s' s1 s2 : zS} {q : zQ} {y : zY} {W : List Nat} {o : List (Nat × Nat)}
def mY (B : Nat → Nat) (N a : Nat) (s : zS) (y : zY) : Prop := (mtT s B N ∧ mTk s y.1.1 ∧ zkW N y.1.1) ∧ (s.1 187 23 = nI y.1.2.1.length ∧ s.1 187 54 = nI y.1.2.2 ∧ s.1 187 51 = nI y.2.1.length ∧ s.1 187 52 = nI (hdK a y.1.2.1).length ∧ s.1 187 53 = nI y.2.2.1 ∧ s.1 187 55 = nI y.2.2.2.1.toNat ∧ s.1 187 56 = nI y.2.2.2.2.toNat) ∧ wsM s.1 y.2.1 ∧ hsM s.1 (hdK a y.1.2.1) ∧ knM s.1 a y.1.2.1
def frE2 (a : Nat) (s s' : zS) : Prop := s'.2 = s.2 ∧ (∀ b, b ≠ 187 → b ≠ 212 → b ≠ 213 → b ≠ 214 → b ≠ 215 → b ≠ 216 → s'.1 b = s.1 b) ∧ (∀ j, j ≠ 7 → j ≠ 8 → j ≠ 7 → j ≠ 8 → j ≠ 9 → j ≠ 10 → j ≠ 23 → ¬ (51 ≤ j ∧ j ≤ 56) → s'.1 187 j = s.1 187 j) ∧ ∀ j, j < 64 + a → s'.1 212 j = s.1 212 j ∧ s'.1 213 j = s.1 213 j ∧ s'.1 214 j = s.1 214 j
theorem frE2_r : frE2 a s s := ⟨rfl, fun _ _ _ _ _ _ _ => rfl, fun _ _ _ _ _ _ _ _ _ => rfl, fun _ _ => ⟨rfl, rfl, rfl⟩⟩
theorem frE2_t (h : frE2 a s s1) (g : frE2 a s1 s2) : frE2 a s s2 := ⟨g.1.trans h.1, fun b h1 h2 h3 h4 h5 h6 => (g.2.1 b h1 h2 h3 h4 h5 h6).trans (h.2.1 b h1 h2 h3 h4 h5 h6), fun j h1 h2 h3 h4 h5 h6 h7 h8 => (g.2.2.1 j h1 h2 h3 h4 h5 h6 h7 h8).trans (h.2.2.1 j h1 h2 h3 h4 h5 h6 h7 h8), fun j hj => ⟨(g.2.2.2 j hj).1.trans (h.2.2.2 j hj).1, (g.2.2.2 j hj).2.1.trans (h.2.2.2 j hj).2.1, (g.2.2.2 j hj).2.2.trans (h.2.2.2 j hj).2.2⟩⟩
theorem frR_E2 (h : frR s s1) : frE2 a s s1 := ⟨h.1, fun b h1 _ _ _ _ _ => h.2.1 b h1, fun j _ _ h3 h4 h5 h6 _ _ => h.2.2 j h3 h4 h5 h6, fun j _ => by rw [h.2.1 212 (by omega), h.2.1 213 (by omega), h.2.1 214 (by omega)]; exact ⟨rfl, rfl, rfl⟩⟩
theorem frE2_w {j : Nat} {x : Int32} (h : j = 7 ∨ j = 8 ∨ (7 ≤ j ∧ j ≤ 10) ∨ j = 23 ∨ (51 ≤ j ∧ j ≤ 56)) : frE2 a s (wI s 187 j x) := ⟨rfl, fun b h1 _ _ _ _ _ => wI_ne h1, fun i _ _ _ _ _ _ _ _ => by rw [wI_at, upd_ne (by omega)], fun i _ => by rw [wI_ne (by omega), wI_ne (by omega), wI_ne (by omega)]; exact ⟨rfl, rfl, rfl⟩⟩
def frE3 (a : Nat) (s s' : zS) : Prop := s'.2 = s.2 ∧ (∀ b, b ≠ 187 → b ≠ 212 → b ≠ 213 → b ≠ 214 → b ≠ 215 → b ≠ 216 → s'.1 b = s.1 b) ∧ (∀ j, j ≠ 4 → j ≠ 5 → j ≠ 7 → j ≠ 8 → j ≠ 9 → j ≠ 10 → j ≠ 23 → ¬ (51 ≤ j ∧ j ≤ 56) → s'.1 187 j = s.1 187 j) ∧ ∀ j, j < 64 + a → s'.1 212 j = s.1 212 j ∧ s'.1 213 j = s.1 213 j ∧ s'.1 214 j = s.1 214 j
theorem frE3_t (h : frE3 a s s1) (g : frE3 a s1 s2) : frE3 a s s2 := ⟨g.1.trans h.1, fun b h1 h2 h3 h4 h5 h6 => (g.2.1 b h1 h2 h3 h4 h5 h6).trans (h.2.1 b h1 h2 h3 h4 h5 h6), fun j h1 h2 h3 h4 h5 h6 h7 h8 => (g.2.2.1 j h1 h2 h3 h4 h5 h6 h7 h8).trans (h.2.2.1 j h1 h2 h3 h4 h5 h6 h7 h8), fun j hj => ⟨(g.2.2.2 j hj).1.trans (h.2.2.2 j hj).1, (g.2.2.2 j hj).2.1.trans (h.2.2.2 j hj).2.1, (g.2.2.2 j hj).2.2.trans (h.2.2.2 j hj).2.2⟩⟩
theorem frE3_w {j : Nat} {x : Int32} (h : j = 4 ∨ j = 5 ∨ (7 ≤ j ∧ j ≤ 10) ∨ j = 23 ∨ (51 ≤ j ∧ j ≤ 56)) : frE3 a s (wI s 187 j x) := ⟨rfl, fun b h1 _ _ _ _ _ => wI_ne h1, fun i _ _ _ _ _ _ _ _ => by rw [wI_at, upd_ne (by omega)], fun i _ => by rw [wI_ne (by omega), wI_ne (by omega), wI_ne (by omega)]; exact ⟨rfl, rfl, rfl⟩⟩
theorem frE2_3 (h : frE2 a s s1) : frE3 a s s1 := ⟨h.1, h.2.1, fun j _ _ h3 h4 h5 h6 h7 h8 => h.2.2.1 j h3 h4 h3 h4 h5 h6 h7 h8, h.2.2.2⟩
theorem frE2_a {b j : Nat} {x : Int32} (h : b = 215 ∨ b = 216 ∨ ((b = 212 ∨ b = 213 ∨ b = 214) ∧ 64 + a ≤ j)) : frE2 a s (wI s b j x) := ⟨rfl, fun c _ h2 h3 h4 h5 h6 => wI_ne (by omega), fun i _ _ _ _ _ _ _ _ => by rw [wI_ne (by omega)], fun i hi => by
  refine ⟨?_, ?_, ?_⟩
  all_goals
    rw [wI_g]
    rw [if_neg (by omega)]⟩
theorem ws_f {I I' : Nat → Nat → Int32} : ∀ W : List Nat, (∀ j, j < W.length → I' 215 j = I 215 j) → wsM I W → wsM I' W
  | [], _, _ => True.intro
  | h :: t, e, g => ⟨by rw [e t.length (Nat.lt_succ_self _)]; exact g.1, ws_f t (fun j hj => e j (Nat.lt_succ_of_lt hj)) g.2⟩
theorem hs_f {I I' : Nat → Nat → Int32} : ∀ W : List Nat, (∀ j, j < W.length → I' 216 j = I 216 j) → hsM I W → hsM I' W
  | [], _, _ => True.intro
  | h :: t, e, g => ⟨by rw [e t.length (Nat.lt_succ_self _)]; exact g.1, hs_f t (fun j hj => e j (Nat.lt_succ_of_lt hj)) g.2⟩
theorem kE_f {I I' : Nat → Nat → Int32} {i : Nat} {x : Nat × Nat} {l : List Nat} (h : kE I i x l) (e1 : I' 212 i = I 212 i) (e2 : I' 213 i = I 213 i) (e3 : I' 214 i = I 214 i) : kE I' i x l := by
  unfold kE
  rw [e1, e2, e3]
  exact h
theorem kn_f {I I' : Nat → Nat → Int32} : ∀ o : List (Nat × Nat), (∀ j, j < 64 + o.length → I' 212 j = I 212 j ∧ I' 213 j = I 213 j ∧ I' 214 j = I 214 j) → knM I a o → knM I' a o
  | [], _, _ => True.intro
  | x :: o, e, g => ⟨fun h => by
      have e1 := e (64 + o.length) (by show 64 + o.length < 64 + (o.length + 1); omega)
      exact kE_f (g.1 h) e1.1 e1.2.1 e1.2.2, kn_f o (fun j hj => e j (by show j < 64 + (o.length + 1); omega)) g.2⟩
theorem m_rank (hk : okW k) (h38 : k ≤ 38) : fX11_rank n (mk s) (nI (wcd k)) = some (nI (rkO k), mk s) := by
  have tab : ∀ c : Fin 15, ∀ h : ai_H, fX11_rank n h (nI c.1) = some (nI ([0, 0, 3, 2, 1, 4, 4, 4, 4, 4, 4, 5, 5, 6, 6].getD c.1 0), h) := by
    intro c h
    unfold fX11_rank
    have t2 : ∀ c : Fin 15, (if nI c.1 < (13 : Int32) then (if nI c.1 < (11 : Int32) then (if nI c.1 < (5 : Int32) then (if ¬ nI c.1 = (2 : Int32) then (if ¬ nI c.1 = (3 : Int32) then (if ¬ nI c.1 = (4 : Int32) then (0 : Int32) else 1) else 2) else 3) else 4) else 5) else 6) = nI ([0, 0, 3, 2, 1, 4, 4, 4, 4, 4, 4, 5, 5, 6, 6].getD c.1 0) := by decide +kernel
    rw [← t2 c]
    repeat' split
    all_goals rfl
  have t3 : ∀ k : Fin 39, (k.1 = 25 ∨ k.1 = 14 ∨ lvO k.1 ≠ 9) → wcd k.1 < 15 ∧ [0, 0, 3, 2, 1, 4, 4, 4, 4, 4, 4, 5, 5, 6, 6].getD (wcd k.1) 0 = rkO k.1 := by decide +kernel
  obtain ⟨t4, t5⟩ := t3 ⟨k, by omega⟩ hk
  have := tab ⟨wcd k, t4⟩ (mk s)
  rw [this]
  show some (nI ([0, 0, 3, 2, 1, 4, 4, 4, 4, 4, 4, 5, 5, 6, 6].getD (wcd k) 0), mk s) = _
  rw [t5]
/-! the token's kind -/
theorem m_isKey (hn : 239 ≤ n) (hT : mTk s q.1) (hz : q.1.1 ≤ 38 ∧ q.1.2.1 < 1073741824) (hk : k < 22) : fX11_isKey n (mk s) 187 (nI (sw k)) = some (nI (decide (q.1.1 = k)).toNat, mk s) := by
  have sk : sw k < 22 := by unfold sw; split; omega; split <;> omega
  have si : ∀ i j : Fin 22, sw i.1 = sw j.1 → i = j := by decide
  unfold fX11_isKey
  have n1 : (1 : Int32) = nI 1 := rfl
  rcases hT.1 with ⟨a, b⟩ | ⟨a, b, c⟩ | ⟨a, b, c⟩ | ⟨a, b, c⟩ | ⟨a, a', b, c⟩ | ⟨a, b, c⟩ | ⟨a, b⟩
  · rw [decide_eq_false (by omega)]
    simp (disch := first | omega | assumption | (simp only [wL_1, wL_22, wI_2, wA_2, wQ_1, wQ_21] <;> first | assumption | omega)) only [LIT, LITm, nI_add, n_mul, fa_or, n_31m, n_shl0, n_le, n_lt, n_eq, Option.bind_some, B_m hn, b, Nat.reduceEqDiff, not_false_eq_true, ↓reduceIte, Bool.toNat_false]
  · by_cases e : q.1.1 = k
    · rw [decide_eq_true e]
      rw [e] at c
      simp (disch := first | omega | assumption | (simp only [wL_1, wL_22, wI_2, wA_2, wQ_1, wQ_21] <;> first | assumption | omega)) only [LIT, LITm, nI_add, n_mul, fa_or, n_31m, n_shl0, n_le, n_lt, n_eq, Option.bind_some, B_m hn, b, c, not_true_eq_false, ↓reduceIte, Bool.toNat_true]
    · rw [decide_eq_false e]
      have ne : sw q.1.1 ≠ sw k := fun g => e (congrArg Fin.val (si ⟨q.1.1, a⟩ ⟨k, hk⟩ g))
      have sq : sw q.1.1 < 22 := by unfold sw; split; omega; split <;> omega
      simp (disch := first | omega | assumption | (simp only [wL_1, wL_22, wI_2, wA_2, wQ_1, wQ_21] <;> first | assumption | omega)) only [LIT, LITm, nI_add, n_mul, fa_or, n_31m, n_shl0, n_le, n_lt, n_eq, Option.bind_some, B_m hn, b, c, ne, not_true_eq_false, not_false_eq_true, ↓reduceIte, Bool.toNat_false]
  · rw [decide_eq_false (by omega)]
    simp (disch := first | omega | assumption | (simp only [wL_1, wL_22, wI_2, wA_2, wQ_1, wQ_21] <;> first | assumption | omega)) only [LIT, LITm, nI_add, n_mul, fa_or, n_31m, n_shl0, n_le, n_lt, n_eq, Option.bind_some, B_m hn, b, Nat.reduceEqDiff, not_false_eq_true, ↓reduceIte, Bool.toNat_false]
  · rw [decide_eq_false (by omega)]
    simp (disch := first | omega | assumption | (simp only [wL_1, wL_22, wI_2, wA_2, wQ_1, wQ_21] <;> first | assumption | omega)) only [LIT, LITm, nI_add, n_mul, fa_or, n_31m, n_shl0, n_le, n_lt, n_eq, Option.bind_some, B_m hn, b, Nat.reduceEqDiff, not_false_eq_true, ↓reduceIte, Bool.toNat_false]
  · rw [decide_eq_false (by omega)]
    simp (disch := first | omega | assumption | (simp only [wL_1, wL_22, wI_2, wA_2, wQ_1, wQ_21] <;> first | assumption | omega)) only [LIT, LITm, nI_add, n_mul, fa_or, n_31m, n_shl0, n_le, n_lt, n_eq, Option.bind_some, B_m hn, b, Nat.reduceEqDiff, not_false_eq_true, ↓reduceIte, Bool.toNat_false]
  · have ge : 24 ≤ q.1.1 := by
      apply Decidable.byContradiction
      intro g
      apply a
      unfold sgC
      rw [if_neg (by omega), if_neg (by omega), if_neg (by omega), if_neg (by omega), if_neg (by omega), if_neg (by omega), if_neg (by omega)]
    rw [decide_eq_false (by omega)]
    simp (disch := first | omega | assumption | (simp only [wL_1, wL_22, wI_2, wA_2, wQ_1, wQ_21] <;> first | assumption | omega)) only [LIT, LITm, nI_add, n_mul, fa_or, n_31m, n_shl0, n_le, n_lt, n_eq, Option.bind_some, B_m hn, b, Nat.reduceEqDiff, not_false_eq_true, ↓reduceIte, Bool.toNat_false]
  · rw [decide_eq_false (by omega)]
    rcases b with b | ⟨b, _⟩
    · simp (disch := first | omega | assumption | (simp only [wL_1, wL_22, wI_2, wA_2, wQ_1, wQ_21] <;> first | assumption | omega)) only [LIT, LITm, nI_add, n_mul, fa_or, n_31m, n_shl0, n_le, n_lt, n_eq, Option.bind_some, B_m hn, b, Nat.reduceEqDiff, not_false_eq_true, ↓reduceIte, Bool.toNat_false]
    · simp (disch := first | omega | assumption | (simp only [wL_1, wL_22, wI_2, wA_2, wQ_1, wQ_21] <;> first | assumption | omega)) only [LIT, LITm, nI_add, n_mul, fa_or, n_31m, n_shl0, n_le, n_lt, n_eq, Option.bind_some, B_m hn, b, Nat.reduceEqDiff, not_false_eq_true, ↓reduceIte, Bool.toNat_false]
theorem m_isSign (hn : 239 ≤ n) (hT : mTk s q.1) (hz : q.1.1 ≤ 38) (hk : sgC k ≠ 0) (h38 : k ≤ 38) : fX11_isSign n (mk s) 187 (nI (sgC k)) = some (nI (decide (q.1.1 = k)).toNat, mk s) := by
  have sl : ∀ k : Fin 39, sgC k.1 < 128 ∧ sgC k.1 ≠ 37 ∧ (sgC k.1 ≠ 0 → 24 ≤ k.1 ∧ k.1 ≠ 37 ∧ k.1 ≠ 38 ∧ ¬ (27 ≤ k.1 ∧ k.1 ≤ 32)) := by decide +kernel
  have si : ∀ i j : Fin 39, sgC i.1 ≠ 0 → sgC i.1 = sgC j.1 → i = j := by decide +kernel
  obtain ⟨l1, l2, l3⟩ := sl ⟨k, by omega⟩
  have l1 : sgC k < 128 := l1
  have l2 : sgC k ≠ 37 := l2
  have l3 : 24 ≤ k ∧ k ≠ 37 ∧ k ≠ 38 ∧ ¬ (27 ≤ k ∧ k ≤ 32) := l3 hk
  unfold fX11_isSign
  rcases hT.1 with ⟨a, b⟩ | ⟨a, b, c⟩ | ⟨a, b, c⟩ | ⟨a, b, c⟩ | ⟨a, a', b, c⟩ | ⟨a, b, c⟩ | ⟨a, b⟩
  · rw [decide_eq_false (by omega)]
    simp (disch := first | omega | assumption | (simp only [wL_1, wL_22, wI_2, wA_2, wQ_1, wQ_21] <;> first | assumption | omega)) only [LIT, LITm, nI_add, n_mul, fa_or, n_31m, n_shl0, n_le, n_lt, n_eq, Option.bind_some, B_m hn, b, Nat.reduceEqDiff, not_false_eq_true, ↓reduceIte, Bool.toNat_false]
  · rw [decide_eq_false (by omega)]
    simp (disch := first | omega | assumption | (simp only [wL_1, wL_22, wI_2, wA_2, wQ_1, wQ_21] <;> first | assumption | omega)) only [LIT, LITm, nI_add, n_mul, fa_or, n_31m, n_shl0, n_le, n_lt, n_eq, Option.bind_some, B_m hn, b, Nat.reduceEqDiff, not_false_eq_true, ↓reduceIte, Bool.toNat_false]
  · rw [decide_eq_false (by omega)]
    simp (disch := first | omega | assumption | (simp only [wL_1, wL_22, wI_2, wA_2, wQ_1, wQ_21] <;> first | assumption | omega)) only [LIT, LITm, nI_add, n_mul, fa_or, n_31m, n_shl0, n_le, n_lt, n_eq, Option.bind_some, B_m hn, b, Nat.reduceEqDiff, not_false_eq_true, ↓reduceIte, Bool.toNat_false]
  · rw [decide_eq_false (by omega)]
    simp (disch := first | omega | assumption | (simp only [wL_1, wL_22, wI_2, wA_2, wQ_1, wQ_21] <;> first | assumption | omega)) only [LIT, LITm, nI_add, n_mul, fa_or, n_31m, n_shl0, n_le, n_lt, n_eq, Option.bind_some, B_m hn, b, Nat.reduceEqDiff, not_false_eq_true, ↓reduceIte, Bool.toNat_false]
  · rw [decide_eq_false (by omega)]
    simp (disch := first | omega | assumption | (simp only [wL_1, wL_22, wI_2, wA_2, wQ_1, wQ_21] <;> first | assumption | omega)) only [LIT, LITm, nI_add, n_mul, fa_or, n_31m, n_shl0, n_le, n_lt, n_eq, Option.bind_some, B_m hn, b, Nat.reduceEqDiff, not_false_eq_true, ↓reduceIte, Bool.toNat_false]
  · by_cases e : q.1.1 = k
    · rw [decide_eq_true e]
      rw [e] at c
      simp (disch := first | omega | assumption | (simp only [wL_1, wL_22, wI_2, wA_2, wQ_1, wQ_21] <;> first | assumption | omega)) only [LIT, LITm, nI_add, n_mul, fa_or, n_31m, n_shl0, n_le, n_lt, n_eq, Option.bind_some, B_m hn, b, c, not_true_eq_false, ↓reduceIte, Bool.toNat_true]
    · rw [decide_eq_false e]
      have ne : sgC q.1.1 ≠ sgC k := fun g => e (congrArg Fin.val (si ⟨q.1.1, by omega⟩ ⟨k, by omega⟩ a g))
      have sq : sgC q.1.1 < 128 := (sl ⟨q.1.1, by omega⟩).1
      simp (disch := first | omega | assumption | (simp only [wL_1, wL_22, wI_2, wA_2, wQ_1, wQ_21] <;> first | assumption | omega)) only [LIT, LITm, nI_add, n_mul, fa_or, n_31m, n_shl0, n_le, n_lt, n_eq, Option.bind_some, B_m hn, b, c, ne, not_true_eq_false, not_false_eq_true, ↓reduceIte, Bool.toNat_false]
  · rw [decide_eq_false (by omega)]
    rcases b with b | ⟨b, c⟩
    · simp (disch := first | omega | assumption | (simp only [wL_1, wL_22, wI_2, wA_2, wQ_1, wQ_21] <;> first | assumption | omega)) only [LIT, LITm, nI_add, n_mul, fa_or, n_31m, n_shl0, n_le, n_lt, n_eq, Option.bind_some, B_m hn, b, Nat.reduceEqDiff, not_false_eq_true, ↓reduceIte, Bool.toNat_false]
    · have ne : ¬ 37 = sgC k := fun g => l2 g.symm
      simp (disch := first | omega | assumption | (simp only [wL_1, wL_22, wI_2, wA_2, wQ_1, wQ_21] <;> first | assumption | omega)) only [LIT, LITm, nI_add, n_mul, fa_or, n_31m, n_shl0, n_le, n_lt, n_eq, Option.bind_some, B_m hn, b, c, ne, not_true_eq_false, not_false_eq_true, ↓reduceIte, Bool.toNat_false]
end Mw
