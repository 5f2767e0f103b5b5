/-! ===== expressions on the class: what its reader does, step by step ===== -/
section Cq
variable {n t i N k l op : Nat} {B : Nat → Nat} {s s' s1 s2 : zS} {q q' : zQ}
def zkW (N : Nat) (k : zK) : Prop := k.1 ≤ 38 ∧ k.2.1 < 1073741824 ∧ k.2.2.1 ≤ N ∧ k.2.2.2 ≤ N
theorem lx_w (h : i ≤ N) : zkW N (lxV B N i) := by
  obtain ⟨a, b, _, d, _, e, _⟩ := lx_p (B := B) h
  exact ⟨a, b, d, e⟩
/-- the knots told, in the draft's rows -/
def lsC (I : Nat → Nat → Int32) (t : Nat) : List (Nat × Nat) → Prop
  | [] => True
  | x :: o => (I (t + 19) o.length = nI x.1 ∧ I (t + 20) o.length = nI x.2) ∧ lsC I t o
/-- what the reader holds -/
def cX (B : Nat → Nat) (N t : Nat) (s : zS) (q : zQ) : Prop := btT s B N ∧ s.2.2 3 1 = t ∧ cTk s q.1 ∧ zkW N q.1 ∧ s.1 (t + 16) 4 = nI q.2.1.length ∧ s.1 (t + 16) 5 = nI q.2.2 ∧ lsC s.1 t q.2.1
def frX (t : Nat) (s s' : zS) : Prop := s'.2 = s.2 ∧ (∀ a, a ≠ 4 → a ≠ t + 16 → a ≠ t + 19 → a ≠ t + 20 → s'.1 a = s.1 a) ∧ s'.1 4 2 = s.1 4 2
def frJ (t : Nat) (s s' : zS) : Prop := s'.2 = s.2 ∧ (∀ a, (a < t ∨ t + 22 < a) → a ≠ 3 → a ≠ 4 → s'.1 a = s.1 a) ∧ s'.1 4 2 = s.1 4 2
theorem frX_r : frX t s s := ⟨rfl, fun _ _ _ _ _ => rfl, rfl⟩
theorem frX_t (h : frX t s s1) (g : frX t s1 s2) : frX t s s2 := ⟨g.1.trans h.1, fun a x1 x2 x3 x4 => (g.2.1 a x1 x2 x3 x4).trans (h.2.1 a x1 x2 x3 x4), g.2.2.trans h.2.2⟩
theorem frJ_r : frJ t s s := ⟨rfl, fun _ _ _ _ => rfl, rfl⟩
theorem frJ_t (h : frJ t s s1) (g : frJ t s1 s2) : frJ t s s2 := ⟨g.1.trans h.1, fun a x1 x2 x3 => (g.2.1 a x1 x2 x3).trans (h.2.1 a x1 x2 x3), g.2.2.trans h.2.2⟩
theorem frX_J (h : frX t s s1) : frJ t s s1 := ⟨h.1, fun a x1 _ x3 => h.2.1 a x3 (by omega) (by omega) (by omega), h.2.2⟩
theorem frK_X (h : frK s s1) : frX t s s1 := ⟨h.1, fun a x1 _ _ _ => h.2.1 a x1, h.2.2⟩
theorem lsC_f (h : lsC s.1 t q.2.1) (e1 : s'.1 (t + 19) = s.1 (t + 19)) (e2 : s'.1 (t + 20) = s.1 (t + 20)) : lsC s'.1 t q.2.1 := by
  generalize q.2.1 = o at h ⊢
  induction o with
  | nil => exact True.intro
  | cons x o ih => exact ⟨by rw [e1, e2]; exact h.1, ih h.2⟩
/-- it ends by a fault -/
def erC {α : Type} (t : Nat) (s : zS) (c : Option ((α ⊕ Nat) × ai_H)) (e : Nat × Nat) : Prop := ∃ s' : zS, c = some (.inr 0, mk s') ∧ frJ t s s' ∧ s'.1 3 3 = nI e.1 ∧ s'.1 3 4 = nI e.2
theorem erC_t {α : Type} {c : Option ((α ⊕ Nat) × ai_H)} {e : Nat × Nat} (h : frJ t s s1) (g : erC t s1 c e) : erC t s c e := by
  obtain ⟨s', a, b, d⟩ := g
  exact ⟨s', a, frJ_t h b, d⟩
theorem bt_er {α β : Type} {c : Option ((α ⊕ Nat) × ai_H)} {f : α → ai_H → Option ((β ⊕ Nat) × ai_H)} {e : Nat × Nat} (g : erC t s c e) : erC t s (bt c f) e := by
  obtain ⟨s', a, b⟩ := g
  exact ⟨s', by rw [a]; rfl, b⟩
theorem bt_ok {α β : Type} {c : Option ((α ⊕ Nat) × ai_H)} {f : α → ai_H → Option ((β ⊕ Nat) × ai_H)} {x : α} {h : ai_H} (e : c = some (.inl x, h)) : bt c f = f x h := by
  rw [e]
  rfl
theorem c_fail (hn : 239 ≤ n) (hk : cTk s q.1) : erC t s (fX3_fail n (mk s) 3 (nI k)) (k, q.1.2.2.1) := by
  refine ⟨wI (wI s 3 3 (nI k)) 3 4 (s.1 4 5), ?_, ⟨rfl, fun a _ h3 _ => ?_, ?_⟩, ?_, ?_⟩
  · unfold fX3_fail
    simp (disch := first | omega | assumption | (simp only [wL_1, wL_22, wI_2, wA_2, wQ_1, wQ_21] <;> first | assumption | omega)) only [LIT, LITm, nI_add, n_mul, fa_or, n_31m, n_shl0, n_le, n_lt, n_eq, Option.bind_some, B_rd hn]
    rfl
  · rw [wI_ne h3, wI_ne h3]
  · rw [wI_ne (by omega), wI_ne (by omega)]
  · rw [wI_at, upd_ne (by omega), wI_at, upd_at]
  · rw [wI_at, upd_at]
    exact hk.2.2.1
theorem cX_ad (hX : cX B N t s q) (ht : t = 6 ∨ t = 29) (f : frK s s1) (hk : cTk s1 (lxV B N q.1.2.2.2)) : cX B N t s1 (adQ B N q) := by
  obtain ⟨a, b, c, d, e1, e2, e3⟩ := hX
  refine ⟨btT_K a f, by rw [f.1]; exact b, hk, lx_w d.2.2.2, ?_, ?_, ?_⟩
  · rw [f.2.1 _ (by omega)]; exact e1
  · rw [f.2.1 _ (by omega)]; exact e2
  · exact lsC_f (q := q) e3 (f.2.1 _ (by omega)) (f.2.1 _ (by omega))
theorem c_kadv (hn : 239 ≤ n) (ht : t = 6 ∨ t = 29) (hX : cX B N t s q) : ∃ s', fX7_advance n (mk s) 4 = some ((), mk s') ∧ frK s s' ∧ cX B N t s' (adQ B N q) := by
  obtain ⟨s', a, b, c⟩ := c_adv hn hX.1 hX.2.2.1.2.2.2 hX.2.2.2.1.2.2.2
  exact ⟨s', a, b, cX_ad hX ht b c⟩
theorem c_exp (hn : 239 ≤ n) (ht : t = 6 ∨ t = 29) (hX : cX B N t s q) (hk : k < 64) : (q.1.1 = k → ∃ s', fX3_expect n (mk s) 3 (nI k) = some (.inl (), mk s') ∧ frK s s' ∧ cX B N t s' (adQ B N q)) ∧ (q.1.1 ≠ k → erC t s (fX3_expect n (mk s) 3 (nI k)) (1, q.1.2.2.1)) := by
  obtain ⟨s', a, b, c⟩ := c_kadv hn ht hX
  have w := hX.2.2.2.1.1
  have k4 := hX.2.2.1.1
  unfold fX3_expect fX3_expect_16
  constructor
  · intro h
    refine ⟨s', ?_, b, c⟩
    simp (disch := first | omega | assumption | (simp only [wL_1, wL_22, wI_2, wA_2, wQ_1, wQ_21] <;> first | assumption | omega)) only [LIT, LITm, nI_add, n_mul, fa_or, n_31m, n_shl0, n_le, n_lt, n_eq, Option.bind_some, B_rd hn, k4, h, a, ↓reduceIte]
  · intro h
    have f := bt_er (c_fail (t := t) (k := 1) hn hX.2.2.1) (f := fun (x3 : Unit) h4 => (pR n h4 3 3 0).bind fun x1 => (fX7_advance n h4 x1).bind fun q2 => some ((.inl () : Unit ⊕ Nat), q2.2))
    simp (disch := first | omega | assumption | (simp only [wL_1, wL_22, wI_2, wA_2, wQ_1, wQ_21] <;> first | assumption | omega)) only [LIT, LITm, nI_add, n_mul, fa_or, n_31m, n_shl0, n_le, n_lt, n_eq, Option.bind_some, B_rd hn, k4, h, ↓reduceIte]
    exact f
theorem cX_3 (hX : cX B N t s q) : s.2.2 3 1 = t := hX.2.1
theorem B_31 (hn : 239 ≤ n) (ht : t = 6 ∨ t = 29) (e : s.2.2 3 1 = t) : pR n (mk s) 3 3 1 = some t := (B_rd hn).2.2.1 s t e (by omega)
theorem c_tkn (hn : 239 ≤ n) (ht : t = 6 ∨ t = 29) (hX : cX B N t s q) (h64 : q.2.2 ≤ 64) : (64 ≤ q.2.2 → erC t s (fX3_takeKnot n (mk s) 3) (2, q.1.2.2.1)) ∧ (¬ 64 ≤ q.2.2 → ∃ s', fX3_takeKnot n (mk s) 3 = some (.inl (), mk s') ∧ frX t s s' ∧ cX B N t s' (kcQ B N q)) := by
  have k5 := hX.2.2.2.2.2.1
  have r1 := B_31 hn ht hX.2.1
  unfold fX3_takeKnot fX3_takeKnot_20
  constructor
  · intro h
    have f := bt_er (c_fail (t := t) (k := 2) hn hX.2.2.1) (f := fun (x4 : Unit) h5 => fX3_takeKnot_20 n h5 3)
    simp (disch := first | omega | assumption | (simp only [wL_1, wL_22, wI_2, wA_2, wQ_1, wQ_21] <;> first | assumption | omega)) only [LIT, LITm, nI_add, n_mul, fa_or, n_31m, n_shl0, n_le, n_lt, n_eq, Option.bind_some, B_rd hn, B_t hn ht, r1, k5, show ¬ q.2.2 < 64 by omega, ↓reduceIte]
    exact f
  · intro h
    have X1 : cX B N t (wI s (t + 16) 5 (nI (q.2.2 + 1))) (q.1, q.2.1, q.2.2 + 1) := by
      obtain ⟨a, b, c, d, e1, e2, e3⟩ := hX
      refine ⟨⟨a.1, ?_, a.2.2.1, ?_, a.2.2.2.2.1, ?_⟩, b, ⟨?_, ?_, ?_, ?_⟩, d, ?_, ?_, ?_⟩
      · rw [wI_ne (by omega)]; exact a.2.1
      · intro i hi; rw [wI_ne (by omega)]; exact a.2.2.2.1 i hi
      · intro i hi; rw [wI_ne (by omega)]; exact a.2.2.2.2.2 i hi
      · rw [wI_ne (by omega)]; exact c.1
      · rw [wI_ne (by omega)]; exact c.2.1
      · rw [wI_ne (by omega)]; exact c.2.2.1
      · rw [wI_ne (by omega)]; exact c.2.2.2
      · rw [wI_at, upd_ne (by omega)]; exact e1
      · rw [wI_at, upd_at]
      · exact lsC_f (q := q) e3 (wI_ne (by omega)) (wI_ne (by omega))
    obtain ⟨s', a, b, c⟩ := c_kadv hn ht X1
    refine ⟨s', ?_, frX_t ?_ (frK_X b), c⟩
    · simp (disch := first | omega | assumption | (simp only [wL_1, wL_22, wI_2, wA_2, wQ_1, wQ_21] <;> first | assumption | omega)) only [LIT, LITm, nI_add, n_mul, fa_or, n_31m, n_shl0, n_le, n_lt, n_eq, Option.bind_some, B_rd hn, B_t hn ht, r1, k5, show q.2.2 < 64 by omega, ↓reduceIte, a]
    · exact ⟨rfl, fun a _ h2 _ _ => wI_ne h2, by rw [wI_ne (by omega)]⟩
theorem c_put {x y : Nat} (hn : 239 ≤ n) (ht : t = 6 ∨ t = 29) (hX : cX B N t s q) (h64 : q.2.1.length < 64) : ∃ s', fX2_put n (mk s) (t + 16) (nI x) (nI y) = some ((), mk s') ∧ frX t s s' ∧ cX B N t s' (emQ (x, y) q) := by
  have k4 := hX.2.2.2.2.1
  refine ⟨wI (wI (wI s (t + 19) q.2.1.length (nI x)) (t + 20) q.2.1.length (nI y)) (t + 16) 4 (nI (q.2.1.length + 1)), ?_, ?_, ?_⟩
  · unfold fX2_put
    simp (disch := first | omega | assumption | (simp only [wL_1, wL_22, wI_2, wA_2, wQ_1, wQ_21] <;> first | assumption | omega)) only [LIT, LITm, nI_add, n_mul, fa_or, n_31m, n_shl0, n_le, n_lt, n_eq, Option.bind_some, B_t hn ht, k4, wI_ne, wI_at, upd_ne, upd_at, ne_eq, show ¬ 64 ≤ q.2.1.length by omega, ↓reduceIte]
  · exact ⟨rfl, fun a h1 h2 h3 h4 => by rw [wI_ne h2, wI_ne h4, wI_ne h3], by rw [wI_ne (by omega), wI_ne (by omega), wI_ne (by omega)]⟩
  · obtain ⟨a, b, c, d, e1, e2, e3⟩ := hX
    refine ⟨⟨a.1, ?_, a.2.2.1, ?_, a.2.2.2.2.1, ?_⟩, b, ⟨?_, ?_, ?_, ?_⟩, d, ?_, ?_, ⟨⟨?_, ?_⟩, ?_⟩⟩
    · rw [wI_ne (by omega), wI_ne (by omega), wI_ne (by omega)]; exact a.2.1
    · intro i hi; rw [wI_ne (by omega), wI_ne (by omega), wI_ne (by omega)]; exact a.2.2.2.1 i hi
    · intro i hi; rw [wI_ne (by omega), wI_ne (by omega), wI_ne (by omega)]; exact a.2.2.2.2.2 i hi
    · rw [wI_ne (by omega), wI_ne (by omega), wI_ne (by omega)]; exact c.1
    · rw [wI_ne (by omega), wI_ne (by omega), wI_ne (by omega)]; exact c.2.1
    · rw [wI_ne (by omega), wI_ne (by omega), wI_ne (by omega)]; exact c.2.2.1
    · rw [wI_ne (by omega), wI_ne (by omega), wI_ne (by omega)]; exact c.2.2.2
    · rw [wI_at, upd_at]; rfl
    · rw [wI_at, upd_ne (by omega), wI_ne (by omega), wI_ne (by omega)]; exact e2
    · rw [wI_ne (by omega), wI_ne (by omega), wI_at, upd_at]
    · rw [wI_ne (by omega), wI_at, upd_at]
    · have gen : ∀ o : List (Nat × Nat), o.length ≤ q.2.1.length → lsC s.1 t o → lsC (wI (wI (wI s (t + 19) q.2.1.length (nI x)) (t + 20) q.2.1.length (nI y)) (t + 16) 4 (nI (q.2.1.length + 1))).1 t o := by
        intro o
        induction o with
        | nil => intro _ _; exact True.intro
        | cons z o ih =>
          intro h1 h2
          have h1' : o.length + 1 ≤ q.2.1.length := h1
          refine ⟨⟨?_, ?_⟩, ih (by omega) h2.2⟩
          · rw [wI_ne (by omega), wI_ne (by omega), wI_at, upd_ne (by omega)]; exact h2.1.1
          · rw [wI_ne (by omega), wI_at, upd_ne (by omega), wI_ne (by omega)]; exact h2.1.2
      exact gen q.2.1 (Nat.le_refl _) e3
theorem c_lvO (hn : 239 ≤ n) (hk : k ≤ 38) : fX3_levelOf n (mk s) (nI k) = some (if lvO k = 9 then m1 else nI (lvO k), mk s) := by
  have tab : ∀ k : Fin 39, ∀ h : ai_H, fX3_levelOf n h (nI k.1) = some (if lvO k.1 = 9 then m1 else nI (lvO k.1), h) := by
    intro k h
    unfold fX3_levelOf fX3_levelOf_30 fX3_levelOf_56
    revert k
    have t2 : ∀ k : Fin 39, (if ¬ nI k.1 = (12 : Int32) then (if ¬ nI k.1 = (13 : Int32) then (if nI k.1 < (27 : Int32) then (if nI k.1 = (33 : Int32) then (4 : Int32) else (if ¬ nI k.1 = (34 : Int32) then (if nI k.1 = (35 : Int32) then 5 else (if ¬ nI k.1 = (36 : Int32) then (-1 : Int32) else 5)) else 4)) else (if (32 : Int32) < nI k.1 then (if nI k.1 = (33 : Int32) then (4 : Int32) else (if ¬ nI k.1 = (34 : Int32) then (if nI k.1 = (35 : Int32) then 5 else (if ¬ nI k.1 = (36 : Int32) then (-1 : Int32) else 5)) else 4)) else 3)) else 1) else 0) = (if lvO k.1 = 9 then m1 else nI (lvO k.1)) := by decide +kernel
    intro k
    rw [← t2 k]
    repeat' split
    all_goals first | rfl | omega
  exact tab ⟨k, by omega⟩ (mk s)
end Cq
