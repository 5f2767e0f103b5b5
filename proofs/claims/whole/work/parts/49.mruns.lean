/-! ===== the reference's calls that run days ===== -/
/-- the reference's elements that hold nothing from call to call -/
def scM (a j : Nat) : Prop := hfM 1 a j ∨ (a = 187 ∧ (j = 2 ∨ j = 59 ∨ (69 ≤ j ∧ j ≤ 76) ∨ j = 82)) ∨ (227 ≤ a ∧ a ≤ 232) ∨ a = 234 ∨ a = 235
def frT0 (s s' : zS) : Prop := s'.2.2 = s.2.2 ∧ (∀ a j, ¬ scM a j → s'.1 a j = s.1 a j) ∧ ∀ a j, a ≠ 217 → a ≠ 218 → ¬ (a = 187 ∧ j = 68) → s'.2.1 a j = s.2.1 a j
def frT (s s' : zS) : Prop := frT0 s s' ∧ s'.2.1 187 68 = s.2.1 187 68
theorem frT0_r {s : zS} : frT0 s s := ⟨rfl, fun _ _ _ => rfl, fun _ _ _ _ _ => rfl⟩
theorem frT0_t {s s1 s2 : zS} (h : frT0 s s1) (g : frT0 s1 s2) : frT0 s s2 := ⟨g.1.trans h.1, fun a j ha => (g.2.1 a j ha).trans (h.2.1 a j ha), fun a j h1 h2 h3 => (g.2.2 a j h1 h2 h3).trans (h.2.2 a j h1 h2 h3)⟩
theorem frT_r {s : zS} : frT s s := ⟨frT0_r, rfl⟩
theorem frT_t {s s1 s2 : zS} (h : frT s s1) (g : frT s1 s2) : frT s s2 := ⟨frT0_t h.1 g.1, g.2.trans h.2⟩
theorem frT_w {s : zS} {a j : Nat} {x : Int32} (h : scM a j) : frT s (wI s a j x) := ⟨⟨rfl, fun a' j' h1 => by rw [wI_g, if_neg (fun e => h1 (by rw [e.1, e.2]; exact h))], fun _ _ _ _ _ => rfl⟩, rfl⟩
theorem frY_T0 {O : zO} {s s' : zS} (h : frY 1 O s s') : frT0 s s' := ⟨h.1, fun a j ha => h.2.1 a j (fun g => ha (Or.inl g)) (fun g => ha (Or.inr (Or.inl ⟨g.1, Or.inr (Or.inl g.2)⟩))), h.2.2.1⟩
theorem frY_T {O : zO} {s s' : zS} (h0 : O.1 ≠ 0) (h : frY 1 O s s') : frT s s' := ⟨frY_T0 h, h.2.2.2 h0⟩
theorem frQ_T {s s' : zS} (h : frQ s s') : frT s s' := ⟨⟨h.1, fun a j ha => h.2.1 a j (fun g => ha (Or.inr (Or.inl ⟨g.1, Or.inr (Or.inl g.2)⟩))), fun a j h1 h2 _ => by rw [h.2.2 a h1 h2]⟩, by rw [h.2.2 187 (by omega) (by omega)]⟩
theorem frT0_M {s s' : zS} (h : frT0 s s') : frM s s' := ⟨h.1, fun a ha => ⟨funext fun j => h.2.1 a j (by unfold scM hfM; omega), funext fun j => h.2.2 a j (by omega) (by omega) (by omega)⟩⟩
theorem frT_M {s s' : zS} (h : frT s s') : frM s s' := frT0_M h.1
theorem mTd_T {s s' : zS} {T : zT} (f : frT0 s s') (h : mTd s.1 T) : mTd s'.1 T := mTd_fr h (fun a j ha => f.2.1 a j (by unfold scM hfM; omega))
theorem mSd_T {s s' : zS} {T : zT} {O : zO} {S : zD} (hW : WT T) (f : frT s s') (h : mSd s 0 T O S) : mSd s' 0 T O S := by
  obtain ⟨⟨h1, h2, h3, h4⟩, h5, h6⟩ := h
  have h0 := hW.1
  have e : ∀ a j, 219 ≤ a → a ≤ 226 → (a ≤ 220 → j < 4) → (a ≤ 223 → j < 9) → (224 ≤ a → j < 1) → s'.1 a j = s.1 a j := fun a j g1 g2 g3 g4 g5 => f.1.2.1 a j (by unfold scM hfM; omega)
  refine ⟨⟨?_, ?_, fun g => ?_, fun g => by rw [f.2]; exact h4 g⟩, fun p hp => ?_, fun w hw => ?_⟩
  · rw [e 226 0 (by omega) (by omega) (by omega) (by omega) (by omega)]; exact h1
  · rw [e 224 0 (by omega) (by omega) (by omega) (by omega) (by omega)]; exact h2
  · rw [e 225 0 (by omega) (by omega) (by omega) (by omega) (by omega)]; exact h3 g
  · rw [e 221 _ (by omega) (by omega) (by omega) (by omega) (by omega), e 222 _ (by omega) (by omega) (by omega) (by omega) (by omega), e 223 _ (by omega) (by omega) (by omega) (by omega) (by omega)]; exact h5 p hp
  · rw [e 219 _ (by omega) (by omega) (by omega) (by omega) (by omega), e 220 _ (by omega) (by omega) (by omega) (by omega) (by omega)]; exact h6 w hw
theorem mK_T {s s' : zS} {A : zA} (hW : WT (aT A)) (h : mK s A) (f : frT s s') : mK s' A := by
  obtain ⟨h1, h2, h3, h4, h5, h6, h7⟩ := h
  have e : ∀ j, j ≠ 2 → j ≠ 59 → (j < 69 ∨ 76 < j) → j ≠ 82 → s'.1 187 j = s.1 187 j := fun j g1 g2 g3 g4 => f.1.2.1 187 j (by unfold scM hfM; omega)
  have ec : ∀ a, (188 ≤ a ∧ a < 219) ∨ a = 233 ∨ 236 ≤ a → s'.1 a = s.1 a := fun a ha => funext fun j => f.1.2.1 a j (by unfold scM hfM; omega)
  refine ⟨mTd_T f.1 h1, mSd_T hW f h2, ?_, ?_, ?_, ?_, ?_⟩
  · unfold mIm
    rw [e 91 (by omega) (by omega) (by omega) (by omega), e 93 (by omega) (by omega) (by omega) (by omega), e 94 (by omega) (by omega) (by omega) (by omega), ec 237 (by omega), f.1.2.2 187 95 (by omega) (by omega) (by omega)]
    exact h3
  · unfold mPs
    rw [e 89 (by omega) (by omega) (by omega) (by omega), ec 236 (by omega)]
    exact h4
  · unfold mBt
    rw [e 1 (by omega) (by omega) (by omega) (by omega), ec 188 (by omega)]
    exact h5
  · unfold mFt
    rw [e 4 (by omega) (by omega) (by omega) (by omega), e 5 (by omega) (by omega) (by omega) (by omega)]
    exact h6
  · unfold mSn
    rw [e 84 (by omega) (by omega) (by omega) (by omega), e 85 (by omega) (by omega) (by omega) (by omega), ec 233 (by omega)]
    exact h7
theorem mSd_O {s : zS} {b : Nat} {T : zT} {O : zO} {S : zD} (h : mSd s b T O00 S) : mSd s b T O S := ⟨⟨h.1.1, h.1.2.1, fun _ => h.1.2.2.1 rfl, fun _ => h.1.2.2.2 rfl⟩, h.2⟩
theorem mSd_O0 {s : zS} {b : Nat} {T : zT} {S : zD} (h : mSd s b T (O0 T 0) S) : mSd s b T O00 S := ⟨⟨h.1.1, h.1.2.1, fun _ => h.1.2.2.1 rfl, fun _ => h.1.2.2.2 rfl⟩, h.2⟩
section Mr
variable {n t o p w j : Nat} {s : zS} {T : zT} {O : zO} {S : zD} {A : zA}
theorem m_plain (hn : 239 ≤ n) (hW : WT T) : ∃ s' : zS, fX11_plainTried n (mk s) 187 = some ((), mk s') ∧ frT s s' ∧ s'.2 = s.2 ∧ (∀ a, a ≠ 187 → s'.1 a = s.1 a) ∧ mOd s'.1 T (O0 T 1) ∧ s'.1 187 72 = nI 0 ∧ s'.1 187 75 = m1 ∧ ∀ j, (j < 69 ∨ 76 < j) → s'.1 187 j = s.1 187 j := by
  refine ⟨wI (wI (wI (wI (wI (wI (wI (wI s 187 69 (nI 0)) 187 70 (nI 0)) 187 71 (nI 0)) 187 72 (nI 0)) 187 73 (nI 0)) 187 74 m1) 187 75 m1) 187 76 (nI 0), ?_, ?_, rfl, fun a ha => ?_, ⟨⟨?_, ?_, ?_, ?_⟩, Or.inr ⟨?_, rfl, rfl⟩, Or.inr ⟨?_, fun w hw => ⟨fun h => ?_, fun _ => rfl⟩⟩⟩, ?_, ?_, fun j hj => ?_⟩
  · unfold fX11_plainTried
    simp (disch := first | omega | assumption | (simp only [wL_1, wL_22, wI_2, wA_2, wQ_1, wQ_21] <;> first | assumption | omega)) only [LIT, LITm, nI_add, n_mul, fa_or, n_31m, n_shl0, n_le, n_lt, n_eq, Option.bind_some, B_m hn, B_mz hn]
  · refine frT_t (frT_w ?_) (frT_t (frT_w ?_) (frT_t (frT_w ?_) (frT_t (frT_w ?_) (frT_t (frT_w ?_) (frT_t (frT_w ?_) (frT_t (frT_w ?_) (frT_w ?_))))))) <;> (unfold scM; omega)
  · simp (disch := omega) only [wI_ne]
  · simp (disch := omega) only [wI_at, upd_at, upd_ne]; rfl
  · simp (disch := omega) only [wI_at, upd_at, upd_ne]; rfl
  · simp (disch := omega) only [wI_at, upd_at, upd_ne]; rfl
  · simp (disch := omega) only [wI_at, upd_at, upd_ne]; rfl
  · simp (disch := omega) only [wI_at, upd_at, upd_ne]
  · simp (disch := omega) only [wI_at, upd_at, upd_ne]
  · simp (disch := omega) only [wI_at, upd_at, upd_ne] at h
    rw [n_m1 (by have := hW.1; omega)] at h
    exact h.elim
  · simp (disch := omega) only [wI_at, upd_at, upd_ne]
  · simp (disch := omega) only [wI_at, upd_at, upd_ne]
  · simp (disch := omega) only [wI_at, upd_ne]
theorem m_lay (hn : 239 ≤ n) (hW : WT T) (hS : mSd s 0 T (O0 T 1) S) : ∃ s' : zS, fX11_layTried n (mk s) 187 = some ((), mk s') ∧ frT s s' ∧ s'.2 = s.2 ∧ mSd s' 1 T (O0 T 1) S ∧ mOd s'.1 T (O0 T 1) ∧ s'.1 187 72 = nI 0 ∧ s'.1 187 75 = m1 := by
  have h0 := hW.1
  obtain ⟨⟨h1, h2, h3, -⟩, h5, h6⟩ := hS
  have lo : ∀ sx : zS, frT s sx → ∀ a j, 219 ≤ a → a ≤ 226 → (a ≤ 220 → j < 4) → (a ≤ 223 → j < 9) → (224 ≤ a → j < 1) → sx.1 a j = s.1 a j := fun sx f a j g1 g2 g3 g4 g5 => f.1.2.1 a j (by unfold scM hfM; omega)
  unfold fX11_layTried
  simp (disch := first | omega | assumption | (simp only [wL_1, wL_22, wI_2, wA_2, wQ_1, wQ_21] <;> first | assumption | omega)) only [LIT, LITm, nI_add, n_mul, fa_or, n_31m, n_shl0, n_le, n_lt, n_eq, Option.bind_some, B_m hn]
  have fin : ∀ sx : zS, frT s sx → sx.2 = s.2 → (∀ w, w < 4 → sx.1 219 (4 + w) = s.1 219 w ∧ sx.1 220 (4 + w) = s.1 220 w) → ∃ s' : zS, fX11_layTried_43 n bi_K (mk sx) 187 (nI 0) = some ((), mk s') ∧ frT s s' ∧ s'.2 = s.2 ∧ mSd s' 1 T (O0 T 1) S ∧ mOd s'.1 T (O0 T 1) ∧ s'.1 187 72 = nI 0 ∧ s'.1 187 75 = m1 := by
    intro sx fx gx hx
    refine lp_up (F := fun k (s1 : zS) i => fX11_layTried_43 n k (mk s1) 187 (nI i)) (N := 9) (P := fun i s1 => frT s s1 ∧ s1.2 = s.2 ∧ (∀ w, w < 4 → s1.1 219 (4 + w) = s.1 219 w ∧ s1.1 220 (4 + w) = s.1 220 w) ∧ ∀ p, p < i → s1.1 221 (9 + p) = s.1 221 p ∧ s1.1 222 (9 + p) = vp_nar .boolean (s.1 222 p) ∧ s1.1 223 (9 + p) = s.1 223 p) (Q := fun r => ∃ s' : zS, r = some ((), mk s') ∧ frT s s' ∧ s'.2 = s.2 ∧ mSd s' 1 T (O0 T 1) S ∧ mOd s'.1 T (O0 T 1) ∧ s'.1 187 72 = nI 0 ∧ s'.1 187 75 = m1) ?_ ?_ 9 bi_K sx 0 (by omega) (by unfold bi_K; omega) ⟨fx, gx, hx, fun p h => by omega⟩
    · intro k sy i hi hP
      obtain ⟨f, g, h, hp⟩ := hP
      have r1 := lo sy f 221 i (by omega) (by omega) (by omega) (by omega) (by omega)
      have r2 := lo sy f 222 i (by omega) (by omega) (by omega) (by omega) (by omega)
      have r3 := lo sy f 223 i (by omega) (by omega) (by omega) (by omega) (by omega)
      left
      refine ⟨wI (wI (wI sy 221 (9 + i) (s.1 221 i)) 222 (9 + i) (vp_nar .boolean (s.1 222 i))) 223 (9 + i) (s.1 223 i), ?_, frT_t f (frT_t (frT_w (by unfold scM hfM; omega)) (frT_t (frT_w (by unfold scM hfM; omega)) (frT_w (by unfold scM hfM; omega)))), g, fun w hw => ?_, fun p hpi => ?_⟩
      · simp (disch := first | omega | assumption | (simp only [wL_1, wL_22, wI_2, wA_2, wQ_1, wQ_21] <;> first | assumption | omega)) only [fX11_layTried_43, fX11_layTried_43b, LIT, LITm, nI_add, n_mul, fa_or, n_31m, n_shl0, n_le, n_lt, n_eq, Option.bind_some, B_m hn, B_mb hn, wI_ne, r1, r2, r3, show ¬ 9 ≤ i by omega, ↓reduceIte]
      · simp (disch := omega) only [wI_ne]
        exact h w hw
      · by_cases e : p = i
        · subst e
          simp (disch := omega) only [wI_at, wI_ne, upd_at, and_self]
        · simp (disch := omega) only [wI_at, wI_ne, upd_ne]
          exact hp p (by omega)
    · intro k sy hP
      obtain ⟨f, g, h, hp⟩ := hP
      have r1 := lo sy f 224 0 (by omega) (by omega) (by omega) (by omega) (by omega)
      have r2 := lo sy f 225 0 (by omega) (by omega) (by omega) (by omega) (by omega)
      have r3 := lo sy f 226 0 (by omega) (by omega) (by omega) (by omega) (by omega)
      obtain ⟨sz, ez, fz, gz, cz, oz, pz1, pz2, -⟩ := m_plain (T := T) (s := wI (wI (wI sy 224 1 (s.1 224 0)) 225 1 (s.1 225 0)) 226 1 (s.1 226 0)) hn hW
      refine ⟨sz, ?_, frT_t f (frT_t (frT_w (by unfold scM hfM; omega)) (frT_t (frT_w (by unfold scM hfM; omega)) (frT_t (frT_w (by unfold scM hfM; omega)) fz))), by rw [gz]; exact g, ?_, oz, pz1, pz2⟩
      · simp (disch := first | omega | assumption | (simp only [wL_1, wL_22, wI_2, wA_2, wQ_1, wQ_21] <;> first | assumption | omega)) only [fX11_layTried_43, fX11_layTried_43b, LIT, LITm, nI_add, n_mul, fa_or, n_31m, n_shl0, n_le, n_lt, n_eq, Option.bind_some, B_m hn, B_mb hn, B_mc hn, wI_ne, r1, r2, r3, ez, Nat.le_refl, ↓reduceIte]
      · refine ⟨⟨?_, ?_, fun _ => ?_, fun h => by cases h⟩, fun p hpp => ?_, fun w hw => ?_⟩
        · rw [cz 226 (by omega)]
          simp (disch := omega) only [wI_at, wI_ne, upd_at]
          exact h1
        · rw [cz 224 (by omega)]
          simp (disch := omega) only [wI_at, wI_ne, upd_at]
          exact h2
        · rw [cz 225 (by omega)]
          simp (disch := omega) only [wI_at, wI_ne, upd_at]
          exact h3 rfl
        · rw [cz 221 (by omega), cz 222 (by omega), cz 223 (by omega)]
          simp (disch := omega) only [wI_ne, Nat.mul_one]
          obtain ⟨q1, q2, q3⟩ := hp p (by omega)
          obtain ⟨z1, z2, z3⟩ := h5 p hpp
          simp only [Nat.mul_zero, Nat.zero_add] at z1 z2 z3
          rw [q1, q2, q3, z1, z2, z3]
          refine ⟨rfl, nar_b (Bool.toNat_le _), rfl⟩
        · rw [cz 219 (by omega), cz 220 (by omega)]
          simp (disch := omega) only [wI_ne, Nat.mul_one]
          obtain ⟨q1, q2⟩ := h w (by omega)
          obtain ⟨z1, z2⟩ := h6 w hw
          simp only [Nat.mul_zero, Nat.zero_add] at z1 z2
          rw [q1, q2, z1, z2]
          exact ⟨rfl, rfl⟩
  refine lp_up (F := fun k (s1 : zS) i => fX11_layTried_2 n k (mk s1) 187 (nI i)) (N := 4) (P := fun i s1 => frT s s1 ∧ s1.2 = s.2 ∧ (∀ w, w < i → s1.1 219 (4 + w) = s.1 219 w ∧ s1.1 220 (4 + w) = s.1 220 w)) (Q := fun r => ∃ s' : zS, r = some ((), mk s') ∧ frT s s' ∧ s'.2 = s.2 ∧ mSd s' 1 T (O0 T 1) S ∧ mOd s'.1 T (O0 T 1) ∧ s'.1 187 72 = nI 0 ∧ s'.1 187 75 = m1) ?_ ?_ 4 bi_K s 0 (by omega) (by unfold bi_K; omega) ⟨frT_r, rfl, fun p h => by omega⟩
  · intro k sy i hi hP
    obtain ⟨f, g, h⟩ := hP
    have r1 := lo sy f 219 i (by omega) (by omega) (by omega) (by omega) (by omega)
    have r2 := lo sy f 220 i (by omega) (by omega) (by omega) (by omega) (by omega)
    left
    refine ⟨wI (wI sy 219 (4 + i) (s.1 219 i)) 220 (4 + i) (s.1 220 i), ?_, frT_t f (frT_t (frT_w (by unfold scM hfM; omega)) (frT_w (by unfold scM hfM; omega))), g, fun w hw => ?_⟩
    · simp (disch := first | omega | assumption | (simp only [wL_1, wL_22, wI_2, wA_2, wQ_1, wQ_21] <;> first | assumption | omega)) only [fX11_layTried_2, fX11_layTried_2b, LIT, LITm, nI_add, n_mul, fa_or, n_31m, n_shl0, n_le, n_lt, n_eq, Option.bind_some, B_m hn, B_mb hn, wI_ne, r1, r2, show ¬ 4 ≤ i by omega, ↓reduceIte]
    · by_cases e : w = i
      · subst e
        simp (disch := omega) only [wI_at, wI_ne, upd_at, and_self]
      · simp (disch := omega) only [wI_at, wI_ne, upd_ne]
        exact h w (by omega)
  · intro k sy hP
    obtain ⟨f, g, h⟩ := hP
    obtain ⟨sz, ez, fz⟩ := fin sy f g h
    refine ⟨sz, ?_, fz⟩
    simp (disch := first | omega | assumption | (simp only [wL_1, wL_22, wI_2, wA_2, wQ_1, wQ_21] <;> first | assumption | omega)) only [fX11_layTried_2, fX11_layTried_2b, LIT, LITm, nI_add, n_mul, fa_or, n_31m, n_shl0, n_le, n_lt, n_eq, Option.bind_some, ez, Nat.le_refl, ↓reduceIte]
theorem m_many (hn : 239 ≤ n) (hW : WT T) (hT : mTd s.1 T) (hO : mOd s.1 T O) (hS : mSd s 1 T O S) (hwO : wO T O) (hD : wD T S) (hj : j < 1000) : ∃ s' : zS, fX11_goMany n (mk s) 187 (nI j) = some ((), mk s') ∧ frY 1 O s s' ∧ mSd s' 1 T O (dyN T O j S) := by
  unfold fX11_goMany
  simp (disch := first | omega | assumption | (simp only [wL_1, wL_22, wI_2, wA_2, wQ_1, wQ_21] <;> first | assumption | omega)) only [LIT, LITm, nI_add, n_mul, fa_or, n_31m, n_shl0, n_le, n_lt, n_eq, Option.bind_some, B_m hn]
  refine lp_up (F := fun k (s1 : zS) i => fX11_goMany_2 n k (mk s1) 187 (nI j) (nI i)) (N := j) (P := fun i s1 => frY 1 O s s1 ∧ mSd s1 1 T O (dyN T O i S)) (Q := fun r => ∃ s' : zS, r = some ((), mk s') ∧ frY 1 O s s' ∧ mSd s' 1 T O (dyN T O j S)) ?_ ?_ j bi_K s 0 (by omega) (by unfold bi_K; omega) ⟨frY_r, hS⟩
  · intro k sy i hi hP
    obtain ⟨f, hSy⟩ := hP
    left
    obtain ⟨sz, ez, fz, hz⟩ := m_day hn hW (mTd_Y f hT) (mOd_Y f hO) hSy hwO (dyN_w hW hD i) (by omega)
    refine ⟨sz, ?_, frY_t f fz, hz⟩
    simp (disch := first | omega | assumption | (simp only [wL_1, wL_22, wI_2, wA_2, wQ_1, wQ_21] <;> first | assumption | omega)) only [fX11_goMany_2, fX11_goMany_2b, LIT, LITm, nI_add, n_mul, fa_or, n_31m, n_shl0, n_le, n_lt, n_eq, Option.bind_some, ez, show ¬ j ≤ i by omega, ↓reduceIte]
  · intro k sy hP
    obtain ⟨f, hSy⟩ := hP
    refine ⟨sy, ?_, f, hSy⟩
    simp (disch := first | omega | assumption | (simp only [wL_1, wL_22, wI_2, wA_2, wQ_1, wQ_21] <;> first | assumption | omega)) only [fX11_goMany_2, fX11_goMany_2b, LIT, LITm, nI_add, n_mul, fa_or, n_31m, n_shl0, n_le, n_lt, n_eq, Option.bind_some, Nat.le_refl, ↓reduceIte]
theorem ct_9 {k m : Nat} (hk : k < 2 ^ m) (hm : m ≤ 9) : fb_ct (fun p => k.testBit p) m = pcV k := by
  unfold pcV
  have e := fb_ct_split (fun i => k.testBit i) m (9 - m)
  rw [show m + (9 - m) = 9 by omega] at e
  rw [e]
  have z : fb_ct (fun i => k.testBit (m + i)) (9 - m) = 0 := fb_ct_zero.mpr (fun i _ => Nat.testBit_lt_two_pow (Nat.lt_of_lt_of_le hk (Nat.pow_le_pow_right (by decide) (by omega))))
  omega
theorem m_kept {b : Nat} (hn : 239 ≤ n) (hW : WT T) (hT : mTd s.1 T) (hb : b ≤ 1) (hS : mSd s b T O S) (hD : wD T S) : fX11_keptMany n (mk s) 187 (nI b) = some (nI (pcV S.2.2.2.1), mk s) := by
  have h0 := hW.1
  rw [← ct_9 hD.2.1 hW.1.2.1]
  unfold fX11_keptMany
  simp (disch := first | omega | assumption | (simp only [wL_1, wL_22, wI_2, wA_2, wQ_1, wQ_21] <;> first | assumption | omega)) only [LIT, LITm, nI_add, n_mul, fa_or, n_31m, n_shl0, n_le, n_lt, n_eq, Option.bind_some, B_m hn]
  refine lp_up (F := fun k (c : Nat) i => fX11_keptMany_4 n k (mk s) 187 (nI b) (nI c) (nI i)) (N := T 0 1) (P := fun i c => c = fb_ct (fun p => S.2.2.2.1.testBit p) i) (Q := fun r => r = some (nI (fb_ct (fun p => S.2.2.2.1.testBit p) (T 0 1)), mk s)) ?_ ?_ (T 0 1) bi_K 0 0 (by omega) (by unfold bi_K; omega) rfl
  · intro k c i hi hP
    left
    have q := (hS.2.1 i hi).2.1
    cases g : S.2.2.2.1.testBit i with
    | false =>
      rw [g] at q
      refine ⟨c, ?_, by rw [hP, fb_ct_succ]; simp [g]⟩
      simp (disch := first | omega | assumption | (simp only [wL_1, wL_22, wI_2, wA_2, wQ_1, wQ_21] <;> first | assumption | omega)) only [fX11_keptMany_4, fX11_keptMany_4b, fX11_keptMany_32, LIT, LITm, nI_add, n_mul, fa_or, n_31m, n_shl0, n_le, n_lt, n_eq, Option.bind_some, B_m hn, B_mb hn, MTp T, q, Bool.toNat_false, show ¬ T 0 1 ≤ i by omega, ↓reduceIte, Nat.add_zero]
    | true =>
      rw [g] at q
      refine ⟨c + 1, ?_, by rw [hP, fb_ct_succ]; simp [g]⟩
      simp (disch := first | omega | assumption | (simp only [wL_1, wL_22, wI_2, wA_2, wQ_1, wQ_21] <;> first | assumption | omega)) only [fX11_keptMany_4, fX11_keptMany_4b, fX11_keptMany_32, LIT, LITm, nI_add, n_mul, fa_or, n_31m, n_shl0, n_le, n_lt, n_eq, Option.bind_some, B_m hn, B_mb hn, MTp T, q, Bool.toNat_true, Nat.reduceEqDiff, Nat.reduceLeDiff, show ¬ T 0 1 ≤ i by omega, ↓reduceIte]
  · intro k c hP
    simp (disch := first | omega | assumption | (simp only [wL_1, wL_22, wI_2, wA_2, wQ_1, wQ_21] <;> first | assumption | omega)) only [fX11_keptMany_4, fX11_keptMany_4b, LIT, LITm, nI_add, n_mul, fa_or, n_31m, n_shl0, n_le, n_lt, n_eq, Option.bind_some, B_m hn, MTp T, hP, Nat.le_refl, ↓reduceIte]
end Mr
