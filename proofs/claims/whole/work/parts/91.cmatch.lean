/-! ===== walkers matched with paths: the class ===== -/
section Cm
variable {n t o w p W m U : Nat} {s : zS} {T : zT} {S : zD} {A : zA} {C : Nat → Nat → Bool} {ag pk : Nat → Int32} {b : Int32 × (Nat → Int32)} {x : Int32}
def mH (s : zS) (C : Nat → Nat → Bool) (ag : Nat → Int32) (W : Nat) (b : Int32 × (Nat → Int32)) : Prop := (∀ w, w < W → ∃ k, s.1 80 w = nI k ∧ k < 512 ∧ ∀ p, p < 9 → k.testBit p = C w p) ∧ (∀ p, p < 9 → s.1 81 p = ag p) ∧ s.1 77 6 = b.1 ∧ ∀ j, j < 4 → s.1 83 j = b.2 j
def frP (s s' : zS) : Prop := s'.2 = s.2 ∧ (∀ a, a ≠ 82 → a ≠ 83 → a ≠ 77 → s'.1 a = s.1 a)
theorem frP_t {s1 s2 : zS} (h : frP s s1) (g : frP s1 s2) : frP s s2 := ⟨g.1.trans h.1, fun a h1 h2 h3 => (g.2 a h1 h2 h3).trans (h.2 a h1 h2 h3)⟩
theorem mH_P {s' : zS} {b' : Int32 × (Nat → Int32)} (h : mH s C ag W b) (f : frP s s') (h1 : s'.1 77 6 = b'.1) (h2 : ∀ j, j < 4 → s'.1 83 j = b'.2 j) : mH s' C ag W b' := ⟨fun w hw => by rw [f.2 80 (by omega) (by omega) (by omega)]; exact h.1 w hw, fun p hp => by rw [f.2 81 (by omega) (by omega) (by omega)]; exact h.2.1 p hp, h1, h2⟩
theorem and2p {k i : Nat} : (k &&& 2 ^ i = 0) = (k.testBit i = false) := propext ⟨fun h => by
  have := congrArg (fun m => m.testBit i) h
  simp only [Nat.testBit_and, Nat.testBit_two_pow_self, Nat.zero_testBit, Bool.and_true] at this
  exact this, fun h => Nat.eq_of_testBit_eq fun j => by
  rw [Nat.testBit_and, Nat.testBit_two_pow, Nat.zero_testBit]
  by_cases q : i = j
  · rw [← q, h]; rfl
  · rw [decide_eq_false q, Bool.and_false]⟩
theorem c_mf10 {cf : ai_H → Nat → Int32 → Int32 → Int32 → Int32 → Option (Unit × ai_H)} (hn : 239 ≤ n) (hH : mH s C ag W b) (hp : ∀ j, j < 4 → s.1 82 j = pk j) : ∃ s' : zS, fX9_matchFrom_10 n cf (mk s) 77 x = some ((), mk s') ∧ frP s s' ∧ (∀ j, j < 4 → s'.1 82 j = pk j) ∧ mH s' C ag W (if x ≤ b.1 then b else (x, pk)) := by
  have e6 := hH.2.2.1
  unfold fX9_matchFrom_10
  by_cases g : x ≤ b.1
  · refine ⟨s, ?_, ⟨rfl, fun _ _ _ _ => rfl⟩, hp, by rw [if_pos g]; exact hH⟩
    simp (disch := first | omega | assumption | (simp only [wL_1, wL_22, wI_2, wA_2, wQ_1, wQ_21] <;> first | assumption | omega)) only [LIT, LITm, nI_add, n_mul, fa_or, n_31m, n_shl0, n_le, n_lt, n_eq, Option.bind_some, B_wy hn, e6, g, ↓reduceIte]
  · have ca : ∀ s1 : zS, cA n (mk s1) 82 (nI 0) 83 (nI 0) (nI 4) = some (mk (wA s1 83 (va_cpy (s1.1 82) (s1.1 83) 0 0 4))) := fun s1 => mk_cA (za := 4) (zb := 4) rfl rfl ⟨by omega, by omega⟩ ⟨by omega, by omega⟩ (by omega) (by omega) (by omega) (by omega) (by omega) (by omega)
    obtain ⟨s1, es1⟩ : ∃ s1 : zS, s1 = wI s 77 6 x := ⟨_, rfl⟩
    obtain ⟨s2, es2⟩ : ∃ s2 : zS, s2 = wA s1 83 (va_cpy (s1.1 82) (s1.1 83) 0 0 4) := ⟨_, rfl⟩
    have f1 : frP s s2 := ⟨by rw [es2, es1]; rfl, fun a h1 h2 h3 => by rw [es2, es1]; simp (disch := omega) only [wA_ne, wI_ne]⟩
    have e82 : ∀ j, j < 4 → s2.1 82 j = pk j := fun j hj => by
      rw [es2, es1]
      simp (disch := omega) only [wA_ne, wI_ne]
      exact hp j hj
    refine ⟨s2, ?_, f1, e82, ?_⟩
    · simp (disch := first | omega | assumption | (simp only [wL_1, wL_22, wI_2, wA_2, wQ_1, wQ_21] <;> first | assumption | omega)) only [LIT, LITm, nI_add, n_mul, fa_or, n_31m, n_shl0, n_le, n_lt, n_eq, Option.bind_some, B_wy hn, e6, g, ↓reduceIte, ← es1, ca, ← es2]
    · rw [if_neg g]
      refine mH_P hH f1 ?_ (fun j hj => ?_)
      · rw [es2, es1]
        simp (disch := omega) only [wA_ne, wI_at, upd_at]
      · rw [es2]
        simp (disch := omega) only [wA_at, pk_cpy_in]
        rw [show 0 + (j - 0) = j by omega, es1]
        simp (disch := omega) only [wI_ne]
        exact hp j hj
theorem c_mf (hn : 239 ≤ n) (hW4 : W ≤ 4) : ∀ (m f : Nat) (s : zS) (w U : Nat) (x : Int32) (pk : Nat → Int32) (b : Int32 × (Nat → Int32)), w + m = W → m < f → U < 512 → mH s C ag W b → (∀ j, j < 4 → s.1 82 j = pk j) → (∀ j, w ≤ j → j < 4 → pk j = m2) → ∃ s' : zS, fs2 n f (mk s) 77 (nI w) (nI W) (nI U) x = some ((), mk s') ∧ frP s s' ∧ (∀ j, j < 4 → s'.1 82 j = pk j) ∧ mH s' C ag W (mfV C ag m w U x pk b)
  | 0, f, s, w, U, x, pk, b, hw, hf, hU, hH, hp, hpk => by
    obtain ⟨f, rfl⟩ : ∃ f', f = f' + 1 := ⟨f - 1, by omega⟩
    obtain ⟨s', e, r⟩ := c_mf10 (cf := fs2 n f) (x := x) hn hH hp
    refine ⟨s', ?_, r⟩
    show fX9_matchFrom n (fs2 n f) (mk s) 77 (nI w) (nI W) (nI U) x = _
    unfold fX9_matchFrom
    simp (disch := first | omega | assumption | (simp only [wL_1, wL_22, wI_2, wA_2, wQ_1, wQ_21] <;> first | assumption | omega)) only [LIT, LITm, nI_add, n_mul, fa_or, n_31m, n_shl0, n_le, n_lt, n_eq, Option.bind_some, B_wy hn, show W ≤ w by omega, ↓reduceIte]
    exact e
  | m + 1, f, s, w, U, x, pk, b, hw, hf, hU, hH, hp, hpk => by
    obtain ⟨f, rfl⟩ : ∃ f', f = f' + 1 := ⟨f - 1, by omega⟩
    have ih := c_mf hn hW4 m f
    have e0 : fs2 n (f + 1) (mk s) 77 (nI w) (nI W) (nI U) x = fX9_matchFrom_43 n (fs2 n f) bi_K (mk s) 77 (nI w) (nI W) (nI U) x (nI 0) := by
      show fX9_matchFrom n (fs2 n f) (mk s) 77 (nI w) (nI W) (nI U) x = _
      unfold fX9_matchFrom
      simp (disch := first | omega | assumption | (simp only [wL_1, wL_22, wI_2, wA_2, wQ_1, wQ_21] <;> first | assumption | omega)) only [LIT, LITm, nI_add, n_mul, fa_or, n_31m, n_shl0, n_le, n_lt, n_eq, Option.bind_some, B_wy hn, show ¬ W ≤ w by omega, show w < 4 by omega, ↓reduceIte]
    rw [e0]
    obtain ⟨G, eG⟩ : ∃ G : Nat → Int32 × (Nat → Int32) → Int32 × (Nat → Int32), G = fun p b => if (C w p && !U.testBit p) = true then mfV C ag m (w + 1) (U ||| 2 ^ p) (x + ag p) (upd pk w (nI p)) b else b := ⟨_, rfl⟩
    refine lp_up (F := fun f' (s1 : zS) i => fX9_matchFrom_43 n (fs2 n f) f' (mk s1) 77 (nI w) (nI W) (nI U) x (nI i)) (N := 9) (P := fun i s1 => frP s s1 ∧ (∀ j, j < 4 → j ≠ w → s1.1 82 j = pk j) ∧ mH s1 C ag W (lpF G i b)) (Q := fun r => ∃ s' : zS, r = some ((), mk s') ∧ frP s s' ∧ (∀ j, j < 4 → s'.1 82 j = pk j) ∧ mH s' C ag W (mfV C ag (m + 1) w U x pk b)) ?_ ?_ 9 bi_K s 0 (by omega) (by unfold bi_K; omega) ⟨⟨rfl, fun _ _ _ _ => rfl⟩, fun j hj _ => hp j hj, hH⟩
    · rintro f' s1 i hi ⟨g1, g2, g3⟩
      left
      obtain ⟨k, k1, k2, k3⟩ := g3.1 w (by omega)
      have ndl : nd k U < 512 := nd_lt (k := 9) k2
      have e9 := g3.2.1 i hi
      show ∃ s', fX9_matchFrom_43b n (fs2 n f) (fX9_matchFrom_43 n (fs2 n f) f') (mk s1) 77 (nI w) (nI W) (nI U) x (nI i) = _ ∧ _
      unfold fX9_matchFrom_43b fX9_matchFrom_102
      have cond : (nI (nd k U) &&& nI (2 ^ i) = nI 0) = ((C w i && !U.testBit i) = false) := by
        rw [n_and0 (by omega), and2p, nd_tb, k3 i hi]
      have lG : lpF G (i + 1) b = G i (lpF G i b) := rfl
      by_cases g : (C w i && !U.testBit i) = true
      · have cf : ((C w i && !U.testBit i) = false) = False := by rw [g]; simp
        have hU2 : U ||| 2 ^ i < 512 := or5 hU (Nat.pow_lt_pow_right (n := 9) (by decide) hi)
        obtain ⟨s2, es2⟩ : ∃ s2 : zS, s2 = wI s1 82 w (nI i) := ⟨_, rfl⟩
        have f2 : frP s1 s2 := ⟨by rw [es2]; rfl, fun a h1 h2 h3 => by rw [es2, wI_ne h1]⟩
        have H2 : mH s2 C ag W (lpF G i b) := mH_P g3 f2 (by rw [es2, wI_ne (by omega)]; exact g3.2.2.1) (fun j hj => by rw [es2, wI_ne (by omega)]; exact g3.2.2.2 j hj)
        obtain ⟨s3, e3, f3, p3, H3⟩ := ih s2 (w + 1) (U ||| 2 ^ i) (x + ag i) (upd pk w (nI i)) (lpF G i b) (by omega) (by omega) hU2 H2 (fun j hj => by
          rw [es2, wI_at]
          by_cases q : j = w
          · rw [q, upd_at, upd_at]
          · rw [upd_ne q, upd_ne q]; exact g2 j hj q) (fun j h1 h2 => by rw [upd_ne (by omega)]; exact hpk j (by omega) h2)
        refine ⟨s3, ?_, frP_t g1 (frP_t f2 f3), fun j hj q => by rw [p3 j hj, upd_ne q], ?_⟩
        · have e92 : s2.1 81 i = ag i := H2.2.1 i hi
          simp (disch := first | omega | assumption | (simp only [wL_1, wL_22, wI_2, wA_2, wQ_1, wQ_21] <;> first | assumption | omega)) only [LIT, LITm, nI_add, n_mul, fa_or, n_31m, n_shl0, n_le, n_lt, n_eq, Option.bind_some, B_wy hn, k1, n_nd, cond, cf, if_false, ← es2, e92, e3, show ¬ 9 ≤ i by omega, ↓reduceIte]
        · rw [lG, eG]
          simp only [g, if_true]
          rw [eG] at H3
          exact H3
      · have cf : ((C w i && !U.testBit i) = false) = True := by rw [bF g]; simp
        refine ⟨s1, ?_, g1, g2, ?_⟩
        · simp (disch := first | omega | assumption | (simp only [wL_1, wL_22, wI_2, wA_2, wQ_1, wQ_21] <;> first | assumption | omega)) only [LIT, LITm, nI_add, n_mul, fa_or, n_31m, n_shl0, n_le, n_lt, n_eq, Option.bind_some, B_wy hn, k1, n_nd, cond, cf, if_true, show ¬ 9 ≤ i by omega, ↓reduceIte]
        · rw [lG, eG]
          simp only [g, if_false]
          rw [eG] at g3
          exact g3
    · rintro f' s1 ⟨g1, g2, g3⟩
      obtain ⟨s2, es2⟩ : ∃ s2 : zS, s2 = wI s1 82 w m2 := ⟨_, rfl⟩
      have f2 : frP s1 s2 := ⟨by rw [es2]; rfl, fun a h1 h2 h3 => by rw [es2, wI_ne h1]⟩
      have H2 : mH s2 C ag W (lpF G 9 b) := mH_P g3 f2 (by rw [es2, wI_ne (by omega)]; exact g3.2.2.1) (fun j hj => by rw [es2, wI_ne (by omega)]; exact g3.2.2.2 j hj)
      obtain ⟨s3, e3, f3, p3, H3⟩ := ih s2 (w + 1) U x (upd pk w m2) (lpF G 9 b) (by omega) (by omega) hU H2 (fun j hj => by
        rw [es2, wI_at]
        by_cases q : j = w
        · rw [q, upd_at, upd_at]
        · rw [upd_ne q, upd_ne q]; exact g2 j hj q) (fun j h1 h2 => by rw [upd_ne (by omega)]; exact hpk j (by omega) h2)
      refine ⟨s3, ?_, frP_t g1 (frP_t f2 f3), fun j hj => ?_, ?_⟩
      · show fX9_matchFrom_43b n (fs2 n f) (fX9_matchFrom_43 n (fs2 n f) f') (mk s1) 77 (nI w) (nI W) (nI U) x (nI 9) = _
        unfold fX9_matchFrom_43b
        simp (disch := first | omega | assumption | (simp only [wL_1, wL_22, wI_2, wA_2, wQ_1, wQ_21] <;> first | assumption | omega)) only [LIT, LITm, nI_add, n_mul, fa_or, n_31m, n_shl0, n_le, n_lt, n_eq, Option.bind_some, B_wy hn, ← es2, e3, Nat.le_refl, ↓reduceIte]
      · rw [p3 j hj]
        by_cases q : j = w
        · rw [q, upd_at, hpk w (Nat.le_refl _) (by omega)]
        · rw [upd_ne q]
      · rw [eG] at H3
        exact H3
/-- whether a walker may pick a path -/
def mokB (T : zT) (S : zD) (w p : Nat) : Bool := decide (p < T 0 1) && (opnB T S w p && decide (T 3 p = S.2.2.1 0 w ∨ T 4 p = S.2.2.1 0 w))
theorem c_fill82 (hn : 239 ≤ n) : ∃ s' : zS, fJ7_fill_53178 n (mk s) 82 m2 = some ((), mk s') ∧ (∀ a, a ≠ 82 → s'.1 a = s.1 a) ∧ s'.2 = s.2 ∧ ∀ j, j < 4 → s'.1 82 j = m2 := by
  unfold fJ7_fill_53178
  simp (disch := first | omega | assumption | (simp only [wL_1, wL_22, wI_2, wA_2, wQ_1, wQ_21] <;> first | assumption | omega)) only [LIT, LITm, nI_add, n_mul, fa_or, n_31m, n_shl0, n_le, n_lt, n_eq, Option.bind_some, B_wy hn]
  refine lp_up (F := fun k (s1 : zS) i => fJ7_fill_53178_5 n k (mk s1) 82 m2 (nI i) (nI 4)) (N := 4) (P := fun i s1 => (∀ a, a ≠ 82 → s1.1 a = s.1 a) ∧ s1.2 = s.2 ∧ ∀ w, w < i → s1.1 82 w = m2) (Q := fun r => ∃ s' : zS, r = some ((), mk s') ∧ (∀ a, a ≠ 82 → s'.1 a = s.1 a) ∧ s'.2 = s.2 ∧ ∀ w, w < 4 → s'.1 82 w = m2) ?_ ?_ 4 bi_K s 0 (by omega) (by unfold bi_K; omega) ⟨fun _ _ => rfl, rfl, fun w h => by omega⟩
  · intro k s1 i hi hP
    left
    refine ⟨wI s1 82 i m2, ?_, fun a ha => by rw [wI_ne ha]; exact hP.1 a ha, hP.2.1, fun w hw => ?_⟩
    · show fJ7_fill_53178_5b n (fJ7_fill_53178_5 n k) (mk s1) 82 m2 (nI i) (nI 4) = _
      unfold fJ7_fill_53178_5b
      simp (disch := first | omega | assumption | (simp only [wL_1, wL_22, wI_2, wA_2, wQ_1, wQ_21] <;> first | assumption | omega)) only [LIT, LITm, nI_add, n_mul, fa_or, n_31m, n_shl0, n_le, n_lt, n_eq, Option.bind_some, B_wy hn, show ¬ 4 ≤ i by omega, ↓reduceIte]
    · by_cases e : w = i
      · rw [e, wI_at, upd_at]
      · rw [wI_at, upd_ne e]
        exact hP.2.2 w (by omega)
  · intro k s1 hP
    refine ⟨s1, ?_, hP⟩
    show fJ7_fill_53178_5b n (fJ7_fill_53178_5 n k) (mk s1) 82 m2 (nI 4) (nI 4) = _
    unfold fJ7_fill_53178_5b
    simp (disch := first | omega | assumption | (simp only [wL_1, wL_22, wI_2, wA_2, wQ_1, wQ_21] <;> first | assumption | omega)) only [LIT, LITm, nI_add, n_mul, fa_or, n_31m, n_shl0, n_le, n_lt, n_eq, Option.bind_some, Nat.le_refl, ↓reduceIte]
theorem c_ma31 {r2 : ai_H → Nat → Nat → Nat → Int32 → Option (Unit × ai_H)} (hn : 239 ≤ n) (ht : t = 6 ∨ t = 29) (ho : isS o) (ho2 : o + 4 < 68 ∨ 87 ≤ o) (hW : WT T) (hT : cTd s.1 t T) (hS : cSd s.1 o T S) (hD : wD T S) (hw : w < T 0 2) (h0 : s.1 80 w = nI 0) : ∃ s' : zS, fX9_matchAll_31 n r2 bi_K (mk s) 77 t o (nI w) (nI (opnV T S w)) (nI 0) = r2 (mk s') 77 t o (nI (w + 1)) ∧ s'.2 = s.2 ∧ (∀ a, a ≠ 80 → s'.1 a = s.1 a) ∧ (∀ j, j ≠ w → s'.1 80 j = s.1 80 j) ∧ s'.1 80 w = nI (goB (mokB T S w) (T 0 1)) := by
  have hh := hW.1
  have hat := (hD.2.2.1 w hw).1
  have ol := opnV_lt (S := S) (w := w) hW
  refine lp_up (F := fun f (s1 : zS) i => fX9_matchAll_31 n r2 f (mk s1) 77 t o (nI w) (nI (opnV T S w)) (nI i)) (N := T 0 1) (P := fun i s1 => s1.2 = s.2 ∧ (∀ a, a ≠ 80 → s1.1 a = s.1 a) ∧ (∀ j, j ≠ w → s1.1 80 j = s.1 80 j) ∧ s1.1 80 w = nI (goB (mokB T S w) i)) (Q := fun r => ∃ s' : zS, r = r2 (mk s') 77 t o (nI (w + 1)) ∧ s'.2 = s.2 ∧ (∀ a, a ≠ 80 → s'.1 a = s.1 a) ∧ (∀ j, j ≠ w → s'.1 80 j = s.1 80 j) ∧ s'.1 80 w = nI (goB (mokB T S w) (T 0 1))) ?_ ?_ (T 0 1) bi_K s 0 (by omega) (by unfold bi_K; omega) ⟨rfl, fun _ _ => rfl, fun _ _ => rfl, h0⟩
  · rintro f s1 i hi ⟨g1, g2, g3, g4⟩
    left
    have he := WT_p hW hi
    have hT1 : cTd s1.1 t T := cTd_fr hT (fun b h1 h2 => g2 b (by omega))
    have en := c_ends hn ht hW hT1 hi
    have el : enV T i < 2 ^ 7 := enV_lt he.1 he.2.1
    have aw : s1.1 (o + 3) w = nI (S.2.2.1 0 w) := by rw [g2 (o + 3) (by omega)]; exact (hS.2.2 w hw).1
    have ob : (opnV T S w).testBit i = opnB T S w i := by
      unfold opnV
      rw [goB_tb, decide_eq_true hi, Bool.true_and]
    have gl : goB (mokB T S w) i < 512 := Nat.lt_of_lt_of_le (goB_lt _ _) (Nat.pow_le_pow_right (n := 2) (j := 9) (by decide) (by omega))
    have mk' : mokB T S w i = (opnB T S w i && decide (T 3 i = S.2.2.1 0 w ∨ T 4 i = S.2.2.1 0 w)) := by
      unfold mokB
      rw [decide_eq_true hi, Bool.true_and]
    have etb : (enV T i).testBit (S.2.2.1 0 w) = decide (T 3 i = S.2.2.1 0 w ∨ T 4 i = S.2.2.1 0 w) := by
      rw [enV_tb]
      by_cases a1 : T 3 i = S.2.2.1 0 w <;> by_cases a2 : T 4 i = S.2.2.1 0 w <;> simp [a1, a2]
    show ∃ s', fX9_matchAll_31b n r2 (fX9_matchAll_31 n r2 f) (mk s1) 77 t o (nI w) (nI (opnV T S w)) (nI i) = _ ∧ _
    unfold fX9_matchAll_31b fX9_matchAll_84
    have gs : goB (mokB T S w) (i + 1) = goB (mokB T S w) i ||| (if mokB T S w i = true then 2 ^ i else 0) := rfl
    rw [gs]
    cases e1 : opnB T S w i with
    | false =>
      refine ⟨s1, ?_, g1, g2, g3, ?_⟩
      · rw [e1] at ob
        simp (disch := first | omega | assumption | (simp only [wL_1, wL_22, wI_2, wA_2, wQ_1, wQ_21] <;> first | assumption | omega)) only [LIT, LITm, nI_add, n_mul, fa_or, n_31m, n_shl0, n_le, n_lt, n_eq, Option.bind_some, B_t hn ht, CTp t T, n_bitz, ob, show ¬ T 0 1 ≤ i by omega, ↓reduceIte]
      · rw [mk', e1, Bool.false_and, if_neg Bool.false_ne_true, Nat.or_zero]
        exact g4
    | true =>
      rw [e1] at ob
      by_cases e2 : T 3 i = S.2.2.1 0 w ∨ T 4 i = S.2.2.1 0 w
      · rw [decide_eq_true e2] at etb
        refine ⟨wI s1 80 w (nI (goB (mokB T S w) i ||| 2 ^ i)), ?_, g1, fun a ha => by rw [wI_ne ha]; exact g2 a ha, fun j hj => by rw [wI_at, upd_ne hj]; exact g3 j hj, ?_⟩
        · simp (disch := first | omega | assumption | (simp only [wL_1, wL_22, wI_2, wA_2, wQ_1, wQ_21] <;> first | assumption | omega)) only [LIT, LITm, nI_add, n_mul, fa_or, n_31m, n_shl0, n_le, n_lt, n_eq, Option.bind_some, B_t hn ht, B_s hn ho, B_wy hn, CTp t T, n_bitz, ob, en, aw, etb, g4, Bool.true_eq_false, show ¬ T 0 1 ≤ i by omega, ↓reduceIte]
        · rw [mk', e1, decide_eq_true e2, Bool.true_and, if_pos rfl, wI_at, upd_at]
      · rw [decide_eq_false e2] at etb
        refine ⟨s1, ?_, g1, g2, g3, ?_⟩
        · simp (disch := first | omega | assumption | (simp only [wL_1, wL_22, wI_2, wA_2, wQ_1, wQ_21] <;> first | assumption | omega)) only [LIT, LITm, nI_add, n_mul, fa_or, n_31m, n_shl0, n_le, n_lt, n_eq, Option.bind_some, B_t hn ht, B_s hn ho, B_wy hn, CTp t T, n_bitz, ob, en, aw, etb, Bool.true_eq_false, show ¬ T 0 1 ≤ i by omega, ↓reduceIte]
        · rw [mk', e1, decide_eq_false e2, Bool.and_false, if_neg Bool.false_ne_true, Nat.or_zero]
          exact g4
  · rintro f s1 ⟨g1, g2, g3, g4⟩
    have hT1 : cTd s1.1 t T := cTd_fr hT (fun b h1 h2 => g2 b (by omega))
    refine ⟨s1, ?_, g1, g2, g3, g4⟩
    show fX9_matchAll_31b n r2 (fX9_matchAll_31 n r2 f) (mk s1) 77 t o (nI w) (nI (opnV T S w)) (nI (T 0 1)) = _
    unfold fX9_matchAll_31b
    simp (disch := first | omega | assumption | (simp only [wL_1, wL_22, wI_2, wA_2, wQ_1, wQ_21] <;> first | assumption | omega)) only [LIT, LITm, nI_add, n_mul, fa_or, n_31m, n_shl0, n_le, n_lt, n_eq, Option.bind_some, B_t hn ht, CTp t T, Nat.le_refl, ↓reduceIte]
/-- the best match: its sum, its picks -/
def bstV (T : zT) (S : zD) (ag : Nat → Int32) (bp : Nat → Int32) : Int32 × (Nat → Int32) := mfV (mokB T S) ag (T 0 2) 0 0 (nI 0) (fun _ => m2) (m1, bp)
theorem c_matchAll (hn : 239 ≤ n) (ht : t = 6 ∨ t = 29) (hW : WT T) (hT : cTd s.1 t T) (hS : cSd s.1 52 T S) (hD : wD T S) : ∃ (s' : zS) (ag bp : Nat → Int32), fX9_matchAll n (mk s) 77 t 52 = some ((), mk s') ∧ s'.2 = s.2 ∧ (∀ a, (a < 77 ∨ 83 < a) → s'.1 a = s.1 a) ∧ (∀ p, p < T 0 1 → ag p = S.2.1 p) ∧ s'.1 77 6 = (bstV T S ag bp).1 ∧ ∀ j, j < 4 → s'.1 83 j = (bstV T S ag bp).2 j := by
  have hh := hW.1
  unfold fX9_matchAll
  simp (disch := first | omega | assumption | (simp only [wL_1, wL_22, wI_2, wA_2, wQ_1, wQ_21] <;> first | assumption | omega)) only [LIT, LITm, nI_add, n_mul, fa_or, n_31m, n_shl0, n_le, n_lt, n_eq, Option.bind_some, B_wy hn]
  refine lp_up (F := fun f (s1 : zS) i => fX9_matchAll_2 n f (mk s1) 77 t 52 (nI i)) (N := T 0 2) (P := fun i s1 => s1.2 = s.2 ∧ (∀ a, a ≠ 80 → s1.1 a = s.1 a) ∧ ∀ w, w < i → s1.1 80 w = nI (goB (mokB T S w) (T 0 1))) (Q := fun r => ∃ (s' : zS) (ag bp : Nat → Int32), r = some ((), mk s') ∧ s'.2 = s.2 ∧ (∀ a, (a < 77 ∨ 83 < a) → s'.1 a = s.1 a) ∧ (∀ p, p < T 0 1 → ag p = S.2.1 p) ∧ s'.1 77 6 = (bstV T S ag bp).1 ∧ ∀ j, j < 4 → s'.1 83 j = (bstV T S ag bp).2 j) ?_ ?_ (T 0 2) bi_K s 0 (by omega) (by unfold bi_K; omega) ⟨rfl, fun _ _ => rfl, fun j h => absurd h (Nat.not_lt_zero j)⟩
  · rintro f s1 i hi ⟨g1, g2, g3⟩
    left
    have hT1 : cTd s1.1 t T := cTd_fr hT (fun b h1 h2 => g2 b (by omega))
    have hS1 : cSd s1.1 52 T S := cSd_fr hS (fun b h1 h2 => g2 b (by omega))
    have op := c_openFor hn ht is_52 hW hT1 hS1.1.2.2.2.2 hD hi
    obtain ⟨s2, es2⟩ : ∃ s2 : zS, s2 = wI s1 80 i (nI 0) := ⟨_, rfl⟩
    have o2 : ∀ a, a ≠ 80 → s2.1 a = s.1 a := fun a ha => by rw [es2, wI_ne ha]; exact g2 a ha
    have hT2 : cTd s2.1 t T := cTd_fr hT (fun b h1 h2 => o2 b (by omega))
    have hS2 : cSd s2.1 52 T S := cSd_fr hS (fun b h1 h2 => o2 b (by omega))
    obtain ⟨s3, e3, z3, o3, q3, v3⟩ := c_ma31 (r2 := fX9_matchAll_2 n f) hn ht is_52 (by omega) hW hT2 hS2 hD hi (by rw [es2, wI_at, upd_at])
    refine ⟨s3, ?_, by rw [z3, es2]; exact g1, fun a ha => by rw [o3 a ha]; exact o2 a ha, fun w hw => ?_⟩
    · show fX9_matchAll_2b n (fX9_matchAll_2 n f) (mk s1) 77 t 52 (nI i) = _
      unfold fX9_matchAll_2b
      simp (disch := first | omega | assumption | (simp only [wL_1, wL_22, wI_2, wA_2, wQ_1, wQ_21] <;> first | assumption | omega)) only [LIT, LITm, nI_add, n_mul, fa_or, n_31m, n_shl0, n_le, n_lt, n_eq, Option.bind_some, B_t hn ht, B_wy hn, CTp t T, op, ← es2, e3, show ¬ T 0 2 ≤ i by omega, ↓reduceIte]
    · by_cases q : w = i
      · rw [q]; exact v3
      · rw [q3 w q, es2, wI_at, upd_ne q]
        exact g3 w (by omega)
  · rintro f s1 ⟨g1, g2, g3⟩
    have hT1 : cTd s1.1 t T := cTd_fr hT (fun b h1 h2 => g2 b (by omega))
    have hS1 : cSd s1.1 52 T S := cSd_fr hS (fun b h1 h2 => g2 b (by omega))
    have ca : ∀ s1 : zS, cA n (mk s1) 53 (nI 0) 81 (nI 0) (nI 9) = some (mk (wA s1 81 (va_cpy (s1.1 53) (s1.1 81) 0 0 9))) := fun s1 => mk_cA (za := 9) (zb := 9) rfl rfl ⟨by omega, by omega⟩ ⟨by omega, by omega⟩ (by omega) (by omega) (by omega) (by omega) (by omega) (by omega)
    obtain ⟨s2, es2⟩ : ∃ s2 : zS, s2 = wA s1 81 (va_cpy (s1.1 53) (s1.1 81) 0 0 9) := ⟨_, rfl⟩
    have o2 : ∀ a, a ≠ 81 → s2.1 a = s1.1 a := fun a ha => by rw [es2, wA_ne ha]
    obtain ⟨s3, e3, o3, z3, v3⟩ := c_fill82 (s := s2) hn
    obtain ⟨s4, es4⟩ : ∃ s4 : zS, s4 = wI s3 77 6 m1 := ⟨_, rfl⟩
    have o4 : ∀ a, a ≠ 77 → s4.1 a = s3.1 a := fun a ha => by rw [es4, wI_ne ha]
    have hT4 : cTd s4.1 t T := cTd_fr hT1 (fun b h1 h2 => by rw [o4 b (by omega), o3 b (by omega), o2 b (by omega)])
    obtain ⟨ag, eag⟩ : ∃ ag : Nat → Int32, ag = s4.1 81 := ⟨_, rfl⟩
    have H4 : mH s4 (mokB T S) ag (T 0 2) (m1, s4.1 83) := by
      refine ⟨fun w hw => ⟨goB (mokB T S w) (T 0 1), ?_, ?_, fun p hp => ?_⟩, fun p _ => by rw [eag], ?_, fun _ _ => rfl⟩
      · rw [o4 80 (by omega), o3 80 (by omega), o2 80 (by omega)]
        exact g3 w hw
      · exact Nat.lt_of_lt_of_le (goB_lt _ _) (Nat.pow_le_pow_right (n := 2) (j := 9) (by decide) hh.2.1)
      · rw [goB_tb]
        unfold mokB
        cases decide (p < T 0 1) <;> simp
      · rw [es4, wI_at, upd_at]
    obtain ⟨s5, e5, f5, -, H5⟩ := c_mf (W := T 0 2) (C := mokB T S) (ag := ag) hn (by omega) (T 0 2) bi_N s4 0 0 (nI 0) (fun _ => m2) (m1, s4.1 83) (by omega) (by unfold bi_N; omega) (by omega) H4 (fun j hj => by rw [o4 82 (by omega)]; exact v3 j hj) (fun _ _ _ => rfl)
    refine ⟨s5, ag, s4.1 83, ?_, ?_, fun a ha => ?_, fun p hp => ?_, H5.2.2.1, H5.2.2.2⟩
    · show fX9_matchAll_2b n (fX9_matchAll_2 n f) (mk s1) 77 t 52 (nI (T 0 2)) = _
      unfold fX9_matchAll_2b
      have e5' : FX9_matchFrom n (mk s4) 77 (nI 0) (nI (T 0 2)) (nI 0) (nI 0) = some ((), mk s5) := e5
      simp (disch := first | omega | assumption | (simp only [wL_1, wL_22, wI_2, wA_2, wQ_1, wQ_21] <;> first | assumption | omega) | (repeat (first | assumption | refine cTd_wI (by omega) ?_))) only [LIT, LITm, nI_add, n_mul, fa_or, n_31m, n_shl0, n_le, n_lt, n_eq, Option.bind_some, B_t hn ht, B_s hn is_52, B_wy hn, CTp t T, ca, ← es2, e3, ← es4, e5', Nat.le_refl, ↓reduceIte]
    · rw [f5.1, es4]
      show s3.2 = s.2
      rw [z3, es2]
      exact g1
    · rw [f5.2 a (by omega) (by omega) (by omega), o4 a (by omega), o3 a (by omega), o2 a (by omega), g2 a (by omega)]
    · rw [eag, o4 81 (by omega), o3 81 (by omega), es2]
      simp (disch := omega) only [wA_at, pk_cpy_in]
      rw [show 0 + (p - 0) = p by omega]
      exact (hS1.2.1 p hp).1
def matV (T : zT) (b : Int32 × (Nat → Int32)) (x : Int32) : Int32 := if x = nI 4 then b.1 else b.2 x.toNatClampNeg
theorem c_match (hn : 239 ≤ n) (hK : cK s t A) (hA : wfA A) : (∀ k, k ≤ 4 → ∃ (s' : zS) (ag bp : Nat → Int32), fX10_match n (mk s) 1 (nI k) = some (matV (aT A) (bstV (aT A) (aS A) ag bp) (nI k), mk s') ∧ frS s s' ∧ ∀ p, p < aT A 0 1 → ag p = (aS A).2.1 p) ∧ (wiV 0 x 4 = false → fX10_match n (mk s) 1 x = some (m1, mk s)) := by
  have ht := cK_t hK
  have hW := hA.1
  obtain ⟨k1, k2, k3, k4, k5, k6, k7, k8, k9⟩ := hK
  refine ⟨fun k hk => ?_, fun h => ?_⟩
  · obtain ⟨s', ag, bp, e, z, o, ha, h6, h83⟩ := c_matchAll hn ht hW k3 k4 hA.2.1
    refine ⟨s', ag, bp, ?_, ⟨fun a j h => by rw [o a (by unfold scr at h; omega)], fun a _ => by rw [z], fun a _ => by rw [z]⟩, ha⟩
    unfold fX10_match matV
    by_cases q : k = 4
    · rw [if_pos (by rw [q])]
      simp (disch := first | omega | assumption | (simp only [wL_1, wL_22, wI_2, wA_2, wQ_1, wQ_21] <;> first | assumption | omega)) only [LIT, LITm, nI_add, n_mul, fa_or, n_31m, n_shl0, n_le, n_lt, n_eq, Option.bind_some, B_K hn, B_wy hn, k2, c_within, wiV_n, e, q, h6, Bool.toNat_true, Nat.reduceEqDiff, Nat.reduceLeDiff, not_false_eq_true, not_true_eq_false, ↓reduceIte]
    · rw [if_neg (by rw [n_eq (by omega) (by omega)]; exact q), cl_n (by omega)]
      have e83 := h83 k (by omega)
      simp (disch := first | omega | assumption | (simp only [wL_1, wL_22, wI_2, wA_2, wQ_1, wQ_21] <;> first | assumption | omega)) only [LIT, LITm, nI_add, n_mul, fa_or, n_31m, n_shl0, n_le, n_lt, n_eq, Option.bind_some, B_K hn, B_wy hn, k2, c_within, wiV_n, e, q, e83, Bool.toNat_true, Nat.reduceEqDiff, Nat.reduceLeDiff, not_false_eq_true, ↓reduceIte]
  · unfold fX10_match
    simp (disch := first | omega | assumption | (simp only [wL_1, wL_22, wI_2, wA_2, wQ_1, wQ_21] <;> first | assumption | omega)) only [LIT, LITm, nI_add, n_mul, fa_or, n_31m, n_shl0, n_le, n_lt, n_eq, Option.bind_some, B_K hn, c_within, h, Bool.toNat_false, not_true_eq_false, ↓reduceIte]
end Cm
