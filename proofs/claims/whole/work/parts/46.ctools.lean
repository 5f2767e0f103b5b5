/-! ===== standings and days of the class: copied, begun, tried otherwise ===== -/
theorem is_dj {o o' : Nat} (h : isS o) (h' : isS o') (ne : o ≠ o') : o + 4 < o' ∨ o' + 4 < o := by
  rcases h with rfl | rfl | rfl | ⟨i, hi, rfl⟩ <;> rcases h' with rfl | rfl | rfl | ⟨j, hj, rfl⟩ <;> omega
theorem is_52 : isS 52 := Or.inl rfl
theorem is_57 : isS 57 := Or.inr (Or.inl rfl)
theorem is_62 : isS 62 := Or.inr (Or.inr (Or.inl rfl))
theorem is_p {k : Nat} (h : k < 20) : isS (87 + 5 * k) := Or.inr (Or.inr (Or.inr ⟨k, h, rfl⟩))
theorem B_cp {n o o' : Nat} (hn : 239 ≤ n) (ho : isS o) (ho' : isS o') : (∀ s : zS, cA n (mk s) (o' + 1) (nI 0) (o + 1) (nI 0) (nI 9) = some (mk (wA s (o + 1) (va_cpy (s.1 (o' + 1)) (s.1 (o + 1)) 0 0 9)))) ∧
    (∀ s : zS, cA n (mk s) (o' + 2) (nI 0) (o + 2) (nI 0) (nI 9) = some (mk (wA s (o + 2) (va_cpy (s.1 (o' + 2)) (s.1 (o + 2)) 0 0 9)))) ∧
    (∀ s : zS, cA n (mk s) (o' + 3) (nI 0) (o + 3) (nI 0) (nI 4) = some (mk (wA s (o + 3) (va_cpy (s.1 (o' + 3)) (s.1 (o + 3)) 0 0 4)))) ∧
    (∀ s : zS, cA n (mk s) (o' + 4) (nI 0) (o + 4) (nI 0) (nI 4) = some (mk (wA s (o + 4) (va_cpy (s.1 (o' + 4)) (s.1 (o + 4)) 0 0 4)))) := by
  have h1 := is_b ho
  have h2 := is_b ho'
  exact ⟨fun s => mk_cA (is_lay1 ho') (is_lay1 ho) ⟨by omega, by omega⟩ ⟨by omega, by omega⟩ (by omega) (by omega) (by omega) (by omega) (by omega) (by omega),
    fun s => mk_cA (is_lay2 ho') (is_lay2 ho) ⟨by omega, by omega⟩ ⟨by omega, by omega⟩ (by omega) (by omega) (by omega) (by omega) (by omega) (by omega),
    fun s => mk_cA (is_lay3 ho') (is_lay3 ho) ⟨by omega, by omega⟩ ⟨by omega, by omega⟩ (by omega) (by omega) (by omega) (by omega) (by omega) (by omega),
    fun s => mk_cA (is_lay4 ho') (is_lay4 ho) ⟨by omega, by omega⟩ ⟨by omega, by omega⟩ (by omega) (by omega) (by omega) (by omega) (by omega) (by omega)⟩
/-- only the cells of one standing change -/
def frO (o : Nat) (s s' : zS) : Prop := (∀ a, (a < o ∨ o + 4 < a) → s'.1 a = s.1 a) ∧ s'.2 = s.2
theorem frO_D {t o : Nat} {s s' : zS} (h : frO o s s') : frD t o s s' := ⟨h.1, by rw [h.2], fun a _ => by rw [h.2]⟩
section Ct
variable {n t o o' p w : Nat} {s : zS} {T : zT} {O : zO} {S : zD}
theorem c_copy (hn : 239 ≤ n) (ho : isS o) (ho' : isS o') (ne : o ≠ o') (hW : WT T) (hS : cSd s.1 o' T S) : ∃ s' : zS, fX5_copyFrom n (mk s) o o' = some ((), mk s') ∧ frO o s s' ∧ cSd s'.1 o T S := by
  have dj := is_dj ho ho' ne
  have h0 := hW.1
  obtain ⟨⟨s1, s2, s3, s4, s5⟩, s6, s7⟩ := hS
  refine ⟨wA (wA (wA (wA (wI (wI (wI (wI (wI s o 0 (S.1 0)) o 1 (nI S.2.2.2.2)) o 2 (S.1 1)) o 3 (S.1 2)) o 4 (nI S.2.2.2.1)) (o + 1) (va_cpy (s.1 (o' + 1)) (s.1 (o + 1)) 0 0 9)) (o + 2) (va_cpy (s.1 (o' + 2)) (s.1 (o + 2)) 0 0 9)) (o + 3) (va_cpy (s.1 (o' + 3)) (s.1 (o + 3)) 0 0 4)) (o + 4) (va_cpy (s.1 (o' + 4)) (s.1 (o + 4)) 0 0 4), ?_, ⟨fun a ha => ?_, rfl⟩, ⟨?_, ?_, ?_, ?_, ?_⟩, fun p hp => ⟨?_, ?_⟩, fun w hw => ⟨?_, ?_⟩⟩
  · unfold fX5_copyFrom
    simp (disch := first | omega | assumption | (simp only [wL_1, wL_22, wI_2, wA_2, wQ_1, wQ_21] <;> first | assumption | omega)) only [LIT, LITm, nI_add, n_mul, fa_or, n_31m, n_shl0, n_le, n_lt, n_eq, Option.bind_some, B_s hn ho, B_s hn ho', B_cp hn ho ho', wI_ne, wA_ne, s1, s2, s3, s4, s5]
  · simp (disch := omega) only [wI_ne, wA_ne]
  · simp (disch := omega) only [wI_at, wA_ne, upd_at, upd_ne]
  · simp (disch := omega) only [wI_at, wA_ne, upd_at, upd_ne]
  · simp (disch := omega) only [wI_at, wA_ne, upd_at, upd_ne]
  · simp (disch := omega) only [wI_at, wA_ne, upd_at, upd_ne]
  · simp (disch := omega) only [wI_at, wA_ne, upd_at, upd_ne]
  · simp (disch := omega) only [wA_at, wA_ne, pk_cpy_in]
    rw [show 0 + (p - 0) = p by omega]
    exact (s6 p hp).1
  · simp (disch := omega) only [wA_at, wA_ne, pk_cpy_in]
    rw [show 0 + (p - 0) = p by omega]
    exact (s6 p hp).2
  · simp (disch := omega) only [wA_at, wA_ne, pk_cpy_in]
    rw [show 0 + (w - 0) = w by omega]
    exact (s7 w hw).1
  · simp (disch := omega) only [wA_at, wA_ne, pk_cpy_in]
    rw [show 0 + (w - 0) = w by omega]
    exact (s7 w hw).2
/-- as a text tells it at first -/
def S0 (T : zT) : zD := (fun _ => 0, fun p => nI (T 7 p), fun k i => if k = 0 then T 9 i else if k = 1 then T 11 i else 0, 2 ^ T 0 1 - 1, T 0 8)
theorem S0_w (hW : WT T) : wD T (S0 T) := by
  have h6 := hW.2.1
  refine ⟨?_, ?_, fun w hw => ?_, fun p hp => ?_⟩
  · show T 0 8 < 2147483648
    omega
  · show 2 ^ T 0 1 - 1 < 2 ^ T 0 1
    have := Nat.two_pow_pos (T 0 1)
    omega
  · have := hW.2.2.2.1 w hw
    show T 9 w < T 0 0 ∧ T 11 w ≤ 99
    omega
  · show (0 : Nat) ≤ 999
    omega
theorem n_kept {k : Nat} (hk : k < 31) : nI (2 ^ k) - nI 1 = nI (2 ^ k - 1) := n_sub (Nat.two_pow_pos k)
theorem c_sbeg (hn : 239 ≤ n) (ht : t = 6 ∨ t = 29) (ho : isS o) (hW : WT T) (hT : cTd s.1 t T) : ∃ s' : zS, fX5_begin n (mk s) o t = some ((), mk s') ∧ frO o s s' ∧ cSd s'.1 o T (S0 T) := by
  have hb := is_b ho
  have h0 := hW.1
  have hTo : ∀ sx : zS, frO o s sx → cTd sx.1 t T := fun sx f => cTd_fr hT (fun a h1 h2 => f.1 a (by omega))
  unfold fX5_begin
  obtain ⟨sa, esa⟩ : ∃ sa : zS, sa = wI (wI (wI (wI (wI s o 0 (nI 0)) o 1 (nI (T 0 8))) o 2 (nI 0)) o 3 (nI 0)) o 4 (nI (2 ^ T 0 1 - 1)) := ⟨_, rfl⟩
  have fa : frO o s sa := by
    rw [esa]
    refine ⟨fun a ha => ?_, rfl⟩
    simp (disch := omega) only [wI_ne]
  have ha : sa.1 o 0 = nI 0 ∧ sa.1 o 1 = nI (T 0 8) ∧ sa.1 o 2 = nI 0 ∧ sa.1 o 3 = nI 0 ∧ sa.1 o 4 = nI (2 ^ T 0 1 - 1) := by
    rw [esa]
    refine ⟨?_, ?_, ?_, ?_, ?_⟩ <;> simp (disch := omega) only [wI_at, upd_at, upd_ne]
  have c8 : s.1 t 8 = nI (T 0 8) := (CTp t T).2.2.2.2.2.2.2.2 s hT
  have c1 : s.1 (t + 4) 4 = nI (T 0 1) := (CTp t T).2.1 s hT
  simp (disch := first | omega | assumption | (simp only [wL_1, wL_22, wI_2, wA_2, wQ_1, wQ_21] <;> first | assumption | omega) | (repeat (first | assumption | refine cTd_wI (by omega) ?_))) only [LIT, LITm, nI_add, n_mul, fa_or, n_31m, n_shl0, n_le, n_lt, n_eq, Option.bind_some, B_t hn ht, B_s hn ho, wI_ne, c8, c1, n_kept]
  rw [← esa]
  have fin : ∀ sx : zS, frO o s sx → (∀ p, p < T 0 1 → sx.1 (o + 1) p = nI (T 7 p) ∧ sx.1 (o + 2) p = nI 0) → sx.1 o = sa.1 o → ∃ s' : zS, fX5_begin_76 n bi_K (mk sx) o t (nI 0) = some ((), mk s') ∧ frO o s s' ∧ cSd s'.1 o T (S0 T) := by
    intro sx fx hx eo
    refine lp_up (F := fun k (s1 : zS) i => fX5_begin_76 n k (mk s1) o t (nI i)) (N := 4) (P := fun i s1 => frO o s s1 ∧ (∀ p, p < T 0 1 → s1.1 (o + 1) p = nI (T 7 p) ∧ s1.1 (o + 2) p = nI 0) ∧ s1.1 o = sa.1 o ∧ ∀ w, w < T 0 2 → w < i → s1.1 (o + 3) w = nI (T 9 w) ∧ s1.1 (o + 4) w = nI (T 11 w)) (Q := fun r => ∃ s' : zS, r = some ((), mk s') ∧ frO o s s' ∧ cSd s'.1 o T (S0 T)) ?_ ?_ 4 bi_K sx 0 (by omega) (by unfold bi_K; omega) ⟨fx, hx, eo, fun w _ h => by omega⟩
    · intro k sy i hi hP
      obtain ⟨f, h1, h2, h3⟩ := hP
      have hTy := hTo sy f
      left
      have key : ∀ (x y : Int32), (∀ sz : zS, frO o s sz → fX6_cell n (mk sz) (t + 7) (nI i) (nI 0) = some (x, mk sz) ∧ fX6_cell n (mk sz) (t + 7) (nI i) (nI 2) = some (y, mk sz)) → (i < T 0 2 → x = nI (T 9 i) ∧ y = nI (T 11 i)) → ∃ s', fX5_begin_76 n (k + 1) (mk sy) o t (nI i) = fX5_begin_76 n k (mk s') o t (nI (i + 1)) ∧ frO o s s' ∧ (∀ p, p < T 0 1 → s'.1 (o + 1) p = nI (T 7 p) ∧ s'.1 (o + 2) p = nI 0) ∧ s'.1 o = sa.1 o ∧ ∀ w, w < T 0 2 → w < i + 1 → s'.1 (o + 3) w = nI (T 9 w) ∧ s'.1 (o + 4) w = nI (T 11 w) := by
        intro x y hc hv
        have f1 : frO o s (wI sy (o + 3) i x) := ⟨fun a ha => by rw [wI_ne (by omega)]; exact f.1 a ha, f.2⟩
        refine ⟨wI (wI sy (o + 3) i x) (o + 4) i y, ?_, ⟨fun a ha => ?_, f.2⟩, fun p hp => ?_, ?_, fun w hw hwi => ?_⟩
        · simp (disch := first | omega | assumption | (simp only [wL_1, wL_22, wI_2, wA_2, wQ_1, wQ_21] <;> first | assumption | omega)) only [fX5_begin_76, fX5_begin_76b, LIT, LITm, nI_add, n_mul, fa_or, n_31m, n_shl0, n_le, n_lt, n_eq, Option.bind_some, B_t hn ht, B_s hn ho, (hc sy f).1, (hc _ f1).2, show ¬ 4 ≤ i by omega, ↓reduceIte]
        · simp (disch := omega) only [wI_ne]
          exact f.1 a ha
        · simp (disch := omega) only [wI_ne]
          exact h1 p hp
        · simp (disch := omega) only [wI_ne]
          exact h2
        · by_cases e : w = i
          · subst e
            have := hv hw
            simp (disch := omega) only [wI_at, wI_ne, upd_at, this, and_self]
          · simp (disch := omega) only [wI_at, wI_ne, upd_ne]
            exact h3 w hw (by omega)
      by_cases hiw : i < T 0 2
      · exact key (nI (T 9 i)) (nI (T 11 i)) (fun sz fz => ⟨(CTc hn ht hW (hTo sz fz)).2.1 i 0 hiw (by omega), (CTc hn ht hW (hTo sz fz)).2.1 i 2 hiw (by omega)⟩) (fun _ => ⟨rfl, rfl⟩)
      · exact key (nI 0) (nI 0) (fun sz fz => ⟨(CTc hn ht hW (hTo sz fz)).2.2.2.2.2 i (nI 0) (by omega) (by omega), (CTc hn ht hW (hTo sz fz)).2.2.2.2.2 i (nI 2) (by omega) (by omega)⟩) (fun h => absurd h hiw)
    · intro k sy hP
      obtain ⟨f, h1, h2, h3⟩ := hP
      refine ⟨sy, ?_, f, ⟨?_, ?_, ?_, ?_, ?_⟩, fun p hp => h1 p hp, fun w hw => h3 w hw (by omega)⟩
      · simp (disch := first | omega | assumption | (simp only [wL_1, wL_22, wI_2, wA_2, wQ_1, wQ_21] <;> first | assumption | omega)) only [fX5_begin_76, fX5_begin_76b, LIT, LITm, nI_add, n_mul, fa_or, n_31m, n_shl0, n_le, n_lt, n_eq, Option.bind_some, Nat.le_refl, ↓reduceIte]
      · rw [h2, ha.1]; rfl
      · rw [h2, ha.2.1]; rfl
      · rw [h2, ha.2.2.1]; rfl
      · rw [h2, ha.2.2.2.1]; rfl
      · rw [h2, ha.2.2.2.2]; rfl
  refine lp_up (F := fun k (s1 : zS) i => fX5_begin_40 n k (mk s1) o t (nI i)) (N := 9) (P := fun i s1 => frO o s s1 ∧ (∀ p, p < T 0 1 → p < i → s1.1 (o + 1) p = nI (T 7 p) ∧ s1.1 (o + 2) p = nI 0) ∧ s1.1 o = sa.1 o) (Q := fun r => ∃ s' : zS, r = some ((), mk s') ∧ frO o s s' ∧ cSd s'.1 o T (S0 T)) ?_ ?_ 9 bi_K sa 0 (by omega) (by unfold bi_K; omega) ⟨fa, fun w _ h => by omega, rfl⟩
  · intro k sy i hi hP
    obtain ⟨f, h1, h2⟩ := hP
    have hTy := hTo sy f
    left
    have key : ∀ (x : Int32), fX6_cell n (mk sy) (t + 4) (nI i) (nI 4) = some (x, mk sy) → (i < T 0 1 → x = nI (T 7 i)) → ∃ s', fX5_begin_40 n (k + 1) (mk sy) o t (nI i) = fX5_begin_40 n k (mk s') o t (nI (i + 1)) ∧ frO o s s' ∧ (∀ p, p < T 0 1 → p < i + 1 → s'.1 (o + 1) p = nI (T 7 p) ∧ s'.1 (o + 2) p = nI 0) ∧ s'.1 o = sa.1 o := by
      intro x hc hv
      refine ⟨wI (wI sy (o + 1) i x) (o + 2) i (nI 0), ?_, ⟨fun a ha => ?_, f.2⟩, fun p hp hpi => ?_, ?_⟩
      · simp (disch := first | omega | assumption | (simp only [wL_1, wL_22, wI_2, wA_2, wQ_1, wQ_21] <;> first | assumption | omega)) only [fX5_begin_40, fX5_begin_40b, LIT, LITm, nI_add, n_mul, fa_or, n_31m, n_shl0, n_le, n_lt, n_eq, Option.bind_some, B_t hn ht, B_s hn ho, hc, show ¬ 9 ≤ i by omega, ↓reduceIte]
      · simp (disch := omega) only [wI_ne]
        exact f.1 a ha
      · by_cases e : p = i
        · subst e
          simp (disch := omega) only [wI_at, wI_ne, upd_at, hv hp, and_self]
        · simp (disch := omega) only [wI_at, wI_ne, upd_ne]
          exact h1 p hp (by omega)
      · simp (disch := omega) only [wI_ne]
        exact h2
    by_cases hip : i < T 0 1
    · exact key (nI (T 7 i)) ((CTc hn ht hW hTy).1 i 4 hip (by omega)) (fun _ => rfl)
    · exact key (nI 0) ((CTc hn ht hW hTy).2.2.2.2.1 i (nI 4) (by omega) (by omega)) (fun h => absurd h hip)
  · intro k sy hP
    obtain ⟨f, h1, h2⟩ := hP
    obtain ⟨sz, ez, fz⟩ := fin sy f (fun p hp => h1 p hp (by omega)) h2
    refine ⟨sz, ?_, fz⟩
    simp (disch := first | omega | assumption | (simp only [wL_1, wL_22, wI_2, wA_2, wQ_1, wQ_21] <;> first | assumption | omega)) only [fX5_begin_40, fX5_begin_40b, LIT, LITm, nI_add, n_mul, fa_or, n_31m, n_shl0, n_le, n_lt, n_eq, Option.bind_some, ez, Nat.le_refl, ↓reduceIte]
/-- as told -/
def O0 (T : zT) (b : Nat) : zO := (b, true, decide (T 18 0 ≠ 0), T 0 6, m1, T 10)
theorem O0_w (hW : WT T) {b : Nat} (hb : b ≤ 2) : wO T (O0 T b) := ⟨hb, hW.2.1.2.1, hW.2.1.2.2.1, fun w hw => (hW.2.2.2.1 w hw).2.1⟩
def frB (s s' : zS) : Prop := (∀ a, a ≠ 68 → a ≠ 69 → s'.1 a = s.1 a) ∧ s'.2.1 = s.2.1 ∧ ∀ a, a ≠ 68 → s'.2.2 a = s.2.2 a
theorem frB_S {s s' : zS} (h : frB s s') : frS s s' := ⟨fun a j ha => by rw [h.1 a (by unfold scr at ha; omega) (by unfold scr at ha; omega)], fun a ha => h.2.2 a ha, fun a _ => by rw [h.2.1]⟩
theorem c_told0 (hn : 239 ≤ n) (ht : t = 6 ∨ t = 29) (hW : WT T) (hT : cTd s.1 t T) : fX2_isTold n (mk s) (t + 16) (nI 0) = some (nI (decide (T 18 0 ≠ 0)).toNat, mk s) := by
  have hL := hT.2.2.2.2.2.2.2 0 (by omega)
  unfold fX2_isTold
  by_cases h : T 18 0 = 0
  · obtain ⟨e1, e2⟩ := hL.1 h
    rw [decide_eq_false (fun g => g h)]
    simp (disch := first | omega | assumption | (simp only [wL_1, wL_22, wI_2, wA_2, wQ_1, wQ_21] <;> first | assumption | omega)) only [LIT, LITm, nI_add, n_mul, fa_or, n_31m, n_shl0, n_le, n_lt, n_eq, Option.bind_some, B_t hn ht, e1, e2, Nat.le_refl, ↓reduceIte, Bool.toNat_false]
  · obtain ⟨e1, e2, -⟩ := hL.2 h
    obtain ⟨hab, hb64, -⟩ := hW.2.2.2.2.2.2 0 (by omega) h
    rw [decide_eq_true h]
    simp (disch := first | omega | assumption | (simp only [wL_1, wL_22, wI_2, wA_2, wQ_1, wQ_21] <;> first | assumption | omega)) only [LIT, LITm, nI_add, n_mul, fa_or, n_31m, n_shl0, n_le, n_lt, n_eq, Option.bind_some, B_t hn ht, e1, e2, show ¬ T 20 0 ≤ T 19 0 by omega, ↓reduceIte, Bool.toNat_true]
theorem c_begin (hn : 239 ≤ n) (ht : t = 6 ∨ t = 29) (ho : isS o) (hW : WT T) (hT : cTd s.1 t T) {b : Nat} : ∃ s' : zS, fX0_begin n (mk s) 68 t o (nI b) = some ((), mk s') ∧ frB s s' ∧ cOd s' t o T (O0 T b) := by
  have hb := is_b ho
  have h0 := hW.1
  have hTo : ∀ sx : zS, (∀ a, a ≠ 68 → a ≠ 69 → sx.1 a = s.1 a) → cTd sx.1 t T := fun sx f => cTd_fr hT (fun a h1 h2 => f a (by omega) (by omega))
  have c6 : s.1 t 6 = nI (T 0 6) := (CTp t T).2.2.2.2.2.2.1 s hT
  have hq1 : ∀ sx : zS, sx.2.2 68 0 = t → pR n (mk sx) 68 0 0 = some t := (B_d2 hn ht ho).1
  obtain ⟨sq, esq⟩ : ∃ sq : zS, sq = wI (wI (wQ (wQ s 68 0 t) 68 1 o) 68 2 (nI b)) 68 3 (nI 1) := ⟨_, rfl⟩
  have q0 : sq.2.2 68 0 = t := by
    rw [esq]
    show (wQ (wQ s 68 0 t) 68 1 o).2.2 68 0 = t
    rw [wQ_g, if_neg (by omega), wQ_g, if_pos ⟨rfl, rfl⟩]
  have q1 : sq.2.2 68 1 = o := by
    rw [esq]
    show (wQ (wQ s 68 0 t) 68 1 o).2.2 68 1 = o
    rw [wQ_g, if_pos ⟨rfl, rfl⟩]
  have qr : ∀ a, a ≠ 68 → sq.2.2 a = s.2.2 a := by
    intro a ha
    rw [esq]
    show (wQ (wQ s 68 0 t) 68 1 o).2.2 a = _
    rw [wQ_ne ha, wQ_ne ha]
  have qi : ∀ a, a ≠ 68 → a ≠ 69 → sq.1 a = s.1 a := by
    intro a ha _
    rw [esq]
    simp (disch := omega) only [wI_ne, wQ_1]
  have hTq := hTo sq qi
  have htq := c_told0 hn ht hW hTq
  obtain ⟨sr, esr⟩ : ∃ sr : zS, sr = wI (wI (wI sq 68 4 (nI (decide (T 18 0 ≠ 0)).toNat)) 68 5 (nI (T 0 6))) 68 6 m1 := ⟨_, rfl⟩
  have hbt : (decide (T 18 0 ≠ 0)).toNat ≤ 1 := Bool.toNat_le _
  have pre : fX0_begin n (mk s) 68 t o (nI b) = fX0_begin_54 n bi_K (mk sr) 68 (nI 0) := by
    have e6 : (wI sq 68 4 (nI (decide (T 18 0 ≠ 0)).toNat)).1 t 6 = nI (T 0 6) := by rw [wI_ne (by omega), qi t (by omega) (by omega)]; exact c6
    have htq' : fX2_isTold n (mk sq) (t + 16) (0 : Int32) = some (nI (decide (T 18 0 ≠ 0)).toNat, mk sq) := htq
    have w3 : sF n (mk (wI (wQ (wQ s 68 0 t) 68 1 o) 68 2 (nI b))) 68 0 3 .boolean (.int (1 : Int32)) = some (mk sq) := by
      rw [esq]
      exact (B_d3 hn).1 _ 1 (by omega)
    have w6 : sF n (mk (wI (wI sq 68 4 (nI (decide (T 18 0 ≠ 0)).toNat)) 68 5 (nI (T 0 6)))) 68 0 6 .int (.int (-1 : Int32)) = some (mk sr) := by
      rw [esr]
      simp only [B_dy hn]
      rfl
    unfold fX0_begin
    rw [bnd_s (v := ()) (by simp only [B_dy hn]), bnd_s (v := mk (wQ s 68 0 t)) ((B_dy hn).2.2.1 s t (by omega)), bnd_s (v := mk (wQ (wQ s 68 0 t) 68 1 o)) ((B_dy hn).2.2.2.2.1 _ o (by omega)), bnd_s (v := mk (wI (wQ (wQ s 68 0 t) 68 1 o) 68 2 (nI b))) (by simp only [B_dy hn]), bnd_s w3, bnd_s (v := t) (hq1 sq q0), bnd_s (v := t + 16) (by simp only [B_t hn ht]), bnd_s htq', bnd_s ((B_d3 hn).2 sq _ hbt), bnd_s (v := t) (hq1 (wI sq 68 4 (nI (decide (T 18 0 ≠ 0)).toNat)) q0), bnd_s (v := nI (T 0 6)) (by simp only [B_t hn ht, e6]), bnd_s (v := mk (wI (wI sq 68 4 (nI (decide (T 18 0 ≠ 0)).toNat)) 68 5 (nI (T 0 6)))) (by simp only [B_dy hn]), bnd_s w6]
    rfl
  rw [pre]
  have rr : sr.2 = sq.2 := by rw [esr]; rfl
  have ri : ∀ a, a ≠ 68 → a ≠ 69 → sr.1 a = s.1 a := by
    intro a ha hb
    rw [esr]
    simp (disch := omega) only [wI_ne]
    exact qi a ha hb
  have r2 : sr.1 68 2 = nI b ∧ sr.1 68 3 = nI 1 ∧ sr.1 68 4 = nI (decide (T 18 0 ≠ 0)).toNat ∧ sr.1 68 5 = nI (T 0 6) ∧ sr.1 68 6 = m1 := by
    rw [esr, esq]
    refine ⟨?_, ?_, ?_, ?_, ?_⟩ <;> simp (disch := omega) only [wI_at, upd_at, upd_ne]
  refine lp_up (F := fun k (s1 : zS) i => fX0_begin_54 n k (mk s1) 68 (nI i)) (N := 4) (P := fun i s1 => (∀ a, a ≠ 69 → s1.1 a = sr.1 a) ∧ s1.2 = sq.2 ∧ ∀ w, w < T 0 2 → w < i → s1.1 69 w = nI (T 10 w)) (Q := fun r => ∃ s' : zS, r = some ((), mk s') ∧ frB s s' ∧ cOd s' t o T (O0 T b)) ?_ ?_ 4 bi_K sr 0 (by omega) (by unfold bi_K; omega) ⟨fun _ _ => rfl, rr, fun w _ h => by omega⟩
  · intro k sy i hi hP
    obtain ⟨f, g, h3⟩ := hP
    have hTy := hTo sy (fun a h1 h2 => by rw [f a h2]; exact ri a h1 h2)
    have q0y : sy.2.2 68 0 = t := by rw [g]; exact q0
    left
    have key : ∀ (x : Int32), fX6_cell n (mk sy) (t + 7) (nI i) (nI 1) = some (x, mk sy) → (i < T 0 2 → x = nI (T 10 i)) → ∃ s', fX0_begin_54 n (k + 1) (mk sy) 68 (nI i) = fX0_begin_54 n k (mk s') 68 (nI (i + 1)) ∧ (∀ a, a ≠ 69 → s'.1 a = sr.1 a) ∧ s'.2 = sq.2 ∧ ∀ w, w < T 0 2 → w < i + 1 → s'.1 69 w = nI (T 10 w) := by
      intro x hc hv
      refine ⟨wI sy 69 i x, ?_, fun a ha => ?_, g, fun w hw hwi => ?_⟩
      · simp (disch := first | omega | assumption | (simp only [wL_1, wL_22, wI_2, wA_2, wQ_1, wQ_21] <;> first | assumption | omega)) only [fX0_begin_54, fX0_begin_54b, LIT, LITm, nI_add, n_mul, fa_or, n_31m, n_shl0, n_le, n_lt, n_eq, Option.bind_some, B_dy hn, hq1, B_t hn ht, hc, show ¬ 4 ≤ i by omega, ↓reduceIte]
      · rw [wI_ne ha]
        exact f a ha
      · by_cases e : w = i
        · subst e
          simp only [wI_at, upd_at, hv hw]
        · simp (disch := omega) only [wI_at, upd_ne]
          exact h3 w hw (by omega)
    by_cases hiw : i < T 0 2
    · exact key (nI (T 10 i)) ((CTc hn ht hW hTy).2.1 i 1 hiw (by omega)) (fun _ => rfl)
    · exact key (nI 0) ((CTc hn ht hW hTy).2.2.2.2.2 i (nI 1) (by omega) (by omega)) (fun h => absurd h hiw)
  · intro k sy hP
    obtain ⟨f, g, h3⟩ := hP
    refine ⟨sy, ?_, ⟨fun a h1 h2 => by rw [f a h2]; exact ri a h1 h2, ?_, fun a ha => by rw [g]; exact qr a ha⟩, by rw [g]; exact q0, by rw [g]; exact q1, ?_, ?_, ?_, ?_, ?_, fun w hw => h3 w hw (by omega)⟩
    · simp (disch := first | omega | assumption | (simp only [wL_1, wL_22, wI_2, wA_2, wQ_1, wQ_21] <;> first | assumption | omega)) only [fX0_begin_54, fX0_begin_54b, LIT, LITm, nI_add, n_mul, fa_or, n_31m, n_shl0, n_le, n_lt, n_eq, Option.bind_some, Nat.le_refl, ↓reduceIte]
    · rw [g, esq]
      rfl
    · rw [f 68 (by omega)]; exact r2.1
    · rw [f 68 (by omega)]; exact r2.2.1
    · rw [f 68 (by omega)]; exact r2.2.2.1
    · rw [f 68 (by omega)]; exact r2.2.2.2.1
    · rw [f 68 (by omega)]; exact r2.2.2.2.2
end Ct
