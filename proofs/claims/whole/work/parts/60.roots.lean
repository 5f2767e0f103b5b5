/-! ===== what hangs together: by the reference; count: both ===== -/
section Ro
variable {n x y p v : Nat} {s s0 s1 : zS} {T : zT} {K : Nat → Bool} {S : zD} {c : Int32}
theorem cn_cong {K' : Nat → Bool} (e : ∀ p, p < T 0 1 → K p = K' p) (h : cn T K x y) : cn T K' x y := fun f hf => h f (fun p hp hk => hf p hp (by rw [← e p hp]; exact hk))
/-- the paths but one -/
def rK (k : Nat) (c : Int32) (i : Nat) : Bool := k.testBit i && !decide (nI i = c)
def rtI (T : zT) (K : Nat → Bool) (s0 s1 : zS) (B : Nat → Nat) : Prop := s1.2 = s0.2 ∧ (∀ a, a ≠ 229 → s1.1 a = s0.1 a) ∧ ∃ r : Nat → Nat, (∀ x, x < 7 → s1.1 229 x = nI (r x) ∧ r x ≤ x ∧ cn T K x (r x)) ∧ ∀ x y, x < 7 → y < 7 → (B y).testBit x = true → r x ≤ y
/-- each place's root -/
def rtO (T : zT) (K : Nat → Bool) (r : Nat → Nat) : Prop := (∀ x, x < 7 → r x ≤ x ∧ cn T K x (r x)) ∧ ∀ x y, x < 7 → y < 7 → cn T K y x → r x ≤ y
theorem rtI_w {B : Nat → Nat} {m : Nat} {r : Nat → Nat} (hW : WT T) (hp : p < T 0 1) (hk : K p = true) (g1 : s1.2 = s0.2) (g2 : ∀ a, a ≠ 229 → s1.1 a = s0.1 a) (g3 : ∀ x, x < 7 → s1.1 229 x = nI (r x) ∧ r x ≤ x ∧ cn T K x (r x)) (g4 : ∀ x y, x < 7 → y < 7 → (B y).testBit x = true → r x ≤ y) (hm : (m = r (T 4 p) ∧ r (T 4 p) ≤ r (T 3 p)) ∨ (m = r (T 3 p) ∧ r (T 3 p) ≤ r (T 4 p))) : rtI T K s0 (wI (wI s1 229 (T 3 p) (nI m)) 229 (T 4 p) (nI m)) (fun y => stS T K p (B y)) := by
  have he := WT_p hW hp
  have q3 := g3 (T 3 p) he.1
  have q4 := g3 (T 4 p) he.2.1
  have cp := cn_p (T := T) (K := K) hp hk
  have m3 : m ≤ r (T 3 p) := by omega
  have m4 : m ≤ r (T 4 p) := by omega
  have c3 : cn T K (T 3 p) m := by
    rcases hm with h | h
    · rw [h.1]; exact cn_t cp q4.2.2
    · rw [h.1]; exact q3.2.2
  refine ⟨g1, fun a ha => by rw [wI_ne ha, wI_ne ha]; exact g2 a ha, fun x => if x = T 4 p then m else if x = T 3 p then m else r x, fun x hx => ?_, fun x y hx hy h => ?_⟩
  · by_cases e4 : x = T 4 p
    · simp only [if_pos e4]
      rw [e4]
      exact ⟨by rw [wI_at, upd_at], by omega, cn_t (cn_s cp) c3⟩
    · by_cases e3 : x = T 3 p
      · simp only [if_neg e4, if_pos e3]
        rw [wI_at, upd_ne e4, e3]
        exact ⟨by rw [wI_at, upd_at], by omega, c3⟩
      · simp only [if_neg e4, if_neg e3]
        rw [wI_at, upd_ne e4, wI_at, upd_ne e3]
        exact g3 x hx
  · rcases stS_tb.mp h with g | ⟨-, ga, gb⟩
    · have := g4 x y hx hy g
      by_cases e4 : x = T 4 p
      · simp only [if_pos e4]
        rw [e4] at this
        omega
      · by_cases e3 : x = T 3 p
        · simp only [if_neg e4, if_pos e3]
          rw [e3] at this
          omega
        · simp only [if_neg e4, if_neg e3]
          exact this
    · have hmy : m ≤ y := by
        rcases ga with g | g
        · have := g4 _ y he.1 hy g
          omega
        · have := g4 _ y he.2.1 hy g
          omega
      by_cases e4 : x = T 4 p
      · simp only [if_pos e4]
        exact hmy
      · have e3 : x = T 3 p := by
          rcases gb with g | g
          · exact g.symm
          · exact absurd g.symm e4
        simp only [if_neg e4, if_pos e3]
        exact hmy
theorem m_r31 {k : Nat} {r23 : ai_H → Nat → Int32 → Int32 → Option (Unit × ai_H)} (hn : 239 ≤ n) (hW : WT T) (hT : mTd s0.1 T) (hS : mSd s0 0 T O00 S) (h : rtI T (rK S.2.2.2.1 c) s0 s (fun y => spN T (rK S.2.2.2.1 c) k (2 ^ y))) : ∃ s' : zS, fX11_layRoots_31 n r23 bi_K (mk s) 187 c (nI k) (nI 0) = r23 (mk s') 187 c (nI (k + 1)) ∧ rtI T (rK S.2.2.2.1 c) s0 s' (fun y => spN T (rK S.2.2.2.1 c) (k + 1) (2 ^ y)) := by
  have h0 := hW.1
  refine lp_up (F := fun f (s1 : zS) i => fX11_layRoots_31 n r23 f (mk s1) 187 c (nI k) (nI i)) (N := T 0 1) (P := fun i s1 => rtI T (rK S.2.2.2.1 c) s0 s1 (fun y => lpF (stS T (rK S.2.2.2.1 c)) i (spN T (rK S.2.2.2.1 c) k (2 ^ y)))) (Q := fun r => ∃ s' : zS, r = r23 (mk s') 187 c (nI (k + 1)) ∧ rtI T (rK S.2.2.2.1 c) s0 s' (fun y => spN T (rK S.2.2.2.1 c) (k + 1) (2 ^ y))) ?_ ?_ (T 0 1) bi_K s 0 (by omega) (by unfold bi_K; omega) h
  · intro f s1 i hi hP
    have hi9 : i < 9 := by omega
    have he := WT_p hW hi
    obtain ⟨g1, g2, r, g3, g4⟩ := hP
    have hT1 : mTd s1.1 T := mTd_fr hT (fun a j ha => by rw [g2 a (by omega)])
    have q : s1.1 222 i = nI (S.2.2.2.1.testBit i).toNat := by
      rw [g2 222 (by omega)]
      have := (hS.2.1 i hi).2.1
      rwa [Nat.mul_zero, Nat.zero_add] at this
    have same : rK S.2.2.2.1 c i = false → rtI T (rK S.2.2.2.1 c) s0 s1 (fun y => lpF (stS T (rK S.2.2.2.1 c)) (i + 1) (spN T (rK S.2.2.2.1 c) k (2 ^ y))) := fun hk => ⟨g1, g2, r, g3, fun x y hx hy h => g4 x y hx hy (by
      rcases stS_tb.mp h with g | ⟨ga, -⟩
      · exact g
      · rw [hk] at ga; cases ga)⟩
    left
    show ∃ s', fX11_layRoots_31b n r23 (fX11_layRoots_31 n r23 f) (mk s1) 187 c (nI k) (nI i) = _ ∧ _
    cases g : S.2.2.2.1.testBit i with
    | false =>
      rw [g] at q
      refine ⟨s1, ?_, same (by unfold rK; rw [g]; rfl)⟩
      unfold fX11_layRoots_31b fX11_layRoots_132
      simp (disch := first | omega | assumption | (simp only [wL_1, wL_22, wI_2, wA_2, wQ_1, wQ_21] <;> first | assumption | omega)) only [LIT, LITm, nI_add, n_mul, fa_or, n_31m, n_shl0, n_le, n_lt, n_eq, Option.bind_some, B_m hn, B_mb hn, MTp T, q, Bool.toNat_false, show ¬ T 0 1 ≤ i by omega, ↓reduceIte]
    | true =>
      rw [g] at q
      by_cases e : nI i = c
      · refine ⟨s1, ?_, same (by unfold rK; rw [e, decide_eq_true rfl, Bool.not_true, Bool.and_false])⟩
        unfold fX11_layRoots_31b fX11_layRoots_132
        rw [← e]
        simp (disch := first | omega | assumption | (simp only [wL_1, wL_22, wI_2, wA_2, wQ_1, wQ_21] <;> first | assumption | omega)) only [LIT, LITm, nI_add, n_mul, fa_or, n_31m, n_shl0, n_le, n_lt, n_eq, Option.bind_some, B_m hn, B_mb hn, MTp T, q, Bool.toNat_true, Nat.reduceEqDiff, Nat.reduceLeDiff, not_true_eq_false, show ¬ T 0 1 ≤ i by omega, ↓reduceIte]
      · have hk : rK S.2.2.2.1 c i = true := by unfold rK; rw [g, decide_eq_false e]; rfl
        have q3 := g3 (T 3 i) he.1
        have q4 := g3 (T 4 i) he.2.1
        have r3 := q3.1
        have r4 := q4.1
        have u3 : r (T 3 i) < 7 := by omega
        have u4 : r (T 4 i) < 7 := by omega
        obtain ⟨a, ea⟩ : ∃ a, a = T 3 i := ⟨_, rfl⟩
        obtain ⟨b, eb⟩ : ∃ b, b = T 4 i := ⟨_, rfl⟩
        have w3 : s1.1 194 i = nI a := by rw [ea]; exact (hT1.2.2.2.1 i hi).2.1
        have w4 : s1.1 195 i = nI b := by rw [eb]; exact (hT1.2.2.2.1 i hi).2.2.1
        have x4 : ∀ z : Int32, (wI s1 229 a z).1 195 i = nI b := fun z => by rw [wI_ne (by omega)]; exact w4
        rw [← ea] at r3 u3 he
        rw [← eb] at r4 u4 he
        by_cases d : r b ≤ r a
        · refine ⟨wI (wI s1 229 (T 3 i) (nI (r (T 4 i)))) 229 (T 4 i) (nI (r (T 4 i))), ?_, rtI_w hW hi hk g1 g2 g3 g4 (Or.inl ⟨rfl, by rw [← ea, ← eb]; exact d⟩)⟩
          rw [← ea, ← eb]
          unfold fX11_layRoots_31b fX11_layRoots_106 fX11_layRoots_131 fX11_layRoots_132
          simp (disch := first | omega | assumption | (simp only [wL_1, wL_22, wI_2, wA_2, wQ_1, wQ_21] <;> first | assumption | omega)) only [LIT, LITm, nI_add, n_mul, fa_or, n_31m, n_shl0, n_le, n_lt, n_eq, Option.bind_some, B_m hn, B_ma hn, B_mb hn, B_mc hn, hT1.1.2.1, q, w3, w4, x4, r3, r4, d, e, Bool.toNat_true, Nat.reduceEqDiff, Nat.reduceLeDiff, not_false_eq_true, show ¬ T 0 1 ≤ i by omega, ↓reduceIte]
        · refine ⟨wI (wI s1 229 (T 3 i) (nI (r (T 3 i)))) 229 (T 4 i) (nI (r (T 3 i))), ?_, rtI_w hW hi hk g1 g2 g3 g4 (Or.inr ⟨rfl, by rw [← ea, ← eb]; omega⟩)⟩
          rw [← ea, ← eb]
          unfold fX11_layRoots_31b fX11_layRoots_106 fX11_layRoots_131 fX11_layRoots_132
          simp (disch := first | omega | assumption | (simp only [wL_1, wL_22, wI_2, wA_2, wQ_1, wQ_21] <;> first | assumption | omega)) only [LIT, LITm, nI_add, n_mul, fa_or, n_31m, n_shl0, n_le, n_lt, n_eq, Option.bind_some, B_m hn, B_ma hn, B_mb hn, B_mc hn, hT1.1.2.1, q, w3, w4, x4, r3, r4, d, e, Bool.toNat_true, Nat.reduceEqDiff, Nat.reduceLeDiff, not_false_eq_true, show ¬ T 0 1 ≤ i by omega, ↓reduceIte]
  · intro f s1 hP
    have hT1 : mTd s1.1 T := mTd_fr hT (fun a j ha => by rw [hP.2.1 a (by omega)])
    refine ⟨s1, ?_, hP⟩
    show fX11_layRoots_31b n r23 (fX11_layRoots_31 n r23 f) (mk s1) 187 c (nI k) (nI (T 0 1)) = _
    unfold fX11_layRoots_31b
    simp (disch := first | omega | assumption | (simp only [wL_1, wL_22, wI_2, wA_2, wQ_1, wQ_21] <;> first | assumption | omega)) only [LIT, LITm, nI_add, n_mul, fa_or, n_31m, n_shl0, n_le, n_lt, n_eq, Option.bind_some, B_m hn, MTp T, Nat.le_refl, ↓reduceIte]
theorem m_roots (hn : 239 ≤ n) (hW : WT T) (hT : mTd s.1 T) (hS : mSd s 0 T O00 S) : ∃ (s' : zS) (r : Nat → Nat), fX11_layRoots n (mk s) 187 c = some ((), mk s') ∧ frT s s' ∧ (∀ x, x < 7 → s'.1 229 x = nI (r x)) ∧ rtO T (rK S.2.2.2.1 c) r := by
  unfold fX11_layRoots
  simp (disch := first | omega | assumption | (simp only [wL_1, wL_22, wI_2, wA_2, wQ_1, wQ_21] <;> first | assumption | omega)) only [LIT, LITm, nI_add, n_mul, fa_or, n_31m, n_shl0, n_le, n_lt, n_eq, Option.bind_some, B_m hn]
  refine lp_up (F := fun f (s1 : zS) i => fX11_layRoots_2 n f (mk s1) 187 c (nI i)) (N := 7) (P := fun i s1 => s1.2 = s.2 ∧ (∀ a, a ≠ 229 → s1.1 a = s.1 a) ∧ ∀ x, x < i → s1.1 229 x = nI x) (Q := fun r => ∃ (s' : zS) (q : Nat → Nat), r = some ((), mk s') ∧ frT s s' ∧ (∀ x, x < 7 → s'.1 229 x = nI (q x)) ∧ rtO T (rK S.2.2.2.1 c) q) ?_ ?_ 7 bi_K s 0 (by omega) (by unfold bi_K; omega) ⟨rfl, fun _ _ => rfl, fun x h => absurd h (Nat.not_lt_zero x)⟩
  · intro f s1 i hi hP
    left
    refine ⟨wI s1 229 i (nI i), ?_, hP.1, fun a ha => by rw [wI_ne ha]; exact hP.2.1 a ha, fun x hx => ?_⟩
    · show fX11_layRoots_2b n (fX11_layRoots_2 n f) (mk s1) 187 c (nI i) = _
      unfold fX11_layRoots_2b
      simp (disch := first | omega | assumption | (simp only [wL_1, wL_22, wI_2, wA_2, wQ_1, wQ_21] <;> first | assumption | omega)) only [LIT, LITm, nI_add, n_mul, fa_or, n_31m, n_shl0, n_le, n_lt, n_eq, Option.bind_some, B_m hn, B_mc hn, show ¬ 7 ≤ i by omega, ↓reduceIte]
    · by_cases e : x = i
      · rw [e, wI_at, upd_at]
      · rw [wI_at, upd_ne e]
        exact hP.2.2 x (by omega)
  · intro f s1 hP
    obtain ⟨p1, p2, p3⟩ := hP
    have e : fX11_layRoots_2 n (f + 1) (mk s1) 187 c (nI 7) = fX11_layRoots_23 n bi_K (mk s1) 187 c (nI 0) := by
      show fX11_layRoots_2b n (fX11_layRoots_2 n f) (mk s1) 187 c (nI 7) = _
      unfold fX11_layRoots_2b
      simp (disch := first | omega | assumption | (simp only [wL_1, wL_22, wI_2, wA_2, wQ_1, wQ_21] <;> first | assumption | omega)) only [LIT, LITm, nI_add, n_mul, fa_or, n_31m, n_shl0, n_le, n_lt, n_eq, Option.bind_some, Nat.le_refl, ↓reduceIte]
    show ∃ (s' : zS) (q : Nat → Nat), fX11_layRoots_2 n (f + 1) (mk s1) 187 c (nI 7) = some ((), mk s') ∧ frT s s' ∧ (∀ x, x < 7 → s'.1 229 x = nI (q x)) ∧ rtO T (rK S.2.2.2.1 c) q
    rw [e]
    refine lp_up (F := fun f (s1 : zS) i => fX11_layRoots_23 n f (mk s1) 187 c (nI i)) (N := 7) (P := fun i s1 => rtI T (rK S.2.2.2.1 c) s s1 (fun y => spN T (rK S.2.2.2.1 c) i (2 ^ y))) (Q := fun r => ∃ (s' : zS) (q : Nat → Nat), r = some ((), mk s') ∧ frT s s' ∧ (∀ x, x < 7 → s'.1 229 x = nI (q x)) ∧ rtO T (rK S.2.2.2.1 c) q) ?_ ?_ 7 bi_K s1 0 (by omega) (by unfold bi_K; omega) ⟨p1, p2, fun x => x, fun x hx => ⟨p3 x hx, Nat.le_refl x, cn_r⟩, fun x y hx hy h => ?_⟩
    · intro f s2 i hi hP
      left
      obtain ⟨s3, e3, h3⟩ := m_r31 (r23 := fX11_layRoots_23 n f) hn hW hT hS hP
      refine ⟨s3, ?_, h3⟩
      show fX11_layRoots_23b n (fX11_layRoots_23 n f) (mk s2) 187 c (nI i) = _
      unfold fX11_layRoots_23b
      simp (disch := first | omega | assumption | (simp only [wL_1, wL_22, wI_2, wA_2, wQ_1, wQ_21] <;> first | assumption | omega)) only [LIT, LITm, nI_add, n_mul, fa_or, n_31m, n_shl0, n_le, n_lt, n_eq, Option.bind_some, show ¬ 7 ≤ i by omega, ↓reduceIte]
      exact e3
    · intro f s2 hP
      obtain ⟨g1, g2, r, g3, g4⟩ := hP
      refine ⟨s2, r, ?_, ⟨⟨by rw [g1], fun a j ha => ?_, fun a j _ _ _ => by rw [g1]⟩, by rw [g1]⟩, fun x hx => (g3 x hx).1, fun x hx => (g3 x hx).2, fun x y hx hy h => g4 x y hx hy ((spS_cn hW hy).mpr h)⟩
      · show fX11_layRoots_23b n (fX11_layRoots_23 n f) (mk s2) 187 c (nI 7) = _
        unfold fX11_layRoots_23b
        simp (disch := first | omega | assumption | (simp only [wL_1, wL_22, wI_2, wA_2, wQ_1, wQ_21] <;> first | assumption | omega)) only [LIT, LITm, nI_add, n_mul, fa_or, n_31m, n_shl0, n_le, n_lt, n_eq, Option.bind_some, Nat.le_refl, ↓reduceIte]
      · rw [g2 a (by intro q; exact ha (by unfold scM; omega))]
    · have h' : (2 ^ y).testBit x = true := h
      rw [Nat.testBit_two_pow] at h'
      have := of_decide_eq_true h'
      show x ≤ y
      omega
theorem rtO_rt {r : Nat → Nat} (hW : WT T) (h : rtO T K r) (hx : x < 7) : (r x = x) = (rtV T K x = true) := by
  unfold rtV
  rw [decide_eq_true_eq]
  refine propext ⟨fun e => Nat.eq_of_testBit_eq fun i => ?_, fun e => ?_⟩
  · rw [Nat.testBit_and, Nat.testBit_two_pow_sub_one, Nat.zero_testBit]
    cases g : (spS T K x).testBit i with
    | false => rfl
    | true =>
      rw [Bool.true_and, decide_eq_false_iff_not]
      intro hi
      have := h.2 x i hx (by omega) (cn_s ((spS_cn hW hx).mp g))
      omega
  · have h1 := h.1 x hx
    refine Classical.byContradiction fun g => ?_
    have h2 := congrArg (fun v => v.testBit (r x)) e
    simp only [Nat.testBit_and, Nat.testBit_two_pow_sub_one, Nat.zero_testBit, (spS_cn hW hx).mpr h1.2, decide_eq_true (show r x < x by omega)] at h2
    cases h2
theorem rt_cong {K' : Nat → Bool} (e : ∀ p, p < T 0 1 → K p = K' p) : spS T K x = spS T K' x := by
  have e1 : ∀ m, m ≤ T 0 1 → ∀ b, lpF (stS T K) m b = lpF (stS T K') m b := by
    intro m
    induction m with
    | zero => intro _ b; rfl
    | succ m ih =>
      intro hm b
      show stS T K m (lpF (stS T K) m b) = stS T K' m (lpF (stS T K') m b)
      rw [ih (by omega) b]
      unfold stS
      rw [e m (by omega)]
  have e2 : ∀ k b, spN T K k b = spN T K' k b := by
    intro k
    induction k with
    | zero => intro b; rfl
    | succ k ih =>
      intro b
      show lpF (stS T K) (T 0 1) (spN T K k b) = lpF (stS T K') (T 0 1) (spN T K' k b)
      rw [ih b, e1 _ (Nat.le_refl _)]
  exact e2 7 _
end Ro
