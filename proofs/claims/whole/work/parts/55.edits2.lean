/-! ===== walk, mow, carry by the class ===== -/
def crV (S : zD) (w p : Nat) : zD := (S.1, S.2.1, up2 S.2.2.1 0 w p, S.2.2.2)
def mwV (S : zD) (p : Nat) : zD := (S.1, upd S.2.1 p 0, S.2.2.1, S.2.2.2.1 ||| 2 ^ p, S.2.2.2.2)
def carOk (A : zA) (x y : Int32) : Prop := inR x (aT A 0 2) = true ∧ inR y (aT A 0 0) = true ∧ (aS A).2.2.1 0 x.toNatClampNeg ≠ y.toNatClampNeg
def mowOk (A : zA) (x : Int32) : Prop := inR x (aT A 0 1) = true ∧ ¬ ((aS A).2.2.2.1.testBit x.toNatClampNeg = true ∧ (aS A).2.1 x.toNatClampNeg = nI 0)
def donV (A : zA) (S : zD) : zA := wtS (wtP A (pushP (aP A) (aS A))) S
theorem wfP_don {A : zA} {S : zD} (hA : wfA A) (hS : wD (aT A) S) (h0 : S.1 0 = (aS A).1 0) (h2 : S.1 2 = (aS A).1 2) (hn : S.2.2.2.2 = (aS A).2.2.2.2) : wfA (donV A S) := by
  obtain ⟨g1, g2, g3, g4, g5, g6⟩ := wfP_push hA
  refine ⟨g1, hS, g3, ⟨g4.1, fun i hi => ?_⟩, g5, g6⟩
  obtain ⟨a1, a2, a3, a4⟩ := g4.2 i hi
  exact ⟨a1, a2.trans h0.symm, a3.trans h2.symm, a4.trans hn.symm⟩
section Ee
variable {n t o p w : Nat} {s : zS} {A : zA} {x y z : Int32}
theorem c_carry (hn : 239 ≤ n) (hK : cK s t A) (hA : wfA A) : (carOk A x y → ∃ s' : zS, fX10_carry n (mk s) 1 x y = some (nI 1, mk s') ∧ frC s s' ∧ cK s' t (donV A (crV (aS A) x.toNatClampNeg y.toNatClampNeg))) ∧ (¬ carOk A x y → fX10_carry n (mk s) 1 x y = some (nI 0, mk s)) := by
  have hW := hA.1
  have h0 := hW.1
  unfold fX10_carry carOk
  refine ⟨fun h => ?_, fun h => ?_⟩
  · obtain ⟨hx, hy, hne⟩ := h
    obtain ⟨w, hw, rfl⟩ := inR_t (by omega) hx
    obtain ⟨p, hp, rfl⟩ := inR_t (by omega) hy
    rw [cl_n (by omega), cl_n (by omega)] at hne ⊢
    have a2 := hA.2.1.2.2.1 w hw
    have q := (hK.2.2.2.1.2.2 w hw).1
    obtain ⟨sa, ea, fa, ga, ra, ka⟩ := c_remember hn hK hW
    have hSa := ka.2.2.2.1
    refine ⟨wI sa 55 w (nI p), ?_, frC_t fa ⟨fun a ha => ⟨wI_ne (by omega), rfl, rfl⟩, rfl⟩, cK_nw ka (fun a j h1 h2 h3 => by rw [wI_ne (by omega)]) (fun _ _ => rfl) ?_⟩
    · simp (disch := first | omega | assumption | (simp only [wL_1, wL_22, wI_2, wA_2, wQ_1, wQ_21] <;> first | assumption | omega)) only [LIT, LITm, nI_add, n_mul, fa_or, n_31m, n_shl0, n_le, n_lt, n_eq, Option.bind_some, B_K hn, B_s hn is_52, c_isWalker hn hK hA, hx, c_isPlace hn hK hA, hy, q, hne, ea, Bool.toNat_true, Nat.reduceEqDiff, Nat.reduceLeDiff, not_false_eq_true, ↓reduceIte]
    · obtain ⟨⟨s1, s2, s3, s4, s5⟩, s6, s7⟩ := hSa
      refine ⟨⟨?_, ?_, ?_, ?_, ?_⟩, fun q hq => ?_, fun v hv => ⟨?_, ?_⟩⟩
      · rw [wI_ne (by omega)]; exact s1
      · rw [wI_ne (by omega)]; exact s2
      · rw [wI_ne (by omega)]; exact s3
      · rw [wI_ne (by omega)]; exact s4
      · rw [wI_ne (by omega)]; exact s5
      · rw [wI_ne (by omega), wI_ne (by omega)]; exact s6 q hq
      · rw [wI_at]
        by_cases e : v = w
        · subst e
          rw [upd_at]
          simp only [crV, up2_g, and_self, ↓reduceIte]
        · rw [upd_ne e]
          simp only [crV, up2_g, e, and_false, ↓reduceIte]
          exact (s7 v hv).1
      · rw [wI_ne (by omega)]
        simp only [crV, up2_g, Nat.reduceEqDiff, Nat.reduceLeDiff, false_and, ↓reduceIte]
        exact (s7 v hv).2
  · by_cases hx : inR x (aT A 0 2) = true
    · by_cases hy : inR y (aT A 0 0) = true
      · obtain ⟨w, hw, rfl⟩ := inR_t (by omega) hx
        obtain ⟨p, hp, rfl⟩ := inR_t (by omega) hy
        rw [cl_n (by omega), cl_n (by omega)] at h
        have he : (aS A).2.2.1 0 w = p := Classical.byContradiction fun g => h ⟨hx, hy, g⟩
        have q := (hK.2.2.2.1.2.2 w hw).1
        rw [he] at q
        simp (disch := first | omega | assumption | (simp only [wL_1, wL_22, wI_2, wA_2, wQ_1, wQ_21] <;> first | assumption | omega)) only [LIT, LITm, nI_add, n_mul, fa_or, n_31m, n_shl0, n_le, n_lt, n_eq, Option.bind_some, B_K hn, B_s hn is_52, c_isWalker hn hK hA, hx, c_isPlace hn hK hA, hy, q, Bool.toNat_true, Nat.reduceEqDiff, Nat.reduceLeDiff, not_true_eq_false, ↓reduceIte]
      · simp (disch := first | omega | assumption | (simp only [wL_1, wL_22, wI_2, wA_2, wQ_1, wQ_21] <;> first | assumption | omega)) only [LIT, LITm, nI_add, n_mul, fa_or, n_31m, n_shl0, n_le, n_lt, n_eq, Option.bind_some, B_K hn, c_isWalker hn hK hA, hx, c_isPlace hn hK hA, bF hy, Bool.toNat_true, Bool.toNat_false, Nat.reduceEqDiff, Nat.reduceLeDiff, ↓reduceIte]
    · simp (disch := first | omega | assumption | (simp only [wL_1, wL_22, wI_2, wA_2, wQ_1, wQ_21] <;> first | assumption | omega)) only [LIT, LITm, nI_add, n_mul, fa_or, n_31m, n_shl0, n_le, n_lt, n_eq, Option.bind_some, B_K hn, c_isWalker hn hK hA, bF hx, Bool.toNat_false, ↓reduceIte]
theorem c_mow (hn : 239 ≤ n) (hK : cK s t A) (hA : wfA A) : (mowOk A x → ∃ s' : zS, fX10_mow n (mk s) 1 x = some (nI 1, mk s') ∧ frC s s' ∧ cK s' t (donV A (mwV (aS A) x.toNatClampNeg))) ∧ (¬ mowOk A x → fX10_mow n (mk s) 1 x = some (nI 0, mk s)) := by
  have hW := hA.1
  have h0 := hW.1
  unfold mowOk
  refine ⟨fun h => ?_, fun h => ?_⟩
  · obtain ⟨hx, hne⟩ := h
    obtain ⟨p, hp, rfl⟩ := inR_t (by omega) hx
    rw [cl_n (by omega)] at hne ⊢
    have hp9 : p < 9 := by omega
    have q := (hK.2.2.2.1.2.1 p hp).1
    have K := c_isKept (p := p) hn is_52 hK.2.2.2.1.1.2.2.2.2 (wD_k hW hA.2.1) hp9
    obtain ⟨sa, ea, fa, ga, ra, ka⟩ := c_remember hn hK hW
    have hSa := ka.2.2.2.1
    have k4 := hSa.1.2.2.2.2
    have hm : fX10_mow_33 n (mk s) 1 (nI p) = some (nI 1, mk (wI (wI sa 52 4 (nI ((aS A).2.2.2.1 ||| 2 ^ p))) 53 p (nI 0))) := by
      have k4' : sa.1 52 4 = nI (aS A).2.2.2.1 := k4
      unfold fX10_mow_33
      simp (disch := first | omega | assumption | (simp only [wL_1, wL_22, wI_2, wA_2, wQ_1, wQ_21] <;> first | assumption | omega)) only [LIT, LITm, nI_add, n_mul, fa_or, n_31m, n_shl0, n_le, n_lt, n_eq, Option.bind_some, B_K hn, B_s hn is_52, ea, k4']
    refine ⟨wI (wI sa 52 4 (nI ((aS A).2.2.2.1 ||| 2 ^ p))) 53 p (nI 0), ?_, frC_t fa ⟨fun a ha => ⟨by rw [wI_ne (by omega), wI_ne (by omega)], rfl, rfl⟩, rfl⟩, cK_nw ka (fun a j h1 h2 h3 => by rw [wI_ne (by omega), wI_ne (by omega)]) (fun _ _ => rfl) ?_⟩
    · unfold fX10_mow
      cases g : (aS A).2.2.2.1.testBit p with
      | false =>
        rw [g] at K
        simp (disch := first | omega | assumption | (simp only [wL_1, wL_22, wI_2, wA_2, wQ_1, wQ_21] <;> first | assumption | omega)) only [LIT, LITm, nI_add, n_mul, fa_or, n_31m, n_shl0, n_le, n_lt, n_eq, Option.bind_some, B_K hn, B_s hn is_52, c_isPath hn hK hA, hx, K, hm, Bool.toNat_true, Bool.toNat_false, Nat.reduceEqDiff, Nat.reduceLeDiff, ↓reduceIte]
      | true =>
        rw [g] at K
        have ha : ¬ (aS A).2.1 p = nI 0 := fun e => hne ⟨g, e⟩
        simp (disch := first | omega | assumption | (simp only [wL_1, wL_22, wI_2, wA_2, wQ_1, wQ_21] <;> first | assumption | omega)) only [LIT, LITm, nI_add, n_mul, fa_or, n_31m, n_shl0, n_le, n_lt, n_eq, Option.bind_some, B_K hn, B_s hn is_52, c_isPath hn hK hA, hx, K, q, ha, hm, Bool.toNat_true, Nat.reduceEqDiff, Nat.reduceLeDiff, not_false_eq_true, ↓reduceIte]
    · obtain ⟨⟨s1, s2, s3, s4, s5⟩, s6, s7⟩ := hSa
      refine ⟨⟨?_, ?_, ?_, ?_, ?_⟩, fun q hq => ⟨?_, ?_⟩, fun v hv => ?_⟩
      · rw [wI_ne (by omega), wI_at, upd_ne (by omega)]; exact s1
      · rw [wI_ne (by omega), wI_at, upd_ne (by omega)]; exact s2
      · rw [wI_ne (by omega), wI_at, upd_ne (by omega)]; exact s3
      · rw [wI_ne (by omega), wI_at, upd_ne (by omega)]; exact s4
      · rw [wI_ne (by omega), wI_at, upd_at]; rfl
      · rw [wI_at]
        by_cases e : q = p
        · subst e
          rw [upd_at]
          simp only [mwV, upd_at]
          rfl
        · rw [upd_ne e, wI_ne (by omega)]
          simp only [mwV, upd_ne e]
          exact (s6 q hq).1
      · rw [wI_ne (by omega), wI_ne (by omega)]
        exact (s6 q hq).2
      · rw [wI_ne (by omega), wI_ne (by omega), wI_ne (by omega), wI_ne (by omega)]
        exact s7 v hv
  · unfold fX10_mow
    by_cases hx : inR x (aT A 0 1) = true
    · obtain ⟨p, hp, rfl⟩ := inR_t (by omega) hx
      rw [cl_n (by omega)] at h
      have hp9 : p < 9 := by omega
      obtain ⟨g, ha⟩ : (aS A).2.2.2.1.testBit p = true ∧ (aS A).2.1 p = nI 0 := Classical.byContradiction fun g => h ⟨hx, g⟩
      have q := (hK.2.2.2.1.2.1 p hp).1
      rw [ha] at q
      have K := c_isKept (p := p) hn is_52 hK.2.2.2.1.1.2.2.2.2 (wD_k hW hA.2.1) hp9
      rw [g] at K
      simp (disch := first | omega | assumption | (simp only [wL_1, wL_22, wI_2, wA_2, wQ_1, wQ_21] <;> first | assumption | omega)) only [LIT, LITm, nI_add, n_mul, fa_or, n_31m, n_shl0, n_le, n_lt, n_eq, Option.bind_some, B_K hn, B_s hn is_52, c_isPath hn hK hA, hx, K, q, Bool.toNat_true, Nat.reduceEqDiff, Nat.reduceLeDiff, not_true_eq_false, ↓reduceIte]
    · simp (disch := first | omega | assumption | (simp only [wL_1, wL_22, wI_2, wA_2, wQ_1, wQ_21] <;> first | assumption | omega)) only [LIT, LITm, nI_add, n_mul, fa_or, n_31m, n_shl0, n_le, n_lt, n_eq, Option.bind_some, B_K hn, c_isPath hn hK hA, bF hx, Bool.toNat_false, ↓reduceIte]
theorem c_walkX (hn : 239 ≤ n) (hK : cK s t A) (hA : wfA A) (h : ¬ (inR x (aT A 0 2) = true ∧ inR y (aT A 0 1) = true)) : fX10_walk n (mk s) 1 x y = some (m1, mk s) := by
  unfold fX10_walk
  by_cases hx : inR x (aT A 0 2) = true
  · have hy : ¬ inR y (aT A 0 1) = true := fun g => h ⟨hx, g⟩
    simp (disch := first | omega | assumption | (simp only [wL_1, wL_22, wI_2, wA_2, wQ_1, wQ_21] <;> first | assumption | omega)) only [LIT, LITm, nI_add, n_mul, fa_or, n_31m, n_shl0, n_le, n_lt, n_eq, Option.bind_some, B_K hn, c_isWalker hn hK hA, hx, c_isPath hn hK hA, bF hy, Bool.toNat_true, Bool.toNat_false, Nat.reduceEqDiff, Nat.reduceLeDiff, not_true_eq_false, ↓reduceIte]
  · simp (disch := first | omega | assumption | (simp only [wL_1, wL_22, wI_2, wA_2, wQ_1, wQ_21] <;> first | assumption | omega)) only [LIT, LITm, nI_add, n_mul, fa_or, n_31m, n_shl0, n_le, n_lt, n_eq, Option.bind_some, B_K hn, c_isWalker hn hK hA, bF hx, Bool.toNat_false, ↓reduceIte]
theorem c_walk (hn : 239 ≤ n) (hK : cK s t A) (hA : wfA A) (hw : w < aT A 0 2) (hp : p < aT A 0 1) : (canV (aT A) (O0 (aT A) 0) (aS A) w p = none → ∃ s' : zS, fX10_walk n (mk s) 1 (nI w) (nI p) = some (m2, mk s') ∧ frS s s') ∧ (∀ c, canV (aT A) (O0 (aT A) 0) (aS A) w p = some c → ∃ s' : zS, fX10_walk n (mk s) 1 (nI w) (nI p) = some (nI ((aS A).2.2.1 1 w - c), mk s') ∧ frC s s' ∧ cK s' t (donV A (goV (aT A) (aS A) w p c))) := by
  have ht := cK_t hK
  have hW := hA.1
  have h0 := hW.1
  have e3 := hK.2.1
  have hx := inR_n hw (by omega)
  have hy := inR_n hp (by omega)
  obtain ⟨sa, ea, fa, ha⟩ := c_begin (b := 0) hn ht is_52 hW hK.2.2.1
  have hTa : cTd sa.1 t (aT A) := cTd_fr hK.2.2.1 (fun a h1 h2 => fa.1 a (by omega) (by omega))
  have hSa : cSd sa.1 52 (aT A) (aS A) := cSd_fr hK.2.2.2.1 (fun a h1 h2 => fa.1 a (by omega) (by omega))
  obtain ⟨sb, eb, fb⟩ := c_cost hn ht is_52 hW hTa ha hSa (O0_w hW (by omega)) hA.2.1 hp hw
  have fS : frS s sb := frS_t (frB_S fa) (frL_S ht fb)
  have nle : nI 0 ≤ m1 ↔ False := ⟨fun h => by rw [n_m1le (by omega)] at h; exact h, fun h => h.elim⟩
  refine ⟨fun h => ?_, fun c h => ?_⟩
  · rw [h, Option.elim_none] at eb
    refine ⟨sb, ?_, fS⟩
    unfold fX10_walk
    simp (disch := first | omega | assumption | (simp only [wL_1, wL_22, wI_2, wA_2, wQ_1, wQ_21] <;> first | assumption | omega)) only [LIT, LITm, nI_add, n_mul, fa_or, n_31m, n_shl0, n_le, n_lt, n_eq, Option.bind_some, B_K hn, c_isWalker hn hK hA, hx, c_isPath hn hK hA, hy, e3, ea, eb, nle, Bool.toNat_true, Nat.reduceEqDiff, Nat.reduceLeDiff, not_false_eq_true, ↓reduceIte]
  · rw [h, Option.elim_some] at eb
    have hcl := canV_le h
    have h99 := (hA.2.1.2.2.1 w hw).2
    have hKb := cK_S hK fS
    obtain ⟨sc, ec, fc, gc, rc, kc⟩ := c_remember hn hKb hW
    have hOb := cOd_D is_52 (frL_D fb) ha
    have hOc : cOd sc t 52 (aT A) (O0 (aT A) 0) := by
      unfold cOd
      rw [gc 68 (by omega) (by omega), gc 69 (by omega) (by omega), rc 68 (by omega)]
      exact hOb
    have hSc : cSd sc.1 52 (aT A) (aS A) := kc.2.2.2.1
    have hTc : cTd sc.1 t (aT A) := kc.2.2.1
    obtain ⟨sd, ed, fd, hSd⟩ := c_goWhole hn ht is_52 hW hTc hOc hSc hA.2.1 hp hw hcl
    have q := (hSd.2.2 w hw).2
    have hw4 : w < 4 := by omega
    have eg : (goV (aT A) (aS A) w p c).2.2.1 1 w = (aS A).2.2.1 1 w - c := by simp [goV, up2_g]
    rw [eg] at q
    refine ⟨sd, ?_, frC_t (frS_C fS) (frC_t fc ⟨fun a g => ⟨fd.1 a (by omega), fd.2.2 a (by omega), by rw [fd.2.1]⟩, by rw [fd.2.1]⟩), cK_nw kc (fun a j h1 h2 h3 => by rw [fd.1 a (by omega)]) (fun a _ => by rw [fd.2.1]) hSd⟩
    unfold fX10_walk
    simp (disch := first | omega | assumption | (simp only [wL_1, wL_22, wI_2, wA_2, wQ_1, wQ_21] <;> first | assumption | omega)) only [LIT, LITm, nI_add, n_mul, fa_or, n_31m, n_shl0, n_le, n_lt, n_eq, Option.bind_some, B_K hn, B_s hn is_52, c_isWalker hn hK hA, hx, c_isPath hn hK hA, hy, e3, ea, eb, ec, ed, q, Nat.zero_le, Bool.toNat_true, Nat.reduceEqDiff, Nat.reduceLeDiff, not_false_eq_true, ↓reduceIte]
end Ee
