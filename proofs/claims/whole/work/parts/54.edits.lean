/-! ===== what is done by call, by the class: remembered, undone, kept ===== -/
def wtP (A : zA) (P : Nat × (Nat → zD)) : zA := (A.1, A.2.1, A.2.2.1, P, A.2.2.2.2)
def wtS (A : zA) (S : zD) : zA := (A.1, S, A.2.2)
def wtI (A : zA) (I : Bool × zD) : zA := (A.1, A.2.1, I, A.2.2.2)
def pushP (P : Nat × (Nat → zD)) (S : zD) : Nat × (Nat → zD) := if P.1 < 20 then (P.1 + 1, fun i => if i = P.1 then S else P.2 i) else (20, fun i => if i = 19 then S else P.2 (i + 1))
theorem wfP_push {A : zA} (hA : wfA A) : wfA (wtP A (pushP (aP A) (aS A))) := by
  obtain ⟨h1, h2, h3, ⟨h4, h4'⟩, h5, h6⟩ := hA
  refine ⟨h1, h2, h3, ?_, h5, h6⟩
  show wP (aT A) (aS A) (pushP (aP A) (aS A))
  unfold pushP
  split
  · rename_i g
    refine ⟨by show (aP A).1 + 1 ≤ 20; omega, fun i hi => ?_⟩
    simp only at hi ⊢
    by_cases e : i = (aP A).1
    · rw [if_pos e]
      exact ⟨h2, rfl, rfl, rfl⟩
    · rw [if_neg e]
      exact h4' i (by omega)
  · rename_i g
    refine ⟨by show (20 : Nat) ≤ 20; omega, fun i hi => ?_⟩
    simp only at hi ⊢
    by_cases e : i = 19
    · rw [if_pos e]
      exact ⟨h2, rfl, rfl, rfl⟩
    · rw [if_neg e]
      exact h4' (i + 1) (by omega)
section Ed
variable {n t o p w : Nat} {s : zS} {A : zA} {x y z : Int32}
theorem B_wr (hn : 239 ≤ n) : ∀ (s : zS) (j v : Nat), j < 20 → isS v → wR n (mk s) 67 (nI j) v = some (mk (wQ s 67 j v)) := fun s j v hj hv => mk_wR (a := 67) (z := 20) rfl ⟨by omega, by omega⟩ (Or.inl (by omega)) hj rfl (by omega) (is_lay0 hv) ⟨by have := is_b hv; omega, by have := is_b hv; omega⟩ (by have := is_b hv; omega)
theorem c_rem58 (hn : 239 ≤ n) (hK : cK s t A) (hA : WT (aT A)) (hp : (aP A).1 < 20) : ∃ s' : zS, fX10_remember_58 n (mk s) 1 = some ((), mk s') ∧ frC s s' ∧ (∀ a, a = 68 ∨ a = 69 ∨ a < 62 → a ≠ 1 → s'.1 a = s.1 a) ∧ s'.2.2 = s.2.2 ∧ cK s' t (wtP A ((aP A).1 + 1, fun i => if i = (aP A).1 then aS A else (aP A).2 i)) := by
  obtain ⟨h1, h2, h3, h4, h5, h6, h7, h8, h9⟩ := hK
  have ht : t = 6 ∨ t = 29 := by rcases h1 with h | h <;> omega
  obtain ⟨k, hk, er⟩ := h6.2.2.1 (aP A).1 hp
  obtain ⟨sa, ea, fa, ha⟩ := c_copy hn (is_p hk) is_52 (by omega) hA h4
  have q10 : sa.1 1 10 = nI (aP A).1 := by rw [fa.1 1 (by omega)]; exact h6.1
  have ec : ∀ a, a ≠ 1 → (a < 87 + 5 * k ∨ 87 + 5 * k + 4 < a) → (wI sa 1 10 (nI ((aP A).1 + 1))).1 a = s.1 a := fun a g1 g2 => by rw [wI_ne g1]; exact fa.1 a g2
  have e1 : ∀ j, j ≠ 10 → (wI sa 1 10 (nI ((aP A).1 + 1))).1 1 j = s.1 1 j := fun j g => by rw [wI_at, upd_ne g, fa.1 1 (by omega)]
  have er2 : (wI sa 1 10 (nI ((aP A).1 + 1))).2.2 = s.2.2 := by show sa.2.2 = _; rw [fa.2]
  refine ⟨wI sa 1 10 (nI ((aP A).1 + 1)), ?_, ⟨fun a g => ⟨ec a (by omega) (by omega), by show sa.2.1 a = _; rw [fa.2], by rw [er2]⟩, by rw [er2]⟩, fun a g1 g2 => ec a g2 (by omega), er2, by rw [er2]; exact h1, by rw [er2]; exact h2, cTd_fr h3 (fun a g1 g2 => ec a (by omega) (by omega)), cSd_fr h4 (fun a g1 g2 => ec a (by omega) (by omega)), ⟨by rw [e1 8 (by omega)]; exact h5.1, fun g => cSd_fr (h5.2 g) (fun a g1 g2 => ec a (by omega) (by omega))⟩, ⟨by rw [wI_at, upd_at]; rfl, by show (aP A).1 + 1 ≤ 20; omega, by rw [er2]; exact h6.2.2.1, by rw [er2]; exact h6.2.2.2.1, fun i hi => ?_⟩, ⟨by rw [e1 1 (by omega)]; exact h7.1, fun i hi => by rw [ec 2 (by omega) (by omega)]; exact h7.2 i hi⟩, ⟨by rw [ec 3 (by omega) (by omega)]; exact h8.1, by rw [ec 3 (by omega) (by omega)]; exact h8.2⟩, ⟨by rw [ec 70 (by omega) (by omega)]; exact h9.1, by rw [ec 70 (by omega) (by omega)]; exact h9.2.1, fun i hi => by rw [ec 71 (by omega) (by omega), ec 72 (by omega) (by omega), ec 73 (by omega) (by omega), ec 74 (by omega) (by omega)]; exact h9.2.2 i hi⟩⟩
  · unfold fX10_remember_58
    simp (disch := first | omega | assumption | (simp only [wL_1, wL_22, wI_2, wA_2, wQ_1, wQ_21] <;> first | assumption | omega)) only [LIT, LITm, nI_add, n_mul, fa_or, n_31m, n_shl0, n_le, n_lt, n_eq, Option.bind_some, B_K hn, h6.1, er, ea, q10]
  · have hi' : i < (aP A).1 + 1 := hi
    rw [er2]
    show cSd _ (s.2.2 67 i) (aT A) (if i = (aP A).1 then aS A else (aP A).2 i)
    by_cases e : i = (aP A).1
    · rw [if_pos e, e, er]
      exact cSd_fr ha (fun a g1 g2 => wI_ne (by omega))
    · rw [if_neg e]
      obtain ⟨k', hk', e'⟩ := h6.2.2.1 i (by omega)
      have ne := h6.2.2.2.1 i (aP A).1 (by omega) hp
      rw [e', er] at ne
      rw [e']
      have hz := h6.2.2.2.2 i (by omega)
      rw [e'] at hz
      exact cSd_fr hz (fun a g1 g2 => ec a (by omega) (by omega))
theorem c_remember (hn : 239 ≤ n) (hK : cK s t A) (hA : WT (aT A)) : ∃ s' : zS, fX10_remember n (mk s) 1 = some ((), mk s') ∧ frC s s' ∧ (∀ a, a = 68 ∨ a = 69 ∨ a < 62 → a ≠ 1 → s'.1 a = s.1 a) ∧ (∀ a, a ≠ 67 → s'.2.2 a = s.2.2 a) ∧ cK s' t (wtP A (pushP (aP A) (aS A))) := by
  have h6 := hK.2.2.2.2.2.1
  by_cases hp : (aP A).1 < 20
  · obtain ⟨sa, ea, fa, ga, ra, ka⟩ := c_rem58 hn hK hA hp
    refine ⟨sa, ?_, fa, ga, fun a _ => by rw [ra], ?_⟩
    · unfold fX10_remember
      have q := h6.1
      simp (disch := first | omega | assumption | (simp only [wL_1, wL_22, wI_2, wA_2, wQ_1, wQ_21] <;> first | assumption | omega)) only [LIT, LITm, nI_add, n_mul, fa_or, n_31m, n_shl0, n_le, n_lt, n_eq, Option.bind_some, B_K hn, q, hp, ea, ↓reduceIte]
    · unfold pushP
      rw [if_pos hp]
      exact ka
  · have h20 : (aP A).1 = 20 := by have := h6.2.1; omega
    unfold pushP
    rw [if_neg hp]
    have q := h6.1
    rw [h20] at q
    have pre : fX10_remember n (mk s) 1 = fX10_remember_18 n bi_K (mk s) 1 (s.2.2 67 0) (nI 1) := by
      unfold fX10_remember
      simp (disch := first | omega | assumption | (simp only [wL_1, wL_22, wI_2, wA_2, wQ_1, wQ_21] <;> first | assumption | omega)) only [LIT, LITm, nI_add, n_mul, fa_or, n_31m, n_shl0, n_le, n_lt, n_eq, Option.bind_some, B_K hn, q, Nat.reduceEqDiff, Nat.reduceLeDiff, Nat.lt_irrefl, ↓reduceIte]
    rw [pre]
    have hiS : ∀ i, i < 20 → isS (s.2.2 67 i) := fun i hi => by
      obtain ⟨k, hk, e⟩ := h6.2.2.1 i hi
      rw [e]
      exact is_p hk
    refine lp_up (F := fun k (s1 : zS) i => fX10_remember_18 n k (mk s1) 1 (s.2.2 67 0) (nI i)) (N := 20) (P := fun i s1 => 1 ≤ i ∧ s1.1 = s.1 ∧ s1.2.1 = s.2.1 ∧ (∀ a, a ≠ 67 → s1.2.2 a = s.2.2 a) ∧ ∀ j, j < 20 → s1.2.2 67 j = if j + 1 < i then s.2.2 67 (j + 1) else s.2.2 67 j) (Q := fun r => ∃ s' : zS, r = some ((), mk s') ∧ frC s s' ∧ (∀ a, a = 68 ∨ a = 69 ∨ a < 62 → a ≠ 1 → s'.1 a = s.1 a) ∧ (∀ a, a ≠ 67 → s'.2.2 a = s.2.2 a) ∧ cK s' t (wtP A (20, fun i => if i = 19 then aS A else (aP A).2 (i + 1)))) ?_ ?_ 19 bi_K s 1 (by omega) (by unfold bi_K; omega) ⟨by omega, rfl, rfl, fun _ _ => rfl, fun j hj => by rw [if_neg (by omega)]⟩
    · intro k sy i hi hP
      obtain ⟨g1, g2, g3, g4, g5⟩ := hP
      left
      have r1 : sy.2.2 67 i = s.2.2 67 i := by rw [g5 i hi, if_neg (by omega)]
      have hS := hiS i hi
      refine ⟨wQ sy 67 (i - 1) (s.2.2 67 i), ?_, by omega, g2, g3, fun a ha => by rw [wQ_ne ha]; exact g4 a ha, fun j hj => ?_⟩
      · simp (disch := first | omega | assumption | (simp only [wL_1, wL_22, wI_2, wA_2, wQ_1, wQ_21] <;> first | assumption | omega)) only [fX10_remember_18, fX10_remember_18b, LIT, LITm, nI_add, n_mul, fa_or, n_31m, n_shl0, n_le, n_lt, n_eq, Option.bind_some, B_K hn, r1, n_sub, B_wr hn, show ¬ 20 ≤ i by omega, ↓reduceIte]
      · rw [wQ_g]
        by_cases e : j = i - 1
        · rw [if_pos ⟨rfl, e⟩, if_pos (by omega), e, show i - 1 + 1 = i by omega]
        · rw [if_neg (fun h => e h.2), g5 j hj]
          by_cases c : j + 1 < i
          · rw [if_pos c, if_pos (by omega)]
          · rw [if_neg c, if_neg (by omega)]
    · intro k sy hP
      obtain ⟨g1, g2, g3, g4, g5⟩ := hP
      obtain ⟨sz, esz⟩ : ∃ sz : zS, sz = wI (wQ sy 67 19 (s.2.2 67 0)) 1 10 (nI 19) := ⟨_, rfl⟩
      have z2 : ∀ a, a ≠ 67 → sz.2.2 a = s.2.2 a := fun a ha => by rw [esz]; show (wQ sy 67 19 (s.2.2 67 0)).2.2 a = _; rw [wQ_ne ha]; exact g4 a ha
      have z67 : ∀ j, j < 20 → sz.2.2 67 j = if j = 19 then s.2.2 67 0 else s.2.2 67 (j + 1) := by
        intro j hj
        rw [esz]
        show (wQ sy 67 19 (s.2.2 67 0)).2.2 67 j = _
        rw [wQ_g]
        by_cases e : j = 19
        · rw [if_pos ⟨rfl, e⟩, if_pos e]
        · rw [if_neg (fun h => e h.2), if_neg e, g5 j hj, if_pos (by omega)]
      have zi : ∀ a, a ≠ 1 → sz.1 a = s.1 a := fun a ha => by rw [esz, wI_ne ha]; show sy.1 a = _; rw [g2]
      have z1 : ∀ j, j ≠ 10 → sz.1 1 j = s.1 1 j := fun j hj => by rw [esz, wI_at, upd_ne hj]; show sy.1 1 j = _; rw [g2]
      have hKz : cK sz t (wtP A (19, fun i => (aP A).2 (i + 1))) := by
        obtain ⟨h1, h2, h3, h4, h5, h6, h7, h8, h9⟩ := hK
        have ht : t = 6 ∨ t = 29 := by rcases h1 with h | h <;> omega
        refine ⟨by rw [z2 1 (by omega)]; exact h1, by rw [z2 1 (by omega)]; exact h2, cTd_fr h3 (fun a g1 g2 => zi a (by omega)), cSd_fr h4 (fun a g1 g2 => zi a (by omega)), ⟨by rw [z1 8 (by omega)]; exact h5.1, fun g => cSd_fr (h5.2 g) (fun a g1 g2 => zi a (by omega))⟩, ⟨by rw [esz, wI_at, upd_at]; rfl, by show (19 : Nat) ≤ 20; omega, fun i hi => ?_, fun i j hij hj => ?_, fun i hi => ?_⟩, ⟨by rw [z1 1 (by omega)]; exact h7.1, fun i hi => by rw [zi 2 (by omega)]; exact h7.2 i hi⟩, ⟨by rw [zi 3 (by omega)]; exact h8.1, by rw [zi 3 (by omega)]; exact h8.2⟩, ⟨by rw [zi 70 (by omega)]; exact h9.1, by rw [zi 70 (by omega)]; exact h9.2.1, fun i hi => by rw [zi 71 (by omega), zi 72 (by omega), zi 73 (by omega), zi 74 (by omega)]; exact h9.2.2 i hi⟩⟩
        · rw [z67 i hi]
          split
          · exact h6.2.2.1 0 (by omega)
          · exact h6.2.2.1 (i + 1) (by omega)
        · rw [z67 i (by omega), z67 j hj, if_neg (by omega)]
          split
          · exact fun e => h6.2.2.2.1 0 (i + 1) (by omega) (by omega) e.symm
          · exact h6.2.2.2.1 (i + 1) (j + 1) (by omega) (by omega)
        · have hi' : i < 19 := hi
          rw [z67 i (by omega), if_neg (by omega)]
          obtain ⟨k', hk', e'⟩ := h6.2.2.1 (i + 1) (by omega)
          have hz := h6.2.2.2.2 (i + 1) (by omega)
          rw [e'] at hz ⊢
          exact cSd_fr hz (fun a g1 g2 => zi a (by omega))
      obtain ⟨sw, ew, fw, gw, rw', kw⟩ := c_rem58 hn hKz hA (by show (19 : Nat) < 20; omega)
      have h00 := hiS 0 (by omega)
      refine ⟨sw, ?_, frC_t ⟨fun a ha => ⟨zi a (by omega), by rw [esz]; show sy.2.1 a = _; rw [g3], z2 a (by omega)⟩, by rw [z2 1 (by omega)]⟩ fw, fun a ha hb => by rw [gw a ha hb]; exact zi a hb, fun a ha => by rw [rw']; exact z2 a ha, kw⟩
      simp (disch := first | omega | assumption | (simp only [wL_1, wL_22, wI_2, wA_2, wQ_1, wQ_21] <;> first | assumption | omega)) only [fX10_remember_18, fX10_remember_18b, LIT, LITm, nI_add, n_mul, fa_or, n_31m, n_shl0, n_le, n_lt, n_eq, Option.bind_some, B_K hn, B_wr hn, Nat.le_refl, ↓reduceIte, ← esz, ew]
theorem c_undo (hn : 239 ≤ n) (hK : cK s t A) (hA : wfA A) : ((aP A).1 ≠ 0 → ∃ s' : zS, fX10_undo n (mk s) 1 = some (nI ((aP A).1 - 1), mk s') ∧ frC s s' ∧ cK s' t (wtP (wtS A ((aP A).2 ((aP A).1 - 1))) ((aP A).1 - 1, (aP A).2))) ∧ ((aP A).1 = 0 → fX10_undo n (mk s) 1 = some (m1, mk s)) := by
  have h6 := hK.2.2.2.2.2.1
  unfold fX10_undo
  refine ⟨fun h => ?_, fun h => ?_⟩
  · have h20 := h6.2.1
    have f1 : frC s (wI s 1 10 (nI ((aP A).1 - 1))) := ⟨fun a ha => ⟨wI_ne (by omega), rfl, rfl⟩, rfl⟩
    obtain ⟨k, hk, er⟩ := h6.2.2.1 ((aP A).1 - 1) (by omega)
    have hz := h6.2.2.2.2 ((aP A).1 - 1) (by omega)
    rw [er] at hz
    have hz' : cSd (wI s 1 10 (nI ((aP A).1 - 1))).1 (87 + 5 * k) (aT A) ((aP A).2 ((aP A).1 - 1)) := cSd_fr hz (fun a g1 g2 => wI_ne (by omega))
    obtain ⟨sa, ea, fa, ha⟩ := c_copy hn is_52 (is_p hk) (by omega) hA.1 hz'
    have q10 : sa.1 1 10 = nI ((aP A).1 - 1) := by rw [fa.1 1 (by omega), wI_at, upd_at]
    have er2 : sa.2.2 = s.2.2 := by rw [fa.2]; rfl
    refine ⟨sa, ?_, frC_t f1 ⟨fun a ha => ⟨fa.1 a (by omega), by rw [fa.2], by rw [fa.2]⟩, by rw [fa.2]⟩, ?_⟩
    · have q := h6.1
      simp (disch := first | omega | assumption | (simp only [wL_1, wL_22, wI_2, wA_2, wQ_1, wQ_21] <;> first | assumption | omega)) only [LIT, LITm, nI_add, n_mul, fa_or, n_31m, n_shl0, n_le, n_lt, n_eq, Option.bind_some, B_K hn, q, n_sub, wI_at, upd_at, wI_2, er, ea, q10, show 0 < (aP A).1 by omega, ↓reduceIte]
    · obtain ⟨h1, h2, h3, h4, h5, h6, h7, h8, h9⟩ := hK
      have ht : t = 6 ∨ t = 29 := by rcases h1 with h | h <;> omega
      have ec : ∀ a, a ≠ 1 → (a < 52 ∨ 56 < a) → sa.1 a = s.1 a := fun a g1 g2 => by rw [fa.1 a g2, wI_ne g1]
      have e1 : ∀ j, j ≠ 10 → sa.1 1 j = s.1 1 j := fun j g => by rw [fa.1 1 (by omega), wI_at, upd_ne g]
      refine ⟨by rw [er2]; exact h1, by rw [er2]; exact h2, cTd_fr h3 (fun a g1 g2 => ec a (by omega) (by omega)), ha, ⟨by rw [e1 8 (by omega)]; exact h5.1, fun g => cSd_fr (h5.2 g) (fun a g1 g2 => ec a (by omega) (by omega))⟩, ⟨q10, by show (aP A).1 - 1 ≤ 20; omega, by rw [er2]; exact h6.2.2.1, by rw [er2]; exact h6.2.2.2.1, fun i hi => ?_⟩, ⟨by rw [e1 1 (by omega)]; exact h7.1, fun i hi => by rw [ec 2 (by omega) (by omega)]; exact h7.2 i hi⟩, ⟨by rw [ec 3 (by omega) (by omega)]; exact h8.1, by rw [ec 3 (by omega) (by omega)]; exact h8.2⟩, ⟨by rw [ec 70 (by omega) (by omega)]; exact h9.1, by rw [ec 70 (by omega) (by omega)]; exact h9.2.1, fun i hi => by rw [ec 71 (by omega) (by omega), ec 72 (by omega) (by omega), ec 73 (by omega) (by omega), ec 74 (by omega) (by omega)]; exact h9.2.2 i hi⟩⟩
      have hi' : i < (aP A).1 - 1 := hi
      rw [er2]
      obtain ⟨k', hk', e'⟩ := h6.2.2.1 i (by omega)
      have hz2 := h6.2.2.2.2 i (by omega)
      rw [e'] at hz2 ⊢
      exact cSd_fr hz2 (fun a g1 g2 => ec a (by omega) (by omega))
  · have q := h6.1
    rw [h] at q
    simp (disch := first | omega | assumption | (simp only [wL_1, wL_22, wI_2, wA_2, wQ_1, wQ_21] <;> first | assumption | omega)) only [LIT, LITm, nI_add, n_mul, fa_or, n_31m, n_shl0, n_le, n_lt, n_eq, Option.bind_some, B_K hn, q, Nat.lt_irrefl, ↓reduceIte]
theorem c_keep (hn : 239 ≤ n) (hK : cK s t A) (hA : wfA A) : ∃ s' : zS, fX10_keep n (mk s) 1 = some ((aS A).1 0, mk s') ∧ frC s s' ∧ cK s' t (wtI A (true, aS A)) := by
  obtain ⟨h1, h2, h3, h4, h5, h6, h7, h8, h9⟩ := hK
  have ht : t = 6 ∨ t = 29 := by rcases h1 with h | h <;> omega
  obtain ⟨sa, ea, fa, ha⟩ := c_copy hn is_62 is_52 (by omega) hA.1 h4
  have w8 : sF n (mk sa) 1 10 8 .boolean (.int (1 : Int32)) = some (mk (wI sa 1 8 (nI 1))) := (B_K hn).2.2.2.2.2.2.2.2.2.2.2.2.2.2.1 sa
  have er2 : (wI sa 1 8 (nI 1)).2.2 = s.2.2 := by show sa.2.2 = _; rw [fa.2]
  have ec : ∀ a, a ≠ 1 → (a < 62 ∨ 66 < a) → (wI sa 1 8 (nI 1)).1 a = s.1 a := fun a g1 g2 => by rw [wI_ne g1]; exact fa.1 a g2
  have e1 : ∀ j, j ≠ 8 → (wI sa 1 8 (nI 1)).1 1 j = s.1 1 j := fun j g => by rw [wI_at, upd_ne g, fa.1 1 (by omega)]
  have d0 : (wI sa 1 8 (nI 1)).1 52 0 = (aS A).1 0 := by rw [ec 52 (by omega) (by omega)]; exact h4.1.1
  refine ⟨wI sa 1 8 (nI 1), ?_, ⟨fun a ha => ⟨ec a (by omega) (by omega), by show sa.2.1 a = _; rw [fa.2], by rw [er2]⟩, by rw [er2]⟩, by rw [er2]; exact h1, by rw [er2]; exact h2, cTd_fr h3 (fun a g1 g2 => ec a (by omega) (by omega)), cSd_fr h4 (fun a g1 g2 => ec a (by omega) (by omega)), ⟨by rw [wI_at, upd_at]; rfl, fun _ => cSd_fr ha (fun a g1 g2 => wI_ne (by omega))⟩, ⟨by rw [e1 10 (by omega)]; exact h6.1, h6.2.1, by rw [er2]; exact h6.2.2.1, by rw [er2]; exact h6.2.2.2.1, fun i hi => ?_⟩, ⟨by rw [e1 1 (by omega)]; exact h7.1, fun i hi => by rw [ec 2 (by omega) (by omega)]; exact h7.2 i hi⟩, ⟨by rw [ec 3 (by omega) (by omega)]; exact h8.1, by rw [ec 3 (by omega) (by omega)]; exact h8.2⟩, ⟨by rw [ec 70 (by omega) (by omega)]; exact h9.1, by rw [ec 70 (by omega) (by omega)]; exact h9.2.1, fun i hi => by rw [ec 71 (by omega) (by omega), ec 72 (by omega) (by omega), ec 73 (by omega) (by omega), ec 74 (by omega) (by omega)]; exact h9.2.2 i hi⟩⟩
  · unfold fX10_keep
    rw [bnd_s (v := ()) (by simp only [B_K hn]), bnd_s (v := 62) (by simp only [B_K hn]), bnd_s (v := 52) (by simp only [B_K hn]), bnd_s ea, bnd_s w8]
    simp (disch := first | omega | assumption | (simp only [wL_1, wL_22, wI_2, wA_2, wQ_1, wQ_21] <;> first | assumption | omega)) only [LIT, LITm, nI_add, n_mul, fa_or, n_31m, n_shl0, n_le, n_lt, n_eq, Option.bind_some, B_K hn, B_s hn is_52, d0]
  · have hi' : i < (aP A).1 := hi
    rw [er2]
    obtain ⟨k', hk', e'⟩ := h6.2.2.1 i (by have := h6.2.1; omega)
    have hz2 := h6.2.2.2.2 i hi'
    rw [e'] at hz2 ⊢
    exact cSd_fr hz2 (fun a g1 g2 => ec a (by omega) (by omega))
theorem c_back (hn : 239 ≤ n) (hK : cK s t A) (hA : wfA A) : ((aI A).1 = true → ∃ s' : zS, fX10_back n (mk s) 1 = some ((aI A).2.1 0, mk s') ∧ frC s s' ∧ cK s' t (wtP (wtS A (aI A).2) (0, (aP A).2))) ∧ ((aI A).1 = false → fX10_back n (mk s) 1 = some (m1, mk s)) := by
  have h5 := hK.2.2.2.2.1
  unfold fX10_back
  refine ⟨fun h => ?_, fun h => ?_⟩
  · have hz := h5.2 h
    obtain ⟨sa, ea, fa, ha⟩ := c_copy hn is_52 is_62 (by omega) hA.1 hz
    have kS : cK sa t (wtS A (aI A).2) := cK_nw hK (fun a j h1 h2 h3 => by rw [fa.1 a (by omega)]) (fun a _ => by rw [fa.2]) ha
    have q := h5.1
    rw [h] at q
    have d0 : (wI sa 1 10 (nI 0)).1 52 0 = (aI A).2.1 0 := by rw [wI_ne (by omega)]; exact ha.1.1
    refine ⟨wI sa 1 10 (nI 0), ?_, ⟨fun a g => ⟨by rw [wI_ne (by omega)]; exact fa.1 a (by omega), by show sa.2.1 a = _; rw [fa.2], by show sa.2.2 a = _; rw [fa.2]⟩, by show sa.2.2 1 14 = _; rw [fa.2]⟩, cK_p0 kS⟩
    simp (disch := first | omega | assumption | (simp only [wL_1, wL_22, wI_2, wA_2, wQ_1, wQ_21] <;> first | assumption | omega)) only [LIT, LITm, nI_add, n_mul, fa_or, n_31m, n_shl0, n_le, n_lt, n_eq, Option.bind_some, B_K hn, B_s hn is_52, q, ea, d0, Bool.toNat_true, Nat.reduceEqDiff, Nat.reduceLeDiff, not_false_eq_true, ↓reduceIte]
  · have q := h5.1
    rw [h] at q
    simp (disch := first | omega | assumption | (simp only [wL_1, wL_22, wI_2, wA_2, wQ_1, wQ_21] <;> first | assumption | omega)) only [LIT, LITm, nI_add, n_mul, fa_or, n_31m, n_shl0, n_le, n_lt, n_eq, Option.bind_some, B_K hn, q, Bool.toNat_false, not_true_eq_false, ↓reduceIte]
end Ed
