/-! ===== what was seen and counts: both sides ===== -/
theorem n_decr {a : Nat} (h : 0 < a) : nI a + m1 = nI (a - 1) := by
  have e : nI a = nI (a - 1) + nI 1 := by rw [nI_add, Nat.sub_add_cancel h]
  rw [e, Int32.add_assoc, show nI 1 + m1 = 0 by decide, Int32.add_zero]
theorem n_dec0 : nI 0 + m1 = m1 := by decide
theorem n_sub1 : nI 0 - nI 1 = m1 := by decide
abbrev zE : Type := Nat × Int32 × (Nat → Nat → Nat)
section Sn
variable {n t w d k : Nat} {s : zS} {T : zT} {E : zE} {at' : Nat → Nat}
def knV (E : zE) : Nat := if E.2.1 = m1 then E.1 else E.2.1.toNatClampNeg
theorem knV_c (h : wE T E) : knV E ≤ E.1 ∧ (E.2.1 = m1 ∧ knV E = E.1 ∨ E.2.1 ≠ m1 ∧ E.2.1 = nI (knV E)) := by
  have h24 := h.1
  unfold knV
  rcases h.2.1 with e | ⟨k, hk, e⟩
  · rw [if_pos e]
    exact ⟨Nat.le_refl _, Or.inl ⟨e, rfl⟩⟩
  · have ne : E.2.1 ≠ m1 := by
      rw [e]
      intro q
      rw [n_m1 (by omega)] at q
      exact q
    rw [if_neg ne, e, cl_n (by omega)]
    exact ⟨hk, Or.inr ⟨by rw [← e]; exact ne, rfl⟩⟩
theorem c_knownSize (hn : 239 ≤ n) (hS : cSn s E) (hE : wE T E) : fX4_knownSize n (mk s) 70 = some (nI (knV E), mk s) := by
  unfold fX4_knownSize
  rcases (knV_c hE).2 with ⟨e1, e2⟩ | ⟨e1, e2⟩
  · simp (disch := first | omega | assumption | (simp only [wL_1, wL_22, wI_2, wA_2, wQ_1, wQ_21] <;> first | assumption | omega)) only [LIT, LITm, nI_add, n_mul, fa_or, n_31m, n_shl0, n_le, n_lt, n_eq, Option.bind_some, B_sn hn, hS.1, hS.2.1, e1, e2, not_true_eq_false, ↓reduceIte]
  · simp (disch := first | omega | assumption | (simp only [wL_1, wL_22, wI_2, wA_2, wQ_1, wQ_21] <;> first | assumption | omega)) only [LIT, LITm, nI_add, n_mul, fa_or, n_31m, n_shl0, n_le, n_lt, n_eq, Option.bind_some, B_sn hn, hS.1, hS.2.1, e1, not_false_eq_true, ↓reduceIte]
    rw [← e2]
theorem m_knownBy (hn : 239 ≤ n) (hS : mSn s E) (hE : wE T E) : fX11_knownBy n (mk s) 187 = some (nI (knV E), mk s) := by
  have h24 := hE.1
  have hk := (knV_c hE).1
  unfold fX11_knownBy
  rcases (knV_c hE).2 with ⟨e1, e2⟩ | ⟨e1, e2⟩
  · simp (disch := first | omega | assumption | (simp only [wL_1, wL_22, wI_2, wA_2, wQ_1, wQ_21] <;> first | assumption | omega)) only [LIT, LITm, nI_add, n_mul, fa_or, n_31m, n_shl0, n_le, n_lt, n_eq, Option.bind_some, B_m hn, hS.1, hS.2.1, e1, e2, n_m1le0, if_false, ↓reduceIte]
  · have e3 : s.1 187 85 = nI (knV E) := by rw [hS.2.1, ← e2]
    simp (disch := first | omega | assumption | (simp only [wL_1, wL_22, wI_2, wA_2, wQ_1, wQ_21] <;> first | assumption | omega)) only [LIT, LITm, nI_add, n_mul, fa_or, n_31m, n_shl0, n_le, n_lt, n_eq, Option.bind_some, B_m hn, e3, Nat.zero_le, ↓reduceIte]
/-- who counts, so many asked from the last one on -/
def cuV (E : zE) : Nat → Nat → Bool
  | 0, i => decide (i < knV E)
  | k + 1, i => if cuV E k (knV E - 1 - k) = true ∧ E.2.2 0 (knV E - 1 - k) = 2 ∧ i = E.2.2 2 (knV E - 1 - k) then false else cuV E k i
def CV (E : zE) : Nat → Bool := cuV E (knV E)
theorem cu_out {i : Nat} (h : knV E ≤ i) : ∀ k, cuV E k i = false
  | 0 => decide_eq_false (by omega)
  | k + 1 => by
    unfold cuV
    split
    · rfl
    · exact cu_out h k
theorem cu_keep (hE : wE T E) {i : Nat} (hk : k < knV E) (hi : knV E - 1 - k ≤ i) : cuV E (k + 1) i = cuV E k i := by
  show (if _ then false else cuV E k i) = cuV E k i
  rw [if_neg]
  rintro ⟨-, h2, h3⟩
  have hle := (knV_c hE).1
  rcases hE.2.2 (knV E - 1 - k) (by omega) with h | h
  · omega
  · omega
/-- the count that a loop from the last one on has come to -/
def idV (K k : Nat) : Int32 := if k < K then nI (K - 1 - k) else m1
theorem id_0 {K : Nat} : nI K - nI 1 = idV K 0 := by
  unfold idV
  by_cases h : 0 < K
  · rw [if_pos h, n_sub (by omega)]
    rfl
  · rw [if_neg h, show K = 0 by omega]
    exact n_sub1
theorem id_s {K : Nat} (h : k < K) : nI (K - 1 - k) + m1 = idV K (k + 1) := by
  unfold idV
  by_cases q : k + 1 < K
  · rw [if_pos q, n_decr (by omega)]
    congr 1
  · rw [if_neg q, show K - 1 - k = 0 by omega]
    exact n_dec0
def lsD (E : zE) (L k : Nat) : Prop := L ≤ 60 ∧ ∀ i, knV E - k ≤ i → i < knV E → cuV E k i = true → E.2.2 0 i ≠ 2 → E.2.2 1 i ≤ L
def frG (s s' : zS) : Prop := (∀ a j, a ≠ 75 → ¬ (a = 70 ∧ j = 7) → s'.1 a j = s.1 a j) ∧ s'.2 = s.2
theorem c_sn_G {s' : zS} (hS : cSn s E) (f : frG s s') : cSn s' E := by
  refine ⟨?_, ?_, fun i hi => ?_⟩
  · rw [f.1 70 5 (by omega) (by omega)]; exact hS.1
  · rw [f.1 70 6 (by omega) (by omega)]; exact hS.2.1
  · rw [f.1 71 i (by omega) (by omega), f.1 72 i (by omega) (by omega), f.1 73 i (by omega) (by omega), f.1 74 i (by omega) (by omega)]
    exact hS.2.2 i hi
theorem b_ne0 {b : Bool} : (nI b.toNat = nI 0) = (b = false) := by cases b <;> simp only [Bool.toNat_true, Bool.toNat_false, n_eq (show 1 < 2147483648 by omega) (show 0 < 2147483648 by omega), eq_self, reduceCtorEq, Nat.succ_ne_zero]
theorem c_sift (hn : 239 ≤ n) (hS : cSn s E) (hE : wE T E) : ∃ (s' : zS) (L : Nat), fX4_sift n (mk s) 70 = some ((), mk s') ∧ frG s s' ∧ (∀ j, j < 24 → s'.1 75 j = nI (CV E j).toNat) ∧ s'.1 70 7 = nI L ∧ lsD E L (knV E) := by
  have h24 := hE.1
  have hle := (knV_c hE).1
  have n24 : (24 : Int32) = nI 24 := rfl
  unfold fX4_sift
  simp (disch := first | omega | assumption | (simp only [wL_1, wL_22, wI_2, wA_2, wQ_1, wQ_21] <;> first | assumption | omega)) only [LIT, LITm, nI_add, n_mul, fa_or, n_31m, n_shl0, n_le, n_lt, n_eq, Option.bind_some, B_sn hn, c_knownSize hn hS hE]
  have f0 : frG s (wI s 70 7 (nI 0)) := ⟨fun a j _ h2 => by rw [wI_g, if_neg h2], rfl⟩
  refine lp_up (F := fun f (s1 : zS) i => fX4_sift_12 n f (mk s1) 70 (nI (knV E)) (nI i)) (N := 24) (P := fun i s1 => frG s s1 ∧ (∀ j, j < i → s1.1 75 j = nI (cuV E 0 j).toNat) ∧ s1.1 70 7 = nI 0) (Q := fun r => ∃ (s' : zS) (L : Nat), r = some ((), mk s') ∧ frG s s' ∧ (∀ j, j < 24 → s'.1 75 j = nI (CV E j).toNat) ∧ s'.1 70 7 = nI L ∧ lsD E L (knV E)) ?_ ?_ 24 bi_K _ 0 (by omega) (by unfold bi_K; omega) ⟨f0, fun j h => absurd h (Nat.not_lt_zero j), by rw [wI_at, upd_at]⟩
  · intro f s1 i hi hP
    left
    obtain ⟨p1, p2, p3⟩ := hP
    refine ⟨wI s1 75 i (nI (cuV E 0 i).toNat), ?_, ⟨fun a j h1 h2 => by rw [wI_ne h1]; exact p1.1 a j h1 h2, p1.2⟩, fun j hj => ?_, by rw [wI_ne (by omega)]; exact p3⟩
    · show fX4_sift_12b n (fX4_sift_12 n f) (mk s1) 70 (nI (knV E)) (nI i) = _
      unfold fX4_sift_12b fX4_sift_33
      rw [n24]
      by_cases q : i < knV E
      · rw [show cuV E 0 i = true from decide_eq_true q]
        simp (disch := first | omega | assumption | (simp only [wL_1, wL_22, wI_2, wA_2, wQ_1, wQ_21] <;> first | assumption | omega)) only [LIT, LITm, nI_add, n_mul, fa_or, n_31m, n_shl0, n_le, n_lt, n_eq, Option.bind_some, B_sn hn, nar_b (show 1 ≤ 1 by omega), Bool.toNat_true, show ¬ 24 ≤ i by omega, show ¬ knV E ≤ i by omega, ↓reduceIte]
      · rw [show cuV E 0 i = false from decide_eq_false q]
        simp (disch := first | omega | assumption | (simp only [wL_1, wL_22, wI_2, wA_2, wQ_1, wQ_21] <;> first | assumption | omega)) only [LIT, LITm, nI_add, n_mul, fa_or, n_31m, n_shl0, n_le, n_lt, n_eq, Option.bind_some, B_sn hn, nar_b (show 0 ≤ 1 by omega), Bool.toNat_false, show ¬ 24 ≤ i by omega, show knV E ≤ i by omega, ↓reduceIte]
    · by_cases q : j = i
      · rw [q, wI_at, upd_at]
      · rw [wI_at, upd_ne q]
        exact p2 j (by omega)
  · intro f s1 hP
    obtain ⟨p1, p2, p3⟩ := hP
    have e0 : fX4_sift_12 n (f + 1) (mk s1) 70 (nI (knV E)) (nI 24) = fX4_sift_44 n bi_K (mk s1) 70 (idV (knV E) 0) := by
      show fX4_sift_12b n (fX4_sift_12 n f) (mk s1) 70 (nI (knV E)) (nI 24) = _
      unfold fX4_sift_12b
      rw [n24]
      simp (disch := first | omega | assumption | (simp only [wL_1, wL_22, wI_2, wA_2, wQ_1, wQ_21] <;> first | assumption | omega)) only [LIT, LITm, nI_add, n_mul, fa_or, n_31m, n_shl0, n_le, n_lt, n_eq, Option.bind_some, id_0, Nat.le_refl, ↓reduceIte]
    show ∃ (s' : zS) (L : Nat), fX4_sift_12 n (f + 1) (mk s1) 70 (nI (knV E)) (nI 24) = some ((), mk s') ∧ _
    rw [e0]
    refine lp_up (F := fun f (q : zS × Nat) i => fX4_sift_44 n f (mk q.1) 70 (idV (knV E) i)) (N := knV E) (P := fun i q => frG s q.1 ∧ (∀ j, j < 24 → q.1.1 75 j = nI (cuV E i j).toNat) ∧ q.1.1 70 7 = nI q.2 ∧ lsD E q.2 i) (Q := fun r => ∃ (s' : zS) (L : Nat), r = some ((), mk s') ∧ frG s s' ∧ (∀ j, j < 24 → s'.1 75 j = nI (CV E j).toNat) ∧ s'.1 70 7 = nI L ∧ lsD E L (knV E)) ?_ ?_ (knV E) bi_K (s1, 0) 0 (by omega) (by unfold bi_K; omega) ⟨p1, p2, p3, by omega, fun i h1 h2 => by omega⟩
    · rintro f ⟨s2, L⟩ k hk ⟨g1, g2, g3, g4⟩
      have g1 : frG s s2 := g1
      have g2 : ∀ j, j < 24 → s2.1 75 j = nI (cuV E k j).toNat := g2
      have g3 : s2.1 70 7 = nI L := g3
      have g4 : lsD E L k := g4
      left
      obtain ⟨i, ei⟩ : ∃ i, i = knV E - 1 - k := ⟨_, rfl⟩
      have hi : i < E.1 := by omega
      have c := g2 i (by omega)
      obtain ⟨r1, r2, r3, r4⟩ := (c_sn_G hS g1).2.2 i hi
      have is := id_s hk
      rw [← ei] at is
      have lt0 : (nI i < nI 0) = False := n_lt0 (by omega)
      have up : cuV E (k + 1) = fun j => if cuV E k i = true ∧ E.2.2 0 i = 2 ∧ j = E.2.2 2 i then false else cuV E k j := by
        funext j
        rw [ei]
        rfl
      show ∃ q : zS × Nat, fX4_sift_44 n (f + 1) (mk s2) 70 (idV (knV E) k) = _ ∧ _
      have e1 : fX4_sift_44 n (f + 1) (mk s2) 70 (idV (knV E) k) = fX4_sift_44b n (fX4_sift_44 n f) (mk s2) 70 (nI i) := by
        unfold idV
        rw [if_pos hk, ← ei]
        rfl
      rw [e1]
      unfold fX4_sift_44b fX4_sift_95 fX4_sift_112
      have lsk : ∀ L', L ≤ L' → L' ≤ 60 → (cuV E k i = true → E.2.2 0 i ≠ 2 → E.2.2 1 i ≤ L') → lsD E L' (k + 1) := by
        intro L' h1 h2 h3
        refine ⟨h2, fun j q1 q2 q3 q4 => ?_⟩
        rw [cu_keep hE hk (by omega)] at q3
        by_cases q : j = i
        · rw [q] at q3 q4 ⊢
          exact h3 q3 q4
        · have := g4.2 j (by omega) q2 q3 q4
          omega
      cases ec : cuV E k i with
      | false =>
        rw [ec] at c
        refine ⟨(s2, L), ?_, g1, fun j hj => ?_, g3, lsk L (Nat.le_refl _) g4.1 (fun h => by rw [ec] at h; cases h)⟩
        · simp (disch := first | omega | assumption | (simp only [wL_1, wL_22, wI_2, wA_2, wQ_1, wQ_21] <;> first | assumption | omega)) only [LIT, LITm, nI_add, n_mul, fa_or, n_31m, n_shl0, n_le, n_lt, n_eq, Option.bind_some, B_sn hn, c, lt0, is, Bool.toNat_false, not_true_eq_false, if_false, ↓reduceIte]
        · rw [g2 j hj, up, ec]
          simp only [Bool.false_eq_true, false_and, if_false]
      | true =>
        rw [ec] at c
        by_cases q : E.2.2 0 i = 2
        · rcases hE.2.2 i hi with h | ⟨-, -, h, -⟩
          · omega
          rw [q] at r1
          refine ⟨(wI s2 75 (E.2.2 2 i) (nI 0), L), ?_, ⟨fun a j h1 h2 => by show (wI s2 75 _ _).1 a j = _; rw [wI_ne h1]; exact g1.1 a j h1 h2, g1.2⟩, fun j hj => ?_, by show (wI s2 75 _ _).1 70 7 = _; rw [wI_ne (by omega)]; exact g3, lsk L (Nat.le_refl _) g4.1 (fun _ h => absurd q h)⟩
          · simp (disch := first | omega | assumption | (simp only [wL_1, wL_22, wI_2, wA_2, wQ_1, wQ_21] <;> first | assumption | omega)) only [LIT, LITm, nI_add, n_mul, fa_or, n_31m, n_shl0, n_le, n_lt, n_eq, Option.bind_some, B_sn hn, c, lt0, is, r1, r3, nar_b (show 0 ≤ 1 by omega), Bool.toNat_true, Nat.reduceEqDiff, Nat.reduceLeDiff, not_true_eq_false, not_false_eq_true, show ¬ i ≤ E.2.2 2 i by omega, if_false, ↓reduceIte]
          · show (wI s2 75 _ _).1 75 j = _
            rw [up, ec, q]
            by_cases e : j = E.2.2 2 i
            · rw [e, wI_at, upd_at]
              simp only [true_and, if_true, Bool.toNat_false]
            · rw [wI_at, upd_ne e, g2 j hj]
              simp only [e, and_false, if_false]
        · rcases hE.2.2 i hi with h | ⟨h, -⟩
          · have hd : E.2.2 1 i ≤ 60 := h.2.2.1
            have k2 : (nI (E.2.2 0 i) = nI 2) = False := by
              rw [n_eq (by omega) (by omega)]
              simp [q]
            have g60 := g4.1
            refine ⟨(wI s2 70 7 (nI (if L < E.2.2 1 i then E.2.2 1 i else L)), if L < E.2.2 1 i then E.2.2 1 i else L), ?_, ⟨fun a j h1 h2 => by show (wI s2 70 7 _).1 a j = _; rw [wI_g, if_neg h2]; exact g1.1 a j h1 h2, g1.2⟩, fun j hj => ?_, by show (wI s2 70 7 _).1 70 7 = _; rw [wI_at, upd_at], lsk _ (by split <;> omega) (by split <;> omega) (fun _ _ => by split <;> omega)⟩
            · by_cases q2 : L < E.2.2 1 i
              · rw [if_pos q2]
                simp (disch := first | omega | assumption | (simp only [wL_1, wL_22, wI_2, wA_2, wQ_1, wQ_21] <;> first | assumption | omega)) only [LIT, LITm, nI_add, n_mul, fa_or, n_31m, n_shl0, n_le, n_lt, n_eq, Option.bind_some, B_sn hn, c, lt0, is, r1, r2, g3, q, q2, Bool.toNat_true, Nat.reduceEqDiff, Nat.reduceLeDiff, not_false_eq_true, if_false, ↓reduceIte]
              · rw [if_neg q2]
                simp (disch := first | omega | assumption | (simp only [wL_1, wL_22, wI_2, wA_2, wQ_1, wQ_21] <;> first | assumption | omega)) only [LIT, LITm, nI_add, n_mul, fa_or, n_31m, n_shl0, n_le, n_lt, n_eq, Option.bind_some, B_sn hn, c, lt0, is, r1, r2, g3, q, q2, Bool.toNat_true, Nat.reduceEqDiff, Nat.reduceLeDiff, not_false_eq_true, if_false, ↓reduceIte]
            · show (wI s2 70 7 _).1 75 j = _
              rw [wI_ne (by omega), g2 j hj, up]
              simp only [q, false_and, and_false, if_false]
          · exact absurd h q
    · rintro f ⟨s2, L⟩ ⟨g1, g2, g3, g4⟩
      refine ⟨s2, L, ?_, g1, g2, g3, g4⟩
      show fX4_sift_44b n (fX4_sift_44 n f) (mk s2) 70 (idV (knV E) (knV E)) = _
      unfold fX4_sift_44b idV
      rw [if_neg (Nat.lt_irrefl _)]
      simp (disch := first | omega | assumption | (simp only [wL_1, wL_22, wI_2, wA_2, wQ_1, wQ_21] <;> first | assumption | omega)) only [LIT, LITm, nI_add, n_mul, fa_or, n_31m, n_shl0, n_le, n_lt, n_eq, Option.bind_some, n_m1lt, if_true, ↓reduceIte]
end Sn
