/-! ===== whether what counts is so: both sides ===== -/
section Io
variable {n t w d k : Nat} {s : zS} {T : zT} {E : zE} {pl : Nat → Nat}
/-- what is seen there is so on a day, if walkers are at such places -/
def so1 (E : zE) (d : Nat) (pl : Nat → Nat) (i : Nat) : Prop := CV E i = true → E.2.2 0 i ≠ 2 → E.2.2 1 i = d → (pl (E.2.2 2 i) = E.2.2 3 i ↔ E.2.2 0 i = 0)
def soP (E : zE) (d : Nat) (pl : Nat → Nat) : Prop := ∀ i, so1 E d pl i
theorem so_out {i : Nat} (h : knV E ≤ i) : so1 E d pl i := fun q => by
  unfold CV at q
  rw [cu_out h] at q
  cases q
theorem c_isSo (hn : 239 ≤ n) (hS : cSn s E) (hE : wE T E) (hW : WT T) (hC : ∀ j, j < 24 → s.1 75 j = nI (CV E j).toNat) (hp : ∀ v, v < T 0 2 → s.1 60 v = nI (pl v) ∧ pl v < 7) (hd : d ≤ 60) : ∃ b : Bool, (b = true ↔ soP E d pl) ∧ fX4_isSo n (mk s) 70 (nI d) 60 = some (nI b.toNat, mk s) := by
  have h24 := hE.1
  have h0 := hW.1
  have hle := (knV_c hE).1
  unfold fX4_isSo
  simp only [B_sn hn, Option.bind_some, LIT]
  refine lp_up (F := fun f (_ : Unit) i => fX4_isSo_2 n f (mk s) 70 (nI d) 60 (nI i)) (N := E.1) (P := fun i _ => ∀ j, j < i → so1 E d pl j) (Q := fun r => ∃ b : Bool, (b = true ↔ soP E d pl) ∧ r = some (nI b.toNat, mk s)) ?_ ?_ E.1 bi_K () 0 (by omega) (by unfold bi_K; omega) (fun j h => absurd h (Nat.not_lt_zero j))
  · intro f _ i hi hP
    obtain ⟨r1, r2, r3, r4⟩ := hS.2.2 i hi
    have c := hC i (by omega)
    show (∃ s', fX4_isSo_2b n (fX4_isSo_2 n f) (mk s) 70 (nI d) 60 (nI i) = _ ∧ _) ∨ ∃ b : Bool, _ ∧ fX4_isSo_2b n (fX4_isSo_2 n f) (mk s) 70 (nI d) 60 (nI i) = _
    have nx : so1 E d pl i → ∀ j, j < i + 1 → so1 E d pl j := fun h j hj => by
      by_cases q : j = i
      · rw [q]; exact h
      · exact hP j (by omega)
    cases ec : CV E i with
    | false =>
      rw [ec] at c
      left
      refine ⟨(), ?_, nx (fun h => by rw [ec] at h; cases h)⟩
      unfold fX4_isSo_2b fX4_isSo_84
      simp (disch := first | omega | assumption | (simp only [wL_1, wL_22, wI_2, wA_2, wQ_1, wQ_21] <;> first | assumption | omega)) only [LIT, LITm, nI_add, n_mul, fa_or, n_31m, n_shl0, n_le, n_lt, n_eq, Option.bind_some, B_sn hn, hS.1, c, Bool.toNat_false, show ¬ E.1 ≤ i by omega, ↓reduceIte]
    | true =>
      rw [ec] at c
      by_cases q : E.2.2 0 i = 2
      · left
        refine ⟨(), ?_, nx (fun _ h => absurd q h)⟩
        rw [q] at r1
        unfold fX4_isSo_2b fX4_isSo_84
        simp (disch := first | omega | assumption | (simp only [wL_1, wL_22, wI_2, wA_2, wQ_1, wQ_21] <;> first | assumption | omega)) only [LIT, LITm, nI_add, n_mul, fa_or, n_31m, n_shl0, n_le, n_lt, n_eq, Option.bind_some, B_sn hn, hS.1, c, r1, Bool.toNat_true, Nat.reduceEqDiff, Nat.reduceLeDiff, show ¬ E.1 ≤ i by omega, ↓reduceIte]
      · rcases hE.2.2 i hi with ⟨h1, h2, h3, h4, h5⟩ | ⟨h, -⟩
        · by_cases q1 : E.2.2 1 i = d
          · obtain ⟨a1, a2⟩ := hp _ h4
            have key : ∀ (u v : Nat), u ≤ 1 → v ≤ 1 → (u = 1 ↔ pl (E.2.2 2 i) = E.2.2 3 i) → (v = 1 ↔ E.2.2 0 i = 0) → fX4_isSo_2b n (fX4_isSo_2 n f) (mk s) 70 (nI d) 60 (nI i) = if u = v then fX4_isSo_2 n f (mk s) 70 (nI d) 60 (nI (i + 1)) else some (nI 0, mk s) := by
              intro u v hu hv e1 e2
              unfold fX4_isSo_2b fX4_isSo_61 fX4_isSo_79 fX4_isSo_84
              by_cases p1 : pl (E.2.2 2 i) = E.2.2 3 i
              · have u1 := e1.mpr p1
                by_cases p2 : E.2.2 0 i = 0
                · have v1 := e2.mpr p2
                  rw [if_pos (show u = v by omega)]
                  rw [p2] at r1
                  simp (disch := first | omega | assumption | (simp only [wL_1, wL_22, wI_2, wA_2, wQ_1, wQ_21] <;> first | assumption | omega)) only [LIT, LITm, nI_add, n_mul, fa_or, n_31m, n_shl0, n_le, n_lt, n_eq, Option.bind_some, B_sn hn, B_s hn is_57, hS.1, c, r1, r2, r3, r4, a1, q1, p1, Bool.toNat_true, Nat.reduceEqDiff, Nat.reduceLeDiff, not_true_eq_false, show ¬ E.1 ≤ i by omega, ↓reduceIte]
                · have v1 : v ≠ 1 := fun h => p2 (e2.mp h)
                  rw [if_neg (show ¬ u = v by omega)]
                  simp (disch := first | omega | assumption | (simp only [wL_1, wL_22, wI_2, wA_2, wQ_1, wQ_21] <;> first | assumption | omega)) only [LIT, LITm, nI_add, n_mul, fa_or, n_31m, n_shl0, n_le, n_lt, n_eq, Option.bind_some, B_sn hn, B_s hn is_57, hS.1, c, r1, r2, r3, r4, a1, q, q1, p1, p2, Bool.toNat_true, Nat.reduceEqDiff, Nat.reduceLeDiff, not_true_eq_false, not_false_eq_true, show ¬ E.1 ≤ i by omega, ↓reduceIte]
              · have u1 : u ≠ 1 := fun h => p1 (e1.mp h)
                by_cases p2 : E.2.2 0 i = 0
                · have v1 := e2.mpr p2
                  rw [if_neg (show ¬ u = v by omega)]
                  rw [p2] at r1
                  simp (disch := first | omega | assumption | (simp only [wL_1, wL_22, wI_2, wA_2, wQ_1, wQ_21] <;> first | assumption | omega)) only [LIT, LITm, nI_add, n_mul, fa_or, n_31m, n_shl0, n_le, n_lt, n_eq, Option.bind_some, B_sn hn, B_s hn is_57, hS.1, c, r1, r2, r3, r4, a1, q1, p1, Bool.toNat_true, Nat.reduceEqDiff, Nat.reduceLeDiff, not_true_eq_false, not_false_eq_true, show ¬ E.1 ≤ i by omega, ↓reduceIte]
                · have v1 : v ≠ 1 := fun h => p2 (e2.mp h)
                  rw [if_pos (show u = v by omega)]
                  simp (disch := first | omega | assumption | (simp only [wL_1, wL_22, wI_2, wA_2, wQ_1, wQ_21] <;> first | assumption | omega)) only [LIT, LITm, nI_add, n_mul, fa_or, n_31m, n_shl0, n_le, n_lt, n_eq, Option.bind_some, B_sn hn, B_s hn is_57, hS.1, c, r1, r2, r3, r4, a1, q, q1, p1, p2, Bool.toNat_true, Nat.reduceEqDiff, Nat.reduceLeDiff, not_true_eq_false, not_false_eq_true, show ¬ E.1 ≤ i by omega, ↓reduceIte]
            have k2 := key (if pl (E.2.2 2 i) = E.2.2 3 i then 1 else 0) (if E.2.2 0 i = 0 then 1 else 0) (by split <;> omega) (by split <;> omega) (by split <;> simp_all) (by split <;> simp_all)
            by_cases g : pl (E.2.2 2 i) = E.2.2 3 i ↔ E.2.2 0 i = 0
            · left
              refine ⟨(), ?_, nx (fun _ _ _ => g)⟩
              rw [k2, if_pos]
              by_cases p1 : pl (E.2.2 2 i) = E.2.2 3 i
              · rw [if_pos p1, if_pos (g.mp p1)]
              · rw [if_neg p1, if_neg (fun h => p1 (g.mpr h))]
            · right
              refine ⟨false, ⟨fun h => (by cases h), fun h => absurd (h i ec q q1) g⟩, ?_⟩
              rw [k2, if_neg]
              · rfl
              · intro e
                apply g
                by_cases p1 : pl (E.2.2 2 i) = E.2.2 3 i
                · rw [if_pos p1] at e
                  refine ⟨fun _ => ?_, fun _ => p1⟩
                  refine Classical.byContradiction fun p2 => ?_
                  rw [if_neg p2] at e
                  cases e
                · rw [if_neg p1] at e
                  refine ⟨fun h => absurd h p1, fun p2 => ?_⟩
                  rw [if_pos p2] at e
                  cases e
          · left
            refine ⟨(), ?_, nx (fun _ _ h => absurd h q1)⟩
            unfold fX4_isSo_2b fX4_isSo_84
            simp (disch := first | omega | assumption | (simp only [wL_1, wL_22, wI_2, wA_2, wQ_1, wQ_21] <;> first | assumption | omega)) only [LIT, LITm, nI_add, n_mul, fa_or, n_31m, n_shl0, n_le, n_lt, n_eq, Option.bind_some, B_sn hn, hS.1, c, r1, r2, q, q1, Bool.toNat_true, Nat.reduceEqDiff, Nat.reduceLeDiff, not_false_eq_true, show ¬ E.1 ≤ i by omega, ↓reduceIte]
        · exact absurd h q
  · intro f _ hP
    refine ⟨true, ⟨fun _ i => ?_, fun _ => rfl⟩, ?_⟩
    · by_cases q : i < E.1
      · exact hP i q
      · exact so_out (by omega)
    · show fX4_isSo_2b n (fX4_isSo_2 n f) (mk s) 70 (nI d) 60 (nI E.1) = _
      unfold fX4_isSo_2b
      simp (disch := first | omega | assumption | (simp only [wL_1, wL_22, wI_2, wA_2, wQ_1, wQ_21] <;> first | assumption | omega)) only [LIT, LITm, nI_add, n_mul, fa_or, n_31m, n_shl0, n_le, n_lt, n_eq, Option.bind_some, B_sn hn, hS.1, Nat.le_refl, Bool.toNat_true, ↓reduceIte]
theorem m_isSo (hn : 239 ≤ n) (hS : mSn s E) (hE : wE T E) (hW : WT T) (hC : ∀ j, j < knV E → s.1 234 j = nI (CV E j).toNat) (hp : ∀ v, v < T 0 2 → s.1 219 (4 + v) = nI (pl v) ∧ pl v < 7) (hd : d ≤ 60) : ∃ b : Bool, (b = true ↔ soP E d pl) ∧ fX11_isSo n (mk s) 187 (nI d) = some (nI b.toNat, mk s) := by
  have h24 := hE.1
  have h0 := hW.1
  have hle := (knV_c hE).1
  have kb := m_knownBy hn hS hE
  unfold fX11_isSo
  simp only [B_m hn, Option.bind_some, LIT]
  refine lp_up (F := fun f (_ : Unit) i => fX11_isSo_2 n f (mk s) 187 (nI d) (nI i)) (N := knV E) (P := fun i _ => ∀ j, j < i → so1 E d pl j) (Q := fun r => ∃ b : Bool, (b = true ↔ soP E d pl) ∧ r = some (nI b.toNat, mk s)) ?_ ?_ (knV E) bi_K () 0 (by omega) (by unfold bi_K; omega) (fun j h => absurd h (Nat.not_lt_zero j))
  · intro f _ i hi hP
    obtain ⟨r1, r2, r3, r4⟩ := hS.2.2 i (by omega)
    have c := hC i (by omega)
    show (∃ s', fX11_isSo_2b n (fX11_isSo_2 n f) (mk s) 187 (nI d) (nI i) = _ ∧ _) ∨ ∃ b : Bool, _ ∧ fX11_isSo_2b n (fX11_isSo_2 n f) (mk s) 187 (nI d) (nI i) = _
    have nx : so1 E d pl i → ∀ j, j < i + 1 → so1 E d pl j := fun h j hj => by
      by_cases q : j = i
      · rw [q]; exact h
      · exact hP j (by omega)
    cases ec : CV E i with
    | false =>
      rw [ec] at c
      left
      refine ⟨(), ?_, nx (fun h => by rw [ec] at h; cases h)⟩
      unfold fX11_isSo_2b fX11_isSo_93
      simp (disch := first | omega | assumption | (simp only [wL_1, wL_22, wI_2, wA_2, wQ_1, wQ_21] <;> first | assumption | omega)) only [LIT, LITm, nI_add, n_mul, fa_or, n_31m, n_shl0, n_le, n_lt, n_eq, Option.bind_some, B_m hn, B_mc hn, kb, c, Bool.toNat_false, show ¬ knV E ≤ i by omega, ↓reduceIte]
    | true =>
      rw [ec] at c
      by_cases q : E.2.2 0 i = 2
      · left
        refine ⟨(), ?_, nx (fun _ h => absurd q h)⟩
        rw [if_pos q] at r1
        have m1d : (m1 = nI d) = False := n_m1eq (by omega)
        unfold fX11_isSo_2b fX11_isSo_93
        simp (disch := first | omega | assumption | (simp only [wL_1, wL_22, wI_2, wA_2, wQ_1, wQ_21] <;> first | assumption | omega)) only [LIT, LITm, nI_add, n_mul, fa_or, n_31m, n_shl0, n_le, n_lt, n_eq, Option.bind_some, B_m hn, B_mc hn, kb, c, r1, m1d, Bool.toNat_true, Nat.reduceEqDiff, Nat.reduceLeDiff, if_false, show ¬ knV E ≤ i by omega, ↓reduceIte]
      · rw [if_neg q] at r1
        rcases hE.2.2 i (by omega) with ⟨h1, h2, h3, h4, h5⟩ | ⟨h, -⟩
        · by_cases q1 : E.2.2 1 i = d
          · obtain ⟨a1, a2⟩ := hp _ h4
            have key : ∀ (u v : Nat), u ≤ 1 → v ≤ 1 → (u = 1 ↔ pl (E.2.2 2 i) = E.2.2 3 i) → (v = 1 ↔ E.2.2 0 i = 0) → fX11_isSo_2b n (fX11_isSo_2 n f) (mk s) 187 (nI d) (nI i) = if u = v then fX11_isSo_2 n f (mk s) 187 (nI d) (nI (i + 1)) else some (nI 0, mk s) := by
              intro u v hu hv e1 e2
              unfold fX11_isSo_2b fX11_isSo_69 fX11_isSo_88 fX11_isSo_93
              by_cases p1 : pl (E.2.2 2 i) = E.2.2 3 i
              · have u1 := e1.mpr p1
                by_cases p2 : E.2.2 0 i = 0
                · have v1 := e2.mpr p2
                  rw [if_pos (show u = v by omega)]
                  rw [if_pos p2] at r4
                  simp (disch := first | omega | assumption | (simp only [wL_1, wL_22, wI_2, wA_2, wQ_1, wQ_21] <;> first | assumption | omega)) only [LIT, LITm, nI_add, n_mul, fa_or, n_31m, n_shl0, n_le, n_lt, n_eq, Option.bind_some, B_m hn, B_mb hn, B_mc hn, kb, c, r1, r2, r3, r4, a1, q1, p1, Bool.toNat_true, Nat.reduceEqDiff, Nat.reduceLeDiff, not_true_eq_false, show ¬ knV E ≤ i by omega, ↓reduceIte]
                · have v1 : v ≠ 1 := fun h => p2 (e2.mp h)
                  rw [if_neg (show ¬ u = v by omega)]
                  rw [if_neg p2] at r4
                  simp (disch := first | omega | assumption | (simp only [wL_1, wL_22, wI_2, wA_2, wQ_1, wQ_21] <;> first | assumption | omega)) only [LIT, LITm, nI_add, n_mul, fa_or, n_31m, n_shl0, n_le, n_lt, n_eq, Option.bind_some, B_m hn, B_mb hn, B_mc hn, kb, c, r1, r2, r3, r4, a1, q1, p1, Bool.toNat_true, Nat.reduceEqDiff, Nat.reduceLeDiff, not_true_eq_false, not_false_eq_true, show ¬ knV E ≤ i by omega, ↓reduceIte]
              · have u1 : u ≠ 1 := fun h => p1 (e1.mp h)
                by_cases p2 : E.2.2 0 i = 0
                · have v1 := e2.mpr p2
                  rw [if_neg (show ¬ u = v by omega)]
                  rw [if_pos p2] at r4
                  simp (disch := first | omega | assumption | (simp only [wL_1, wL_22, wI_2, wA_2, wQ_1, wQ_21] <;> first | assumption | omega)) only [LIT, LITm, nI_add, n_mul, fa_or, n_31m, n_shl0, n_le, n_lt, n_eq, Option.bind_some, B_m hn, B_mb hn, B_mc hn, kb, c, r1, r2, r3, r4, a1, q1, p1, Bool.toNat_true, Nat.reduceEqDiff, Nat.reduceLeDiff, not_true_eq_false, not_false_eq_true, show ¬ knV E ≤ i by omega, ↓reduceIte]
                · have v1 : v ≠ 1 := fun h => p2 (e2.mp h)
                  rw [if_pos (show u = v by omega)]
                  rw [if_neg p2] at r4
                  simp (disch := first | omega | assumption | (simp only [wL_1, wL_22, wI_2, wA_2, wQ_1, wQ_21] <;> first | assumption | omega)) only [LIT, LITm, nI_add, n_mul, fa_or, n_31m, n_shl0, n_le, n_lt, n_eq, Option.bind_some, B_m hn, B_mb hn, B_mc hn, kb, c, r1, r2, r3, r4, a1, q1, p1, Bool.toNat_true, Nat.reduceEqDiff, Nat.reduceLeDiff, not_true_eq_false, not_false_eq_true, show ¬ knV E ≤ i by omega, ↓reduceIte]
            have k2 := key (if pl (E.2.2 2 i) = E.2.2 3 i then 1 else 0) (if E.2.2 0 i = 0 then 1 else 0) (by split <;> omega) (by split <;> omega) (by split <;> simp_all) (by split <;> simp_all)
            by_cases g : pl (E.2.2 2 i) = E.2.2 3 i ↔ E.2.2 0 i = 0
            · left
              refine ⟨(), ?_, nx (fun _ _ _ => g)⟩
              rw [k2, if_pos]
              by_cases p1 : pl (E.2.2 2 i) = E.2.2 3 i
              · rw [if_pos p1, if_pos (g.mp p1)]
              · rw [if_neg p1, if_neg (fun h => p1 (g.mpr h))]
            · right
              refine ⟨false, ⟨fun h => (by cases h), fun h => absurd (h i ec q q1) g⟩, ?_⟩
              rw [k2, if_neg]
              · rfl
              · intro e
                apply g
                by_cases p1 : pl (E.2.2 2 i) = E.2.2 3 i
                · rw [if_pos p1] at e
                  refine ⟨fun _ => ?_, fun _ => p1⟩
                  refine Classical.byContradiction fun p2 => ?_
                  rw [if_neg p2] at e
                  cases e
                · rw [if_neg p1] at e
                  refine ⟨fun h => absurd h p1, fun p2 => ?_⟩
                  rw [if_pos p2] at e
                  cases e
          · left
            refine ⟨(), ?_, nx (fun _ _ h => absurd h q1)⟩
            unfold fX11_isSo_2b fX11_isSo_93
            simp (disch := first | omega | assumption | (simp only [wL_1, wL_22, wI_2, wA_2, wQ_1, wQ_21] <;> first | assumption | omega)) only [LIT, LITm, nI_add, n_mul, fa_or, n_31m, n_shl0, n_le, n_lt, n_eq, Option.bind_some, B_m hn, B_mc hn, kb, c, r1, q1, Bool.toNat_true, Nat.reduceEqDiff, Nat.reduceLeDiff, show ¬ knV E ≤ i by omega, ↓reduceIte]
        · exact absurd h q
  · intro f _ hP
    refine ⟨true, ⟨fun _ i => ?_, fun _ => rfl⟩, ?_⟩
    · by_cases q : i < knV E
      · exact hP i q
      · exact so_out (by omega)
    · show fX11_isSo_2b n (fX11_isSo_2 n f) (mk s) 187 (nI d) (nI (knV E)) = _
      unfold fX11_isSo_2b
      simp (disch := first | omega | assumption | (simp only [wL_1, wL_22, wI_2, wA_2, wQ_1, wQ_21] <;> first | assumption | omega)) only [LIT, LITm, nI_add, n_mul, fa_or, n_31m, n_shl0, n_le, n_lt, n_eq, Option.bind_some, kb, Nat.le_refl, Bool.toNat_true, ↓reduceIte]
end Io
