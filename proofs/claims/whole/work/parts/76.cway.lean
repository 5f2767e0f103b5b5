/-! ===== way, by the class ===== -/
section Cw
variable {n t o w x k a B : Nat} {s : zS} {T : zT} {S : zD} {A : zA} {d ds : Nat → Option Nat} {y z : Int32}
theorem c_ll53 {v : Nat} {r35 : ai_H → Nat → Nat → Int32 → Int32 → Int32 → Int32 → Option (Int32 × ai_H)} (hn : 239 ≤ n) (ht : t = 6 ∨ t = 29) (hW : WT T) (hT : cTd s.1 t T) (hk : ∀ p, p < T 0 1 → k.testBit p = opnB T S w p) (hk2 : k < 512) (hL : lb7 s d) (hb : bd7 d B) (hB : B ≤ 100000) (hs : snL (wyE T S w) a 0 d) (hv : v < 7) : ∃ (s' : zS) (d' : Nat → Option Nat) (fl : Bool), fX9_leastLength_53 n r35 bi_K (mk s) 77 t (nI x) (nI k) (nI 0) (nI v) (nI 0) = r35 (mk s') 77 t (nI x) (nI k) (nI fl.toNat) (nI (v + 1)) ∧ s'.2 = s.2 ∧ (∀ b, b ≠ 78 → s'.1 b = s.1 b) ∧ lb7 s' d' ∧ bd7 d' (B + 1782) ∧ snL (wyE T S w) a 0 d' ∧ dnL d d' ∧ rdL (wyE T S w) d d' ∧ (fl = false → d' = d) := by
  have h0 := hW.1
  refine lp_up (F := fun f (q : zS × (Nat → Option Nat) × Bool) i => fX9_leastLength_53 n r35 f (mk q.1) 77 t (nI x) (nI k) (nI q.2.2.toNat) (nI v) (nI i)) (N := T 0 1) (P := fun i q => q.1.2 = s.2 ∧ (∀ b, b ≠ 78 → q.1.1 b = s.1 b) ∧ lb7 q.1 q.2.1 ∧ bd7 q.2.1 (B + 198 * i) ∧ snL (wyE T S w) a 0 q.2.1 ∧ dnL d q.2.1 ∧ (∀ p, p < i → opnB T S w p = true → ∀ y u, (T 3 p = y ∨ T 4 p = y) → d y = some u → ∃ z, z ≤ u + T 5 p ∧ q.2.1 (othV T p y) = some z) ∧ (q.2.2 = false → q.2.1 = d)) (Q := fun r => ∃ (s' : zS) (d' : Nat → Option Nat) (fl : Bool), r = r35 (mk s') 77 t (nI x) (nI k) (nI fl.toNat) (nI (v + 1)) ∧ s'.2 = s.2 ∧ (∀ b, b ≠ 78 → s'.1 b = s.1 b) ∧ lb7 s' d' ∧ bd7 d' (B + 1782) ∧ snL (wyE T S w) a 0 d' ∧ dnL d d' ∧ rdL (wyE T S w) d d' ∧ (fl = false → d' = d)) ?_ ?_ (T 0 1) bi_K (s, d, false) 0 (by omega) (by unfold bi_K; omega) ⟨rfl, fun _ _ => rfl, hL, hb, hs, dnL_r, fun p h => absurd h (Nat.not_lt_zero p), fun _ => rfl⟩
  · rintro f ⟨s1, d1, fl⟩ i hi ⟨g1, g2, g3, g4, g5, g6, g7, g8⟩
    left
    have g1 : s1.2 = s.2 := g1
    have g2 : ∀ b, b ≠ 78 → s1.1 b = s.1 b := g2
    have g3 : lb7 s1 d1 := g3
    have g4 : bd7 d1 (B + 198 * i) := g4
    have g5 : snL (wyE T S w) a 0 d1 := g5
    have g6 : dnL d d1 := g6
    have he := WT_p hW hi
    have hT1 : cTd s1.1 t T := cTd_fr hT (fun b h1 h2 => g2 b (by omega))
    show ∃ q : zS × (Nat → Option Nat) × Bool, fX9_leastLength_53b n r35 (fX9_leastLength_53 n r35 f) (mk s1) 77 t (nI x) (nI k) (nI fl.toNat) (nI v) (nI i) = _ ∧ _
    unfold fX9_leastLength_53b fX9_leastLength_88
    cases go : k.testBit i with
    | false =>
      refine ⟨(s1, d1, fl), ?_, g1, g2, g3, fun j u hj => by have := g4 j u hj; omega, g5, g6, fun p hp ho => ?_, g8⟩
      · simp (disch := first | omega | assumption | (simp only [wL_1, wL_22, wI_2, wA_2, wQ_1, wQ_21] <;> first | assumption | omega)) only [LIT, LITm, nI_add, n_mul, fa_or, n_31m, n_shl0, n_le, n_lt, n_eq, Option.bind_some, B_t hn ht, CTp t T, n_bitz, go, show ¬ T 0 1 ≤ i by omega, ↓reduceIte]
      · by_cases q : p = i
        · rw [q, ← hk i hi, go] at ho; cases ho
        · exact g7 p (by omega) ho
    | true =>
      have ho : opnB T S w i = true := by rw [← hk i hi]; exact go
      obtain ⟨s2, e2, z2, o2, l2, b2⟩ := c_shorten hn ht hW hT1 g3 g4 (by omega) hi
      refine ⟨(s2, shoV T i d1, fl || shoB T i d1), ?_, by show s2.2 = s.2; rw [z2, g1], fun b hb => by show s2.1 b = s.1 b; rw [o2 b hb, g2 b hb], l2, fun j u hj => by have := b2 j u hj; omega, sho_sn hi ho g5, dnL_t g6 sho_dn, fun p hp hop y u hy hd => ?_, fun h => ?_⟩
      · cases gb : shoB T i d1 with
        | false =>
          rw [gb] at e2
          simp (disch := first | omega | assumption | (simp only [wL_1, wL_22, wI_2, wA_2, wQ_1, wQ_21] <;> first | assumption | omega)) only [LIT, LITm, nI_add, n_mul, fa_or, n_31m, n_shl0, n_le, n_lt, n_eq, Option.bind_some, B_t hn ht, CTp t T, n_bitz, go, e2, Bool.toNat_false, Bool.or_false, Bool.true_eq_false, show ¬ T 0 1 ≤ i by omega, ↓reduceIte]
        | true =>
          rw [gb] at e2
          simp (disch := first | omega | assumption | (simp only [wL_1, wL_22, wI_2, wA_2, wQ_1, wQ_21] <;> first | assumption | omega)) only [LIT, LITm, nI_add, n_mul, fa_or, n_31m, n_shl0, n_le, n_lt, n_eq, Option.bind_some, B_t hn ht, CTp t T, n_bitz, go, e2, Bool.toNat_true, Nat.reduceEqDiff, Nat.reduceLeDiff, Bool.or_true, Bool.true_eq_false, show ¬ T 0 1 ≤ i by omega, ↓reduceIte]
      · by_cases q : p = i
        · rw [q] at hy ⊢
          obtain ⟨u1, q1, q2⟩ := g6 y u hd
          obtain ⟨z, q3, q4⟩ := sho_ok g4 (by omega) (by omega) hy q2
          exact ⟨z, by omega, q4⟩
        · obtain ⟨z, q1, q2⟩ := g7 p (by omega) hop y u hy hd
          obtain ⟨z2, q3, q4⟩ := sho_dn (T := T) (p := i) _ z q2
          exact ⟨z2, by omega, q4⟩
      · have h' := (Bool.or_eq_false_iff).mp h
        show shoV T i d1 = d
        rw [sho_no h'.2]
        exact g8 h'.1
  · rintro f ⟨s1, d1, fl⟩ ⟨g1, g2, g3, g4, g5, g6, g7, g8⟩
    have g2 : ∀ b, b ≠ 78 → s1.1 b = s.1 b := g2
    have g4 : bd7 d1 (B + 198 * T 0 1) := g4
    have hT1 : cTd s1.1 t T := cTd_fr hT (fun b h1 h2 => g2 b (by omega))
    refine ⟨s1, d1, fl, ?_, g1, g2, g3, fun j u hj => by have := g4 j u hj; omega, g5, g6, ?_, g8⟩
    · show fX9_leastLength_53b n r35 (fX9_leastLength_53 n r35 f) (mk s1) 77 t (nI x) (nI k) (nI fl.toNat) (nI v) (nI (T 0 1)) = _
      unfold fX9_leastLength_53b
      simp (disch := first | omega | assumption | (simp only [wL_1, wL_22, wI_2, wA_2, wQ_1, wQ_21] <;> first | assumption | omega)) only [LIT, LITm, nI_add, n_mul, fa_or, n_31m, n_shl0, n_le, n_lt, n_eq, Option.bind_some, B_t hn ht, CTp t T, Nat.le_refl, ↓reduceIte]
    · rintro y u x v hy ⟨p, h1, h2, h3, h4, h5⟩
      rw [h4, h5]
      exact g7 p h1 h2 y u h3 hy
end Cw
