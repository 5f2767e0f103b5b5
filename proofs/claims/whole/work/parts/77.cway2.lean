/-! ===== way, by the class: all of it ===== -/
def wayR (o : Option Nat) : Int32 := match o with | none => m2 | some v => nI v
section Cx
variable {n t o w x k a B : Nat} {s : zS} {T : zT} {S : zD} {A : zA} {d ds : Nat → Option Nat} {y z : Int32}
theorem c_ll100 (hn : 239 ≤ n) (hL : lb7 s d) (hb : bd7 d B) (hB : B ≤ 100000) (hx : x < 7) : fX9_leastLength_100 n (mk s) 77 (nI x) = some (wayR (d x), mk s) := by
  have e := hL x hx
  have nF : (1000000 : Int32) = nI 1000000 := rfl
  unfold fX9_leastLength_100
  rw [nF]
  cases g : d x with
  | none =>
    rw [g] at e
    have e' : s.1 78 x = nI 1000000 := e
    simp (disch := first | omega | assumption | (simp only [wL_1, wL_22, wI_2, wA_2, wQ_1, wQ_21] <;> first | assumption | omega)) only [LIT, LITm, nI_add, n_mul, fa_or, n_31m, n_shl0, n_le, n_lt, n_eq, Option.bind_some, B_wy hn, e', wayR, Nat.le_refl, ↓reduceIte]
  | some v =>
    rw [g] at e
    have e' : s.1 78 x = nI v := e
    have := hb x v g
    simp (disch := first | omega | assumption | (simp only [wL_1, wL_22, wI_2, wA_2, wQ_1, wQ_21] <;> first | assumption | omega)) only [LIT, LITm, nI_add, n_mul, fa_or, n_31m, n_shl0, n_le, n_lt, n_eq, Option.bind_some, B_wy hn, e', wayR, show ¬ 1000000 ≤ v by omega, ↓reduceIte]
theorem c_ll35 (hn : 239 ≤ n) (ht : t = 6 ∨ t = 29) (hW : WT T) (hT : cTd s.1 t T) (hk : ∀ p, p < T 0 1 → k.testBit p = opnB T S w p) (hk2 : k < 512) (hL : lb7 s d) (hb : bd7 d 0) (hs : snL (wyE T S w) a 0 d) (ha : d a = some 0) (ha7 : a < 7) (hx : x < 7) (hd : lsL (wyE T S w) a 0 ds) : ∃ s' : zS, fX9_leastLength_35 n bi_K (mk s) 77 t (nI x) (nI k) (nI true.toNat) (nI 0) = some (wayR (ds x), mk s') ∧ s'.2 = s.2 ∧ ∀ b, b ≠ 78 → s'.1 b = s.1 b := by
  have h0 := hW.1
  have ha2 : ds a = some 0 := by
    obtain ⟨u, h1, h2⟩ := hd.2 0 a 0 ⟨rfl, rfl⟩
    rw [h2, Nat.le_zero.mp h1]
  have start : 0 + 1 ≤ fb_ct (fun x => decide (d x = ds x)) 7 := fb_ct_pos.mpr ⟨a, ha7, decide_eq_true (ha.trans ha2.symm)⟩
  refine lp_up (F := fun f (q : zS × (Nat → Option Nat) × Bool) i => fX9_leastLength_35 n f (mk q.1) 77 t (nI x) (nI k) (nI q.2.2.toNat) (nI i)) (N := 7) (P := fun i q => q.1.2 = s.2 ∧ (∀ b, b ≠ 78 → q.1.1 b = s.1 b) ∧ lb7 q.1 q.2.1 ∧ bd7 q.2.1 (1782 * i) ∧ snL (wyE T S w) a 0 q.2.1 ∧ q.2.1 a = some 0 ∧ ((∀ x, x < 7 → q.2.1 x = ds x) ∨ (q.2.2 = true ∧ i + 1 ≤ fb_ct (fun x => decide (q.2.1 x = ds x)) 7))) (Q := fun r => ∃ s' : zS, r = some (wayR (ds x), mk s') ∧ s'.2 = s.2 ∧ ∀ b, b ≠ 78 → s'.1 b = s.1 b) ?_ ?_ 7 bi_K (s, d, true) 0 (by omega) (by unfold bi_K; omega) ⟨rfl, fun _ _ => rfl, hL, hb, hs, ha, Or.inr ⟨rfl, start⟩⟩
  · rintro f ⟨s1, d1, fl⟩ i hi ⟨g1, g2, g3, g4, g5, g6, g7⟩
    have g1 : s1.2 = s.2 := g1
    have g2 : ∀ b, b ≠ 78 → s1.1 b = s.1 b := g2
    have g3 : lb7 s1 d1 := g3
    have g4 : bd7 d1 (1782 * i) := g4
    have g5 : snL (wyE T S w) a 0 d1 := g5
    have g6 : d1 a = some 0 := g6
    have g7 : (∀ x, x < 7 → d1 x = ds x) ∨ (fl = true ∧ i + 1 ≤ fb_ct (fun x => decide (d1 x = ds x)) 7) := g7
    have hT1 : cTd s1.1 t T := cTd_fr hT (fun b h1 h2 => g2 b (by omega))
    cases fl with
    | false =>
      right
      have al : ∀ x, x < 7 → d1 x = ds x := by
        rcases g7 with h | ⟨h, -⟩
        · exact h
        · cases h
      refine ⟨s1, ?_, g1, g2⟩
      show fX9_leastLength_35b n (fX9_leastLength_35 n f) (mk s1) 77 t (nI x) (nI k) (nI false.toNat) (nI i) = _
      unfold fX9_leastLength_35b
      rw [← al x hx]
      simp (disch := first | omega | assumption | (simp only [wL_1, wL_22, wI_2, wA_2, wQ_1, wQ_21] <;> first | assumption | omega)) only [LIT, LITm, nI_add, n_mul, fa_or, n_31m, n_shl0, n_le, n_lt, n_eq, Option.bind_some, Bool.toNat_false, show ¬ 7 ≤ i by omega, ↓reduceIte]
      exact c_ll100 hn g3 g4 (by omega) hx
    | true =>
      left
      obtain ⟨s2, d2, fl2, e2, z2, o2, l2, b2, n2, m2', r2, f2⟩ := c_ll53 (x := x) (r35 := fX9_leastLength_35 n f) hn ht hW hT1 hk hk2 g3 g4 (by omega) g5 hi
      refine ⟨(s2, d2, fl2), ?_, by show s2.2 = s.2; rw [z2, g1], fun b hb => by show s2.1 b = s.1 b; rw [o2 b hb, g2 b hb], l2, fun j u hj => by have := b2 j u hj; omega, n2, ?_, ?_⟩
      · show fX9_leastLength_35b n (fX9_leastLength_35 n f) (mk s1) 77 t (nI x) (nI k) (nI true.toNat) (nI i) = _
        unfold fX9_leastLength_35b
        simp (disch := first | omega | assumption | (simp only [wL_1, wL_22, wI_2, wA_2, wQ_1, wQ_21] <;> first | assumption | omega)) only [LIT, LITm, nI_add, n_mul, fa_or, n_31m, n_shl0, n_le, n_lt, n_eq, Option.bind_some, Bool.toNat_true, Nat.reduceEqDiff, Nat.reduceLeDiff, show ¬ 7 ≤ i by omega, ↓reduceIte]
        exact e2
      · obtain ⟨u, q1, q2⟩ := m2' a 0 g6
        show d2 a = some 0
        rw [q2, Nat.le_zero.mp q1]
      · show (∀ x, x < 7 → d2 x = ds x) ∨ (fl2 = true ∧ i + 1 + 1 ≤ fb_ct (fun x => decide (d2 x = ds x)) 7)
        by_cases q : ∃ x, x < 7 ∧ d1 x ≠ ds x
        · have mo : fb_ct (fun x => decide (d1 x = ds x)) 7 < fb_ct (fun x => decide (d2 x = ds x)) 7 := rd_more wyE_mo (fun _ _ _ _ h => wyE_b hW h) hd g5 n2 m2' g6 r2 q (fun y u x v h => by
            obtain ⟨p, h1, h2, h3, -⟩ := h
            have := WT_p hW h1
            omega)
          cases ef : fl2 with
          | true =>
            right
            refine ⟨rfl, ?_⟩
            rcases g7 with g | ⟨-, g⟩
            · obtain ⟨x, h1, h2⟩ := q
              exact absurd (g x h1) h2
            · exact Nat.succ_le_of_lt (Nat.lt_of_le_of_lt g mo)
          | false =>
            left
            have e := f2 ef
            rw [e] at r2 ⊢
            have := lsL_one (lsL_of wyE_mo g5 ⟨0, Nat.le_refl _, g6⟩ r2) hd
            exact fun x _ => by rw [this]
        · left
          exact fun x h => fin_keep hd n2 m2' (Classical.byContradiction fun g => q ⟨x, h, g⟩)
  · rintro f ⟨s1, d1, fl⟩ ⟨g1, g2, g3, g4, g5, g6, g7⟩
    have al : ∀ x, x < 7 → d1 x = ds x := by
      rcases g7 with h | ⟨-, h⟩
      · exact h
      · have := fb_ct_le (fun x => decide (d1 x = ds x)) 7
        have h' : 7 + 1 ≤ fb_ct (fun x => decide (d1 x = ds x)) 7 := h
        omega
    refine ⟨s1, ?_, g1, g2⟩
    show fX9_leastLength_35b n (fX9_leastLength_35 n f) (mk s1) 77 t (nI x) (nI k) (nI fl.toNat) (nI 7) = _
    unfold fX9_leastLength_35b
    rw [← al x hx]
    simp (disch := first | omega | assumption | (simp only [wL_1, wL_22, wI_2, wA_2, wQ_1, wQ_21] <;> first | assumption | omega)) only [LIT, LITm, nI_add, n_mul, fa_or, n_31m, n_shl0, n_le, n_lt, n_eq, Option.bind_some, Nat.le_refl, ↓reduceIte]
    exact c_ll100 hn g3 g4 (by omega) hx
end Cx
