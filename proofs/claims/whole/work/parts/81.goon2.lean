/-! ===== round, by the class: one turn, and all turns from one set ===== -/
section Go
variable {n t w W c g k a N v0 : Nat} {s : zS} {T : zT} {S : zD} {d d0 d1 ds : Nat → Option Nat} {E : Nat → Nat → Nat → Nat → Prop}
theorem thn_le {p : Nat} (h : g ||| W = W) : thn W g p ≤ W := by
  have e : thn W g p ||| W = W := by
    unfold thn
    apply Nat.eq_of_testBit_eq
    intro i
    have hi := congrArg (fun m => m.testBit i) h
    simp only [Nat.testBit_or, Nat.testBit_and] at hi ⊢
    revert hi
    cases g.testBit i <;> cases W.testBit i <;> cases (2 ^ p).testBit i <;> decide
  exact Nat.le_trans Nat.left_le_or (Nat.le_of_eq e)
theorem c_go24 {v : Nat} {r6 : ai_H → Nat → Nat → Int32 → Int32 → Int32 → Int32 → Int32 → Int32 → Option (Unit × ai_H)} (hn : 239 ≤ n) (ht : t = 6 ∨ t = 29) (hW : WT T) (hT : cTd s.1 t T) (hk : ∀ p, p < T 0 1 → k.testBit p = opnB T S w p) (hk2 : k < 512) (hW5 : W < 512) (hc : c ≤ 99) (hg : g ||| W = W) (hL : lbN (W * 7 + 7) s d) (hb : cb d) (hs : snL (cE T S w W c) a v0 d) (hv : v < 7) :
    ∃ (s' : zS) (d' : Nat → Option Nat) (fl : Bool), fX9_goOn_24 n r6 bi_K (mk s) 77 t (nI k) (nI W) (nI g) (nI c) (nI 0) (nI v) (nI 0) = r6 (mk s') 77 t (nI k) (nI W) (nI g) (nI c) (nI fl.toNat) (nI (v + 1)) ∧ s'.2 = s.2 ∧ (∀ b, b ≠ 79 → s'.1 b = s.1 b) ∧ lbN (W * 7 + 7) s' d' ∧ cb d' ∧ snL (cE T S w W c) a v0 d' ∧ dnL d d' ∧ (∀ y u x v, y / 7 = g → d y = some u → cE T S w W c y u x v → ∃ z, z ≤ v ∧ d' x = some z) ∧ (fl = false → ∀ j, j / 7 = g → d' j = d j) := by
  have h0 := hW.1
  have hgW : g ≤ W := by rw [← hg]; exact Nat.left_le_or
  refine lp_up (F := fun f (q : zS × (Nat → Option Nat) × Bool) i => fX9_goOn_24 n r6 f (mk q.1) 77 t (nI k) (nI W) (nI g) (nI c) (nI q.2.2.toNat) (nI v) (nI i)) (N := T 0 1) (P := fun i q => q.1.2 = s.2 ∧ (∀ b, b ≠ 79 → q.1.1 b = s.1 b) ∧ lbN (W * 7 + 7) q.1 q.2.1 ∧ cb q.2.1 ∧ snL (cE T S w W c) a v0 q.2.1 ∧ dnL d q.2.1 ∧ (∀ p, p < i → opnB T S w p = true → ∀ y u v, y / 7 = g → (T 3 p = y % 7 ∨ T 4 p = y % 7) → d y = some u → tcV c (T 5 p) u = some v → ∃ z, z ≤ v ∧ q.2.1 (thn W g p * 7 + othV T p (y % 7)) = some z) ∧ (q.2.2 = false → ∀ j, j / 7 = g → q.2.1 j = d j)) (Q := fun r => ∃ (s' : zS) (d' : Nat → Option Nat) (fl : Bool), r = r6 (mk s') 77 t (nI k) (nI W) (nI g) (nI c) (nI fl.toNat) (nI (v + 1)) ∧ s'.2 = s.2 ∧ (∀ b, b ≠ 79 → s'.1 b = s.1 b) ∧ lbN (W * 7 + 7) s' d' ∧ cb d' ∧ snL (cE T S w W c) a v0 d' ∧ dnL d d' ∧ (∀ y u x v, y / 7 = g → d y = some u → cE T S w W c y u x v → ∃ z, z ≤ v ∧ d' x = some z) ∧ (fl = false → ∀ j, j / 7 = g → d' j = d j)) ?_ ?_ (T 0 1) bi_K (s, d, false) 0 (by omega) (by unfold bi_K; omega) ⟨rfl, fun _ _ => rfl, hL, hb, hs, dnL_r, fun p h => absurd h (Nat.not_lt_zero p), fun _ _ _ => rfl⟩
  · rintro f ⟨s1, d1, fl⟩ i hi ⟨g1, g2, g3, g4, g5, g6, g7, g8⟩
    left
    have g1 : s1.2 = s.2 := g1
    have g2 : ∀ b, b ≠ 79 → s1.1 b = s.1 b := g2
    have g3 : lbN (W * 7 + 7) s1 d1 := g3
    have g4 : cb d1 := g4
    have g5 : snL (cE T S w W c) a v0 d1 := g5
    have g6 : dnL d d1 := g6
    have he := WT_p hW hi
    have hT1 : cTd s1.1 t T := cTd_fr hT (fun b h1 h2 => g2 b (by omega))
    show ∃ q : zS × (Nat → Option Nat) × Bool, fX9_goOn_24b n r6 (fX9_goOn_24 n r6 f) (mk s1) 77 t (nI k) (nI W) (nI g) (nI c) (nI fl.toNat) (nI v) (nI i) = _ ∧ _
    unfold fX9_goOn_24b fX9_goOn_179 fX9_goOn_183 fX9_goOn_184 fX9_goOn_186
    cases go : k.testBit i with
    | false =>
      refine ⟨(s1, d1, fl), ?_, g1, g2, g3, g4, g5, g6, fun p hp ho => ?_, g8⟩
      · simp (disch := first | omega | assumption | (simp only [wL_1, wL_22, wI_2, wA_2, wQ_1, wQ_21] <;> first | assumption | omega)) only [LIT, LITm, nI_add, n_mul, fa_or, n_31m, n_shl0, n_le, n_lt, n_eq, Option.bind_some, B_t hn ht, CTp t T, n_bitz, go, not_true_eq_false, show ¬ T 0 1 ≤ i by omega, ↓reduceIte]
      · by_cases q : p = i
        · rw [q, ← hk i hi, go] at ho; cases ho
        · exact g7 p (by omega) ho
    | true =>
      have ho : opnB T S w i = true := by rw [← hk i hi]; exact go
      have tl := thn_le (p := i) hg
      obtain ⟨th, eth⟩ : ∃ th, th = thn W g i := ⟨_, rfl⟩
      have eth' : g ||| 2 ^ i &&& W = th := by rw [eth]; rfl
      have fw : nI (2 ^ i) &&& nI W = nI (2 ^ i &&& W) := fa_and _ _
      obtain ⟨c1, c2, c3, c4, c5, c6⟩ := g2_all (c := c) (g := g) hW hi ho (by omega) g4 g5
      have l3 := g3 (g * 7 + T 3 i) (by omega)
      obtain ⟨s2, e2, z2, o2, l2⟩ := c_lessL (x := g * 7 + T 3 i) (y := th * 7 + T 4 i) (l := T 5 i) (c := c) hn g3 (by omega) g4 (by omega) (by omega) hc
      have l2' : lbN (W * 7 + 7) s2 (g1V T W c g i d1) := by rw [eth] at l2; exact l2
      have l4 := l2' (g * 7 + T 4 i) (by omega)
      obtain ⟨s3, e3, z3, o3, l5⟩ := c_lessL (x := g * 7 + T 4 i) (y := th * 7 + T 3 i) (l := T 5 i) (c := c) hn l2' (by omega) c6 (by omega) (by omega) hc
      obtain ⟨f1, ef1⟩ : ∃ f1, f1 = rxB d1 (th * 7 + T 4 i) (tcB c (T 5 i) (d1 (g * 7 + T 3 i))) := ⟨_, rfl⟩
      obtain ⟨f2, ef2⟩ : ∃ f2, f2 = rxB (g1V T W c g i d1) (th * 7 + T 3 i) (tcB c (T 5 i) (g1V T W c g i d1 (g * 7 + T 4 i))) := ⟨_, rfl⟩
      rw [← ef1] at e2
      rw [← ef2] at e3
      have eB : g2B T W c g i d1 = (decide (th = g) && (f1 || f2)) := by
        rw [ef1, ef2, eth]
        rfl
      refine ⟨(s3, g2V T W c g i d1, fl || g2B T W c g i d1), ?_, by show s3.2 = s.2; rw [z3, z2, g1], fun b hb => by show s3.1 b = s.1 b; rw [o3 b hb, o2 b hb, g2 b hb], by show lbN (W * 7 + 7) s3 (g2V T W c g i d1); rw [eth] at l5; exact l5, c1, c2, dnL_t g6 c3, fun p hp hop y u v hy hx hd hv => ?_, fun h j hj => ?_⟩
      · have thlt : th < 2147483648 := by omega
        rw [eB]
        have key : fX9_goOn_24 n r6 f (mk s3) 77 t (nI k) (nI W) (nI g) (nI c) (nI (fl || (decide (th = g) && (f1 || f2))).toNat) (nI v) (nI (i + 1)) = fX9_goOn_24 n r6 f (mk s3) 77 t (nI k) (nI W) (nI g) (nI c) (nI (fl || (decide (th = g) && (f1 || f2))).toNat) (nI v) (nI (i + 1)) := rfl
        refine Eq.trans ?_ key
        cases fl with
        | true => simp (disch := first | omega | assumption | (simp only [wL_1, wL_22, wI_2, wA_2, wQ_1, wQ_21] <;> first | assumption | omega)) only [LIT, LITm, nI_add, n_mul, fa_or, n_31m, n_shl0, n_le, n_lt, n_eq, Option.bind_some, fw, B_t hn ht, B_wy hn, CT hn ht hW, CTp t T, n_bitz, go, eth', l3, l4, e2, e3, Bool.toNat_true, Bool.true_or, Nat.reduceEqDiff, Nat.reduceLeDiff, Bool.true_eq_false, not_false_eq_true, show ¬ T 0 1 ≤ i by omega, ↓reduceIte]
        | false =>
          by_cases q : th = g
          · rw [decide_eq_true q]
            rw [q] at eth' e2 e3
            cases f1 with
            | true => simp (disch := first | omega | assumption | (simp only [wL_1, wL_22, wI_2, wA_2, wQ_1, wQ_21] <;> first | assumption | omega)) only [LIT, LITm, nI_add, n_mul, fa_or, n_31m, n_shl0, n_le, n_lt, n_eq, Option.bind_some, fw, B_t hn ht, B_wy hn, CT hn ht hW, CTp t T, n_bitz, go, eth', l3, l4, e2, e3, Bool.toNat_true, Bool.toNat_false, Bool.true_or, Bool.true_and, Bool.or_true, Nat.reduceEqDiff, Nat.reduceLeDiff, Bool.true_eq_false, not_false_eq_true, not_true_eq_false, show ¬ T 0 1 ≤ i by omega, ↓reduceIte]
            | false =>
              cases f2 with
              | true => simp (disch := first | omega | assumption | (simp only [wL_1, wL_22, wI_2, wA_2, wQ_1, wQ_21] <;> first | assumption | omega)) only [LIT, LITm, nI_add, n_mul, fa_or, n_31m, n_shl0, n_le, n_lt, n_eq, Option.bind_some, fw, B_t hn ht, B_wy hn, CT hn ht hW, CTp t T, n_bitz, go, eth', l3, l4, e2, e3, Bool.toNat_true, Bool.toNat_false, Bool.true_or, Bool.true_and, Bool.or_true, Bool.or_self, Nat.reduceEqDiff, Nat.reduceLeDiff, Bool.true_eq_false, not_false_eq_true, not_true_eq_false, show ¬ T 0 1 ≤ i by omega, ↓reduceIte]
              | false => simp (disch := first | omega | assumption | (simp only [wL_1, wL_22, wI_2, wA_2, wQ_1, wQ_21] <;> first | assumption | omega)) only [LIT, LITm, nI_add, n_mul, fa_or, n_31m, n_shl0, n_le, n_lt, n_eq, Option.bind_some, fw, B_t hn ht, B_wy hn, CT hn ht hW, CTp t T, n_bitz, go, eth', l3, l4, e2, e3, Bool.toNat_true, Bool.toNat_false, Bool.true_or, Bool.true_and, Bool.or_false, Bool.or_self, Nat.reduceEqDiff, Nat.reduceLeDiff, Bool.true_eq_false, not_false_eq_true, not_true_eq_false, show ¬ T 0 1 ≤ i by omega, ↓reduceIte]
          · rw [decide_eq_false q]
            simp (disch := first | omega | assumption | (simp only [wL_1, wL_22, wI_2, wA_2, wQ_1, wQ_21] <;> first | assumption | omega)) only [LIT, LITm, nI_add, n_mul, fa_or, n_31m, n_shl0, n_le, n_lt, n_eq, Option.bind_some, fw, B_t hn ht, B_wy hn, CT hn ht hW, CTp t T, n_bitz, go, eth', l3, l4, e2, e3, q, Bool.toNat_false, Bool.false_and, Bool.or_self, Nat.reduceEqDiff, Nat.reduceLeDiff, Bool.true_eq_false, not_false_eq_true, not_true_eq_false, show ¬ T 0 1 ≤ i by omega, ↓reduceIte]
      · by_cases q : p = i
        · rw [q] at hx hv ⊢
          obtain ⟨u1, q1, q2⟩ := g6 y u hd
          obtain ⟨v1, q3, q4⟩ := tcV_mo hv q1
          obtain ⟨z, q5, q6⟩ := c4 y u1 v1 hy hx q2 q4
          exact ⟨z, by omega, q6⟩
        · obtain ⟨z, q1, q2⟩ := g7 p (by omega) hop y u v hy hx hd hv
          obtain ⟨z2, q3, q4⟩ := c3 _ z q2
          exact ⟨z2, by omega, q4⟩
      · have h' := (Bool.or_eq_false_iff).mp h
        show g2V T W c g i d1 j = d j
        rw [c5 h'.2 j hj]
        exact g8 h'.1 j hj
  · rintro f ⟨s1, d1, fl⟩ ⟨g1, g2, g3, g4, g5, g6, g7, g8⟩
    have g2 : ∀ b, b ≠ 79 → s1.1 b = s.1 b := g2
    have hT1 : cTd s1.1 t T := cTd_fr hT (fun b h1 h2 => g2 b (by omega))
    refine ⟨s1, d1, fl, ?_, g1, g2, g3, g4, g5, g6, ?_, g8⟩
    · show fX9_goOn_24b n r6 (fX9_goOn_24 n r6 f) (mk s1) 77 t (nI k) (nI W) (nI g) (nI c) (nI fl.toNat) (nI v) (nI (T 0 1)) = _
      unfold fX9_goOn_24b
      simp (disch := first | omega | assumption | (simp only [wL_1, wL_22, wI_2, wA_2, wQ_1, wQ_21] <;> first | assumption | omega)) only [LIT, LITm, nI_add, n_mul, fa_or, n_31m, n_shl0, n_le, n_lt, n_eq, Option.bind_some, B_t hn ht, CTp t T, Nat.le_refl, ↓reduceIte]
    · rintro y u x v hg hy ⟨p, h1, h2, h3, h4, h5⟩
      rw [h4, hg]
      exact g7 p h1 h2 y u v hg h3 hy h5
/-! the pure side: what is right in one set of gone ones -/
theorem fkL {x : Nat} (h : lsL E a v0 ds) (hs : snL E a v0 d1) (hd : dnL d0 d1) (e : d0 x = ds x) : d1 x = ds x := by
  cases q : ds x with
  | none =>
    cases q1 : d1 x with
    | none => rfl
    | some v =>
      obtain ⟨z, -, hz⟩ := lsL_le h hs q1
      rw [q] at hz
      cases hz
  | some v =>
    rw [q] at e
    obtain ⟨u, h1, h2⟩ := hd x v e
    obtain ⟨z, h3, h4⟩ := lsL_le h hs h2
    rw [q] at h4
    cases h4
    rw [h2, Nat.le_antisymm h1 h3]
/-- all below a set is right, and all steps from there are taken -/
def blw (E : Nat → Nat → Nat → Nat → Prop) (ds : Nat → Option Nat) (g : Nat) (d : Nat → Option Nat) : Prop := (∀ y, y / 7 < g → d y = ds y) ∧ ∀ y u x v, y / 7 < g → d y = some u → E y u x v → ∃ z, z ≤ v ∧ d x = some z
theorem blw_dn (h : lsL E a v0 ds) (hb : blw E ds g d0) (hs : snL E a v0 d1) (hd : dnL d0 d1) : blw E ds g d1 := by
  refine ⟨fun y hy => fkL h hs hd (hb.1 y hy), fun y u x v hy e hE => ?_⟩
  have e1 : d1 y = ds y := fkL h hs hd (hb.1 y hy)
  rw [e1, ← hb.1 y hy] at e
  obtain ⟨z, h1, h2⟩ := hb.2 y u x v hy e hE
  obtain ⟨z2, h3, h4⟩ := hd x z h2
  exact ⟨z2, by omega, h4⟩
theorem lay_low (hm : moL E) (hp : ∀ y u x v, E y u x v → u < v) (hl : ∀ y u x v, E y u x v → y / 7 ≤ x / 7) (h : lsL E a v0 ds) (hs : snL E a v0 d0) (hb : blw E ds g d0) (ha : d0 a = some v0) : ∀ v x, x / 7 = g → d0 x ≠ ds x → ds x = some v → ∃ x v y u, x / 7 = g ∧ y / 7 = g ∧ d0 x ≠ ds x ∧ ds x = some v ∧ d0 y = ds y ∧ d0 y = some u ∧ E y u x v := by
  intro v
  induction v using Nat.strongRecOn with
  | ind v ih =>
    intro x hx hne hv
    rcases lsL_p hm h hv with ⟨rfl, rfl⟩ | ⟨y, u, e, hE⟩
    · exact absurd (ha.trans hv.symm) hne
    · have hle := hl _ _ _ _ hE
      by_cases q : y / 7 = g
      · by_cases r : d0 y = ds y
        · exact ⟨x, v, y, u, hx, q, hne, hv, r, r.trans e, hE⟩
        · exact ih u (hp _ _ _ _ hE) y q r e
      · exfalso
        have e0 := hb.1 y (by omega)
        rw [e] at e0
        obtain ⟨z, h1, h2⟩ := hb.2 y u x v (by omega) e0 hE
        obtain ⟨z2, h3, h4⟩ := lsL_le h hs h2
        rw [hv] at h4
        cases h4
        exact hne (by rw [h2, hv, Nat.le_antisymm h1 h3])
theorem wrong_some {x : Nat} (h : lsL E a v0 ds) (hs : snL E a v0 d0) (hne : d0 x ≠ ds x) : ∃ v, ds x = some v := by
  cases e : ds x with
  | some v => exact ⟨v, rfl⟩
  | none =>
    exfalso
    cases e0 : d0 x with
    | none => exact hne (e0.trans e.symm)
    | some v =>
      obtain ⟨z, -, hz⟩ := lsL_le h hs e0
      rw [e] at hz
      cases hz
/-- how many are right in one set -/
def ctL (ds : Nat → Option Nat) (g : Nat) (d : Nat → Option Nat) : Nat := fb_ct (fun j => decide (d (g * 7 + j) = ds (g * 7 + j))) 7
theorem lay_one (hm : moL E) (hp : ∀ y u x v, E y u x v → u < v) (hl : ∀ y u x v, E y u x v → y / 7 ≤ x / 7) (h : lsL E a v0 ds) (hs : snL E a v0 d0) (hb : blw E ds g d0) (ha : d0 a = some v0) : 1 ≤ ctL ds g d0 := by
  refine Classical.byContradiction fun q => ?_
  have z := fb_ct_zero.mp (show ctL ds g d0 = 0 by omega)
  have h0 := of_decide_eq_false (z 0 (by omega))
  obtain ⟨v, hv⟩ := wrong_some h hs h0
  obtain ⟨x, v, y, u, -, hy, -, -, e, -⟩ := lay_low hm hp hl h hs hb ha v _ (by omega) h0 hv
  have := of_decide_eq_false (z (y % 7) (by omega))
  rw [show g * 7 + y % 7 = y by omega] at this
  exact this e
theorem lay_more (hm : moL E) (hp : ∀ y u x v, E y u x v → u < v) (hl : ∀ y u x v, E y u x v → y / 7 ≤ x / 7) (h : lsL E a v0 ds) (hs : snL E a v0 d0) (hb : blw E ds g d0) (ha : d0 a = some v0) (hs1 : snL E a v0 d1) (hd : dnL d0 d1) (hr : ∀ y u x v, y / 7 = g → d0 y = some u → E y u x v → ∃ z, z ≤ v ∧ d1 x = some z) (hx : ∃ x, x / 7 = g ∧ d0 x ≠ ds x) : ctL ds g d0 < ctL ds g d1 := by
  obtain ⟨x0, hx0, hn0⟩ := hx
  obtain ⟨v0', hv0⟩ := wrong_some h hs hn0
  obtain ⟨x, v, y, u, hx, hy, hne, hv, e, eu, hE⟩ := lay_low hm hp hl h hs hb ha v0' x0 hx0 hn0 hv0
  have ex : g * 7 + x % 7 = x := by omega
  refine ct_lt (x := x % 7) (fun j hj q => decide_eq_true (fkL h hs1 hd (of_decide_eq_true q))) (by omega) (decide_eq_false (by rw [ex]; exact hne)) (decide_eq_true ?_)
  rw [ex]
  obtain ⟨z, h1, h2⟩ := hr y u x v hy eu hE
  obtain ⟨z2, h3, h4⟩ := lsL_le h hs1 h2
  rw [hv] at h4
  cases h4
  rw [h2, hv, Nat.le_antisymm h1 h3]
end Go
