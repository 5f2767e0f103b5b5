/-! ===== round, by the class: from one set on, and from all of them ===== -/
section Gp
variable {n t w W c g k a v0 o : Nat} {s : zS} {T : zT} {S : zD} {d d0 d1 ds : Nat → Option Nat}
theorem c_goOn (hn : 239 ≤ n) (ht : t = 6 ∨ t = 29) (hW : WT T) (hT : cTd s.1 t T) (hk : ∀ p, p < T 0 1 → k.testBit p = opnB T S w p) (hk2 : k < 512) (hW5 : W < 512) (hc : c ≤ 99) (hg : g ||| W = W) (hL : lbN (W * 7 + 7) s d) (hb : cb d) (hs : snL (cE T S w W c) a v0 d) (ha : d a = some v0) (hd : lsL (cE T S w W c) a v0 ds) (hbl : blw (cE T S w W c) ds g d) :
    ∃ (s' : zS) (d' : Nat → Option Nat), fX9_goOn n (mk s) 77 t (nI k) (nI W) (nI g) (nI c) = some ((), mk s') ∧ s'.2 = s.2 ∧ (∀ b, b ≠ 79 → s'.1 b = s.1 b) ∧ lbN (W * 7 + 7) s' d' ∧ cb d' ∧ snL (cE T S w W c) a v0 d' ∧ d' a = some v0 ∧ blw (cE T S w W c) ds (g + 1) d' := by
  have h0 := hW.1
  have hgW : g ≤ W := by rw [← hg]; exact Nat.left_le_or
  have hm : moL (cE T S w W c) := cE_mo
  have hp : ∀ y u x v, cE T S w W c y u x v → u < v := fun _ _ _ _ h => cE_b hW h
  have hl : ∀ y u x v, cE T S w W c y u x v → y / 7 ≤ x / 7 := fun _ _ _ _ h => cE_lay hW h
  have a_le : ∀ dx, dnL d dx → snL (cE T S w W c) a v0 dx → dx a = some v0 := by
    intro dx h1 h2
    have e : d a = ds a := by
      obtain ⟨u, q1, q2⟩ := hd.2 0 a v0 ⟨rfl, rfl⟩
      obtain ⟨k2, hk2⟩ := hd.1 a u q2
      obtain ⟨u2, q3, q4⟩ := lsL_le hd hs ha
      rw [q2] at q4
      cases q4
      have : v0 ≤ u := by
        have mono : ∀ k x v, rcL (cE T S w W c) a v0 k x v → v0 ≤ v := by
          intro k
          induction k with
          | zero => rintro x v ⟨-, rfl⟩; exact Nat.le_refl _
          | succ k ih =>
            rintro x v ⟨y, u, r1, r2⟩
            have := ih y u r1
            have := hp _ _ _ _ r2
            omega
        exact mono k2 a u hk2
      rw [ha, q2, Nat.le_antisymm this q1]
    rw [fkL hd h2 h1 e, ← e, ha]
  unfold fX9_goOn
  simp only [B_wy hn, Option.bind_some]
  refine lp_up (F := fun f (q : zS × (Nat → Option Nat) × Bool) i => fX9_goOn_6 n f (mk q.1) 77 t (nI k) (nI W) (nI g) (nI c) (nI q.2.2.toNat) (nI i)) (N := 7) (P := fun i q => q.1.2 = s.2 ∧ (∀ b, b ≠ 79 → q.1.1 b = s.1 b) ∧ lbN (W * 7 + 7) q.1 q.2.1 ∧ cb q.2.1 ∧ snL (cE T S w W c) a v0 q.2.1 ∧ dnL d q.2.1 ∧ (((∀ x, x / 7 = g → q.2.1 x = ds x) ∧ ∀ y u x v, y / 7 = g → q.2.1 y = some u → cE T S w W c y u x v → ∃ z, z ≤ v ∧ q.2.1 x = some z) ∨ (q.2.2 = true ∧ i < 7 ∧ i + 1 ≤ ctL ds g q.2.1))) (Q := fun r => ∃ (s' : zS) (d' : Nat → Option Nat), r = some ((), mk s') ∧ s'.2 = s.2 ∧ (∀ b, b ≠ 79 → s'.1 b = s.1 b) ∧ lbN (W * 7 + 7) s' d' ∧ cb d' ∧ snL (cE T S w W c) a v0 d' ∧ d' a = some v0 ∧ blw (cE T S w W c) ds (g + 1) d') ?_ ?_ 7 bi_K (s, d, true) 0 (by omega) (by unfold bi_K; omega) ⟨rfl, fun _ _ => rfl, hL, hb, hs, dnL_r, Or.inr ⟨rfl, by omega, lay_one hm hp hl hd hs hbl ha⟩⟩
  · rintro f ⟨s1, d1, fl⟩ i hi ⟨g1, g2, g3, g4, g5, g6, g7⟩
    have g1 : s1.2 = s.2 := g1
    have g2 : ∀ b, b ≠ 79 → s1.1 b = s.1 b := g2
    have g3 : lbN (W * 7 + 7) s1 d1 := g3
    have g4 : cb d1 := g4
    have g5 : snL (cE T S w W c) a v0 d1 := g5
    have g6 : dnL d d1 := g6
    have g7 : ((∀ x, x / 7 = g → d1 x = ds x) ∧ ∀ y u x v, y / 7 = g → d1 y = some u → cE T S w W c y u x v → ∃ z, z ≤ v ∧ d1 x = some z) ∨ (fl = true ∧ i < 7 ∧ i + 1 ≤ ctL ds g d1) := g7
    have hT1 : cTd s1.1 t T := cTd_fr hT (fun b h1 h2 => g2 b (by omega))
    have bl1 := blw_dn hd hbl g5 g6
    have a1 := a_le d1 g6 g5
    cases fl with
    | false =>
      right
      rcases g7 with g7 | ⟨h, -⟩
      · refine ⟨s1, d1, ?_, g1, g2, g3, g4, g5, a1, fun y hy => ?_, fun y u x v hy e hE => ?_⟩
        · show fX9_goOn_6b n (fX9_goOn_6 n f) (mk s1) 77 t (nI k) (nI W) (nI g) (nI c) (nI false.toNat) (nI i) = _
          unfold fX9_goOn_6b
          simp (disch := first | omega | assumption | (simp only [wL_1, wL_22, wI_2, wA_2, wQ_1, wQ_21] <;> first | assumption | omega)) only [LIT, LITm, nI_add, n_mul, fa_or, n_31m, n_shl0, n_le, n_lt, n_eq, Option.bind_some, Bool.toNat_false, show ¬ 7 ≤ i by omega, ↓reduceIte]
        · by_cases q : y / 7 = g
          · exact g7.1 y q
          · exact bl1.1 y (by omega)
        · by_cases q : y / 7 = g
          · exact g7.2 y u x v q e hE
          · exact bl1.2 y u x v (by omega) e hE
      · cases h
    | true =>
      left
      obtain ⟨s2, d2, fl2, e2, z2, o2, l2, b2, n2, m2', r2, f2⟩ := c_go24 (r6 := fX9_goOn_6 n f) (v := i) hn ht hW hT1 hk hk2 hW5 hc hg g3 g4 g5 hi
      refine ⟨(s2, d2, fl2), ?_, by show s2.2 = s.2; rw [z2, g1], fun b hb => by show s2.1 b = s.1 b; rw [o2 b hb, g2 b hb], l2, b2, n2, dnL_t g6 m2', ?_⟩
      · show fX9_goOn_6b n (fX9_goOn_6 n f) (mk s1) 77 t (nI k) (nI W) (nI g) (nI c) (nI true.toNat) (nI i) = _
        unfold fX9_goOn_6b
        simp (disch := first | omega | assumption | (simp only [wL_1, wL_22, wI_2, wA_2, wQ_1, wQ_21] <;> first | assumption | omega)) only [LIT, LITm, nI_add, n_mul, fa_or, n_31m, n_shl0, n_le, n_lt, n_eq, Option.bind_some, Bool.toNat_true, Nat.reduceEqDiff, Nat.reduceLeDiff, show ¬ 7 ≤ i by omega, ↓reduceIte]
        exact e2
      · show ((∀ x, x / 7 = g → d2 x = ds x) ∧ ∀ y u x v, y / 7 = g → d2 y = some u → cE T S w W c y u x v → ∃ z, z ≤ v ∧ d2 x = some z) ∨ (fl2 = true ∧ i + 1 < 7 ∧ i + 1 + 1 ≤ ctL ds g d2)
        have fin : (∀ x, x / 7 = g → d1 x = ds x) → ((∀ x, x / 7 = g → d2 x = ds x) ∧ ∀ y u x v, y / 7 = g → d2 y = some u → cE T S w W c y u x v → ∃ z, z ≤ v ∧ d2 x = some z) := by
          intro al
          have al2 : ∀ x, x / 7 = g → d2 x = ds x := fun x hx => fkL hd n2 m2' (al x hx)
          refine ⟨al2, fun y u x v hy e hE => ?_⟩
          rw [al2 y hy, ← al y hy] at e
          exact r2 y u x v hy e hE
        by_cases q : ∃ x, x / 7 = g ∧ d1 x ≠ ds x
        · have mo : ctL ds g d1 < ctL ds g d2 := lay_more hm hp hl hd g5 bl1 a1 n2 m2' r2 q
          have cnt : i + 1 ≤ ctL ds g d1 := by
            rcases g7 with ⟨h, -⟩ | ⟨-, -, h⟩
            · obtain ⟨x, h1, h2⟩ := q
              exact absurd (h x h1) h2
            · exact h
          right
          have le7 : ctL ds g d2 ≤ 7 := fb_ct_le _ _
          cases ef : fl2 with
          | true => exact ⟨rfl, by omega, by omega⟩
          | false =>
            exfalso
            have e := f2 ef
            have : ctL ds g d2 = ctL ds g d1 := fb_ct_cong (fun j hj => by rw [e (g * 7 + j) (by omega)])
            omega
        · left
          exact fin (fun x hx => Classical.byContradiction fun r => q ⟨x, hx, r⟩)
  · rintro f ⟨s1, d1, fl⟩ ⟨g1, g2, g3, g4, g5, g6, g7⟩
    have g5 : snL (cE T S w W c) a v0 d1 := g5
    have g6 : dnL d d1 := g6
    have bl1 := blw_dn hd hbl g5 g6
    have a1 := a_le d1 g6 g5
    rcases g7 with g7 | ⟨-, h, -⟩
    · refine ⟨s1, d1, ?_, g1, g2, g3, g4, g5, a1, fun y hy => ?_, fun y u x v hy e hE => ?_⟩
      · show fX9_goOn_6b n (fX9_goOn_6 n f) (mk s1) 77 t (nI k) (nI W) (nI g) (nI c) (nI fl.toNat) (nI 7) = _
        unfold fX9_goOn_6b
        simp (disch := first | omega | assumption | (simp only [wL_1, wL_22, wI_2, wA_2, wQ_1, wQ_21] <;> first | assumption | omega)) only [LIT, LITm, nI_add, n_mul, fa_or, n_31m, n_shl0, n_le, n_lt, n_eq, Option.bind_some, Nat.le_refl, ↓reduceIte]
      · by_cases q : y / 7 = g
        · exact g7.1 y q
        · exact bl1.1 y (by omega)
      · by_cases q : y / 7 = g
        · exact g7.2 y u x v q e hE
        · exact bl1.2 y u x v (by omega) e hE
    · omega
/-- sets that are come to are of the wanted ones -/
theorem cE_sub (hW : WT T) (ha : a < 7) : ∀ k x v, rcL (cE T S w W c) a v0 k x v → x / 7 ||| W = W
  | 0, x, v, h => by
    rw [h.1, show a / 7 = 0 by omega, Nat.zero_or]
  | k + 1, x, v, ⟨y, u, h1, p, hp, ho, hy, hx, hv⟩ => by
    have ih := cE_sub hW ha k y u h1
    have := oth_lt (x := y % 7) hW hp
    rw [show x / 7 = (y / 7 ||| (2 ^ p &&& W)) by omega]
    apply Nat.eq_of_testBit_eq
    intro i
    have hi := congrArg (fun m => m.testBit i) ih
    simp only [Nat.testBit_or, Nat.testBit_and] at hi ⊢
    revert hi
    cases (y / 7).testBit i <;> cases W.testBit i <;> cases (2 ^ p).testBit i <;> decide
theorem nd_sub {x : Nat} : nd x W = 0 ↔ x ||| W = W := by
  constructor
  · intro h
    apply Nat.eq_of_testBit_eq
    intro i
    have hi := congrArg (fun m => m.testBit i) h
    simp only [nd_tb, Nat.zero_testBit] at hi
    rw [Nat.testBit_or]
    cases e1 : x.testBit i <;> cases e2 : W.testBit i <;> simp_all
  · intro h
    apply Nat.eq_of_testBit_eq
    intro i
    have hi := congrArg (fun m => m.testBit i) h
    simp only [Nat.testBit_or] at hi
    rw [nd_tb, Nat.zero_testBit]
    cases e1 : x.testBit i <;> cases e2 : W.testBit i <;> simp_all
/-- the least of some -/
def mnO (f : Nat → Option Nat) : Nat → Option Nat
  | 0 => none
  | k + 1 => match mnO f k, f k with
    | none, b => b
    | some u, none => some u
    | some u, some v => some (if v < u then v else u)
def rdR (b : Bool) (o : Option Nat) : Int32 := match o with | none => m2 | some v => if b then nI (v / 128) else nI v
theorem fr_mn {f : Nat → Option Nat} {k : Nat} (h : ∀ j u, f j = some u → u < 1000000) : (∀ u, mnO f k = some u → u < 1000000) ∧ fr (mnO f (k + 1)) = if fr (f k) < fr (mnO f k) then fr (f k) else fr (mnO f k) := by
  have b : ∀ k u, mnO f k = some u → u < 1000000 := by
    intro k
    induction k with
    | zero => intro u e; cases e
    | succ k ih =>
      intro u e
      unfold mnO at e
      cases e1 : mnO f k with
      | none =>
        rw [e1] at e
        exact h k u e
      | some x =>
        have := ih x e1
        cases e2 : f k with
        | none =>
          rw [e1, e2] at e
          cases e
          exact this
        | some y =>
          have := h k y e2
          rw [e1, e2] at e
          cases e
          split <;> omega
  refine ⟨b k, ?_⟩
  show fr (match mnO f k, f k with
    | none, b => b
    | some u, none => some u
    | some u, some v => some (if v < u then v else u)) = _
  cases e1 : mnO f k with
  | none =>
    cases e2 : f k with
    | none => simp only [Nat.lt_irrefl, if_false]
    | some y =>
      have := h k y e2
      have e3 : fr (some y) < fr none := this
      rw [if_pos e3]
  | some x =>
    have := b k x e1
    cases e2 : f k with
    | none =>
      have e3 : ¬ fr none < fr (some x) := by show ¬ 1000000 < x; omega
      rw [if_neg e3]
    | some y =>
      show (if y < x then y else x) = if y < x then y else x
      rfl
theorem c_lr144 {b : Bool} (hn : 239 ≤ n) (ht : t = 6 ∨ t = 29) (hW : WT T) (hT : cTd s.1 t T) (hW5 : W < 512) (hL : lbN (W * 7 + 7) s d) (hb : cb d) : fX9_leastRound_144 n bi_K (mk s) 77 t (nI W) (nI b.toNat) (nI 1000000) (nI 0) = some (rdR b (mnO (fun j => d (W * 7 + j)) (T 0 0)), mk s) := by
  have h0 := hW.1
  have nF : (1000000 : Int32) = nI 1000000 := rfl
  have bd : ∀ j u, d (W * 7 + j) = some u → u < 1000000 := fun j u e => by have := cb_b hb e; omega
  refine lp_up (F := fun f (_ : Unit) i => fX9_leastRound_144 n f (mk s) 77 t (nI W) (nI b.toNat) (nI (fr (mnO (fun j => d (W * 7 + j)) i))) (nI i)) (N := T 0 0) (P := fun _ _ => True) (Q := fun r => r = some (rdR b (mnO (fun j => d (W * 7 + j)) (T 0 0)), mk s)) ?_ ?_ (T 0 0) bi_K () 0 (by omega) (by unfold bi_K; omega) trivial
  · intro f _ i hi _
    left
    refine ⟨(), ?_, trivial⟩
    have l := hL (W * 7 + i) (by omega)
    have fm := fr_mn (f := fun j => d (W * 7 + j)) (k := i) bd
    have x1 := cb_fr hb (W * 7 + i)
    have x2 : fr (mnO (fun j => d (W * 7 + j)) i) ≤ 1000000 := by
      cases e : mnO (fun j => d (W * 7 + j)) i with
      | none => exact Nat.le_refl _
      | some u =>
        have := fm.1 u e
        show u ≤ 1000000
        omega
    show fX9_leastRound_144b n (fX9_leastRound_144 n f) (mk s) 77 t (nI W) (nI b.toNat) (nI (fr (mnO (fun j => d (W * 7 + j)) i))) (nI i) = fX9_leastRound_144 n f (mk s) 77 t (nI W) (nI b.toNat) (nI (fr (mnO (fun j => d (W * 7 + j)) (i + 1)))) (nI (i + 1))
    unfold fX9_leastRound_144b
    rw [fm.2]
    have l' : s.1 79 (7 * W + i) = nI (fr (d (W * 7 + i))) := by rw [Nat.mul_comm]; exact l
    by_cases q : fr (d (W * 7 + i)) < fr (mnO (fun j => d (W * 7 + j)) i)
    · rw [if_pos q]
      simp (disch := first | omega | assumption | (simp only [wL_1, wL_22, wI_2, wA_2, wQ_1, wQ_21] <;> first | assumption | omega)) only [LIT, LITm, nI_add, n_mul, fa_or, n_31m, n_shl0, n_le, n_lt, n_eq, Option.bind_some, B_t hn ht, CTp t T, B_wy hn, l', q, show ¬ T 0 0 ≤ i by omega, ↓reduceIte]
    · rw [if_neg q]
      simp (disch := first | omega | assumption | (simp only [wL_1, wL_22, wI_2, wA_2, wQ_1, wQ_21] <;> first | assumption | omega)) only [LIT, LITm, nI_add, n_mul, fa_or, n_31m, n_shl0, n_le, n_lt, n_eq, Option.bind_some, B_t hn ht, CTp t T, B_wy hn, l', q, show ¬ T 0 0 ≤ i by omega, ↓reduceIte]
  · intro f _ _
    have fm := fr_mn (f := fun j => d (W * 7 + j)) (k := T 0 0) bd
    show fX9_leastRound_144b n (fX9_leastRound_144 n f) (mk s) 77 t (nI W) (nI b.toNat) (nI (fr (mnO (fun j => d (W * 7 + j)) (T 0 0)))) (nI (T 0 0)) = _
    unfold fX9_leastRound_144b
    rw [nF]
    cases e : mnO (fun j => d (W * 7 + j)) (T 0 0) with
    | none =>
      have e' : fr none = 1000000 := rfl
      rw [e']
      simp (disch := first | omega | assumption | (simp only [wL_1, wL_22, wI_2, wA_2, wQ_1, wQ_21] <;> first | assumption | omega)) only [LIT, LITm, nI_add, n_mul, fa_or, n_31m, n_shl0, n_le, n_lt, n_eq, Option.bind_some, B_t hn ht, CTp t T, Nat.lt_irrefl, Nat.le_refl, ↓reduceIte, rdR]
    | some u =>
      have hu := fm.1 u e
      have e' : fr (some u) = u := rfl
      have e7 : (nI u >>> nI 7) = nI (u / 128) := by
        rw [n_shr0 (by omega) (by omega), Nat.shiftRight_eq_div_pow]
      rw [e']
      cases b with
      | false => simp (disch := first | omega | assumption | (simp only [wL_1, wL_22, wI_2, wA_2, wQ_1, wQ_21] <;> first | assumption | omega)) only [LIT, LITm, nI_add, n_mul, fa_or, n_31m, n_shl0, n_le, n_lt, n_eq, Option.bind_some, B_t hn ht, CTp t T, hu, Nat.le_refl, Bool.toNat_false, Bool.false_eq_true, if_false, ↓reduceIte, rdR]
      | true => simp (disch := first | omega | assumption | (simp only [wL_1, wL_22, wI_2, wA_2, wQ_1, wQ_21] <;> first | assumption | omega)) only [LIT, LITm, nI_add, n_mul, fa_or, n_31m, n_shl0, n_le, n_lt, n_eq, Option.bind_some, B_t hn ht, CTp t T, hu, e7, Nat.reduceEqDiff, Nat.reduceLeDiff, Nat.le_refl, Bool.toNat_true, if_true, ↓reduceIte, rdR]
end Gp
