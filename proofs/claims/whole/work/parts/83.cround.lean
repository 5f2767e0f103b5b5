/-! ===== round, by the class: the call ===== -/
section Cq
variable {n t w W c k a o : Nat} {s : zS} {T : zT} {S : zD} {A : zA} {d ds : Nat → Option Nat} {x y z : Int32}
theorem mnO_cong {f g : Nat → Option Nat} : ∀ {m : Nat}, (∀ j, j < m → f j = g j) → mnO f m = mnO g m
  | 0, _ => rfl
  | m + 1, h => by
    unfold mnO
    rw [mnO_cong (m := m) (fun j hj => h j (by omega)), h m (by omega)]
theorem c_lr101 {b : Bool} (hn : 239 ≤ n) (ht : t = 6 ∨ t = 29) (hW : WT T) (hT : cTd s.1 t T) (hk : ∀ p, p < T 0 1 → k.testBit p = opnB T S w p) (hk2 : k < 512) (hW5 : W < 512) (hc : c ≤ 99) (ha7 : a < 7) (hL : lbN (W * 7 + 7) s d) (hb : cb d) (hs : snL (cE T S w W c) a c d) (ha : d a = some c) (hd : lsL (cE T S w W c) a c ds) :
    ∃ s' : zS, fX9_leastRound_101 n bi_K (mk s) 77 t (nI W) (nI b.toNat) (nI k) (nI c) (nI 0) = some (rdR b (mnO (fun j => ds (W * 7 + j)) (T 0 0)), mk s') ∧ s'.2 = s.2 ∧ ∀ b, b ≠ 79 → s'.1 b = s.1 b := by
  have h0 := hW.1
  refine lp_up (F := fun f (q : zS × (Nat → Option Nat)) i => fX9_leastRound_101 n f (mk q.1) 77 t (nI W) (nI b.toNat) (nI k) (nI c) (nI i)) (N := W + 1) (P := fun i q => q.1.2 = s.2 ∧ (∀ b, b ≠ 79 → q.1.1 b = s.1 b) ∧ lbN (W * 7 + 7) q.1 q.2 ∧ cb q.2 ∧ snL (cE T S w W c) a c q.2 ∧ q.2 a = some c ∧ blw (cE T S w W c) ds i q.2) (Q := fun r => ∃ s' : zS, r = some (rdR b (mnO (fun j => ds (W * 7 + j)) (T 0 0)), mk s') ∧ s'.2 = s.2 ∧ ∀ b, b ≠ 79 → s'.1 b = s.1 b) ?_ ?_ (W + 1) bi_K (s, d) 0 (by omega) (by unfold bi_K; omega) ⟨rfl, fun _ _ => rfl, hL, hb, hs, ha, fun y h => absurd h (Nat.not_lt_zero _), fun y u x v h => absurd h (Nat.not_lt_zero _)⟩
  · rintro f ⟨s1, d1⟩ i hi ⟨g1, g2, g3, g4, g5, g6, g7⟩
    left
    have g1 : s1.2 = s.2 := g1
    have g2 : ∀ b, b ≠ 79 → s1.1 b = s.1 b := g2
    have g3 : lbN (W * 7 + 7) s1 d1 := g3
    have g4 : cb d1 := g4
    have g5 : snL (cE T S w W c) a c d1 := g5
    have g6 : d1 a = some c := g6
    have g7 : blw (cE T S w W c) ds i d1 := g7
    have hT1 : cTd s1.1 t T := cTd_fr hT (fun b h1 h2 => g2 b (by omega))
    have ndl : nd i W < 512 := nd_lt (k := 9) (show i < 2 ^ 9 by omega)
    show ∃ q : zS × (Nat → Option Nat), fX9_leastRound_101b n (fX9_leastRound_101 n f) (mk s1) 77 t (nI W) (nI b.toNat) (nI k) (nI c) (nI i) = _ ∧ _
    unfold fX9_leastRound_101b fX9_leastRound_131
    by_cases q : nd i W = 0
    · have hg := nd_sub.mp q
      obtain ⟨s2, d2, e2, z2, o2, l2, b2, n2, a2, w2⟩ := c_goOn hn ht hW hT1 hk hk2 hW5 hc hg g3 g4 g5 g6 hd g7
      refine ⟨(s2, d2), ?_, by show s2.2 = s.2; rw [z2, g1], fun b hb => by show s2.1 b = s.1 b; rw [o2 b hb, g2 b hb], l2, b2, n2, a2, w2⟩
      simp (disch := first | omega | assumption | (simp only [wL_1, wL_22, wI_2, wA_2, wQ_1, wQ_21] <;> first | assumption | omega)) only [LIT, LITm, nI_add, n_mul, fa_or, n_31m, n_shl0, n_le, n_lt, n_eq, Option.bind_some, n_nd, q, e2, not_true_eq_false, show ¬ W < i by omega, ↓reduceIte]
    · refine ⟨(s1, d1), ?_, g1, g2, g3, g4, g5, g6, ?_⟩
      · simp (disch := first | omega | assumption | (simp only [wL_1, wL_22, wI_2, wA_2, wQ_1, wQ_21] <;> first | assumption | omega)) only [LIT, LITm, nI_add, n_mul, fa_or, n_31m, n_shl0, n_le, n_lt, n_eq, Option.bind_some, n_nd, q, not_false_eq_true, show ¬ W < i by omega, ↓reduceIte]
      · have non : ∀ dx, snL (cE T S w W c) a c dx → ∀ y, y / 7 = i → dx y = none := by
          intro dx hx y hy
          cases e : dx y with
          | none => rfl
          | some u =>
            obtain ⟨k2, hk2⟩ := hx y u e
            have := cE_sub hW ha7 k2 y u hk2
            rw [hy] at this
            exact absurd (nd_sub.mpr this) q
        refine ⟨fun y hy => ?_, fun y u x v hy e hE => ?_⟩
        · by_cases r : y / 7 = i
          · show d1 y = ds y
            rw [non d1 g5 y r, non ds hd.1 y r]
          · exact g7.1 y (by omega)
        · by_cases r : y / 7 = i
          · have e' : d1 y = some u := e
            rw [non d1 g5 y r] at e'
            cases e'
          · exact g7.2 y u x v (by omega) e hE
  · rintro f ⟨s1, d1⟩ ⟨g1, g2, g3, g4, g5, g6, g7⟩
    have g2 : ∀ b, b ≠ 79 → s1.1 b = s.1 b := g2
    have g7 : blw (cE T S w W c) ds (W + 1) d1 := g7
    have hT1 : cTd s1.1 t T := cTd_fr hT (fun b h1 h2 => g2 b (by omega))
    have e := c_lr144 (b := b) hn ht hW hT1 hW5 g3 g4
    refine ⟨s1, ?_, g1, g2⟩
    show fX9_leastRound_101b n (fX9_leastRound_101 n f) (mk s1) 77 t (nI W) (nI b.toNat) (nI k) (nI c) (nI (W + 1)) = _
    unfold fX9_leastRound_101b
    have nF : (1000000 : Int32) = nI 1000000 := rfl
    have em : mnO (fun j => d1 (W * 7 + j)) (T 0 0) = mnO (fun j => ds (W * 7 + j)) (T 0 0) := mnO_cong (fun j hj => g7.1 (W * 7 + j) (by omega))
    rw [← em, nF]
    simp (disch := first | omega | assumption | (simp only [wL_1, wL_22, wI_2, wA_2, wQ_1, wQ_21] <;> first | assumption | omega)) only [LIT, LITm, nI_add, n_mul, fa_or, n_31m, n_shl0, n_le, n_lt, n_eq, Option.bind_some, show W < W + 1 by omega, ↓reduceIte]
    exact e
theorem c_lr85 {b : Bool} (hn : 239 ≤ n) (ht : t = 6 ∨ t = 29) (ho : isS o) (ho2 : o + 4 < 68 ∨ 87 ≤ o) (hW : WT T) (hT : cTd s.1 t T) (hS : cSd s.1 o T S) (hD : wD T S) (hw : w < T 0 2) (hW5 : W < 512) (hc : c ≤ 99) (hL : ∀ j, j < W * 7 + 7 → s.1 79 j = nI 1000000) (hd : lsL (cE T S w W c) (S.2.2.1 0 w) c ds) :
    ∃ s' : zS, fX9_leastRound_85 n (mk s) 77 t o (nI w) (nI W) (nI b.toNat) (nI (opnV T S w)) (nI c) = some (rdR b (mnO (fun j => ds (W * 7 + j)) (T 0 0)), mk s') ∧ s'.2 = s.2 ∧ ∀ b, b ≠ 79 → s'.1 b = s.1 b := by
  have h0 := hW.1
  have hat := (hD.2.2.1 w hw).1
  obtain ⟨a, ea⟩ : ∃ a, a = S.2.2.1 0 w := ⟨_, rfl⟩
  have aw : s.1 (o + 3) w = nI a := by rw [ea]; exact (hS.2.2 w hw).1
  rw [← ea] at hd hat
  obtain ⟨s2, e2⟩ : ∃ s2 : zS, s2 = wI s 79 a (nI c) := ⟨_, rfl⟩
  have o2 : ∀ b, b ≠ 79 → s2.1 b = s.1 b := fun b hb => by rw [e2, wI_ne hb]
  have z2 : s2.2 = s.2 := by rw [e2]; rfl
  have hT2 : cTd s2.1 t T := cTd_fr hT (fun b g1 g2 => o2 b (by omega))
  obtain ⟨s3, e3, z3, o3⟩ := c_lr101 (b := b) (s := s2) (k := opnV T S w) (W := W) (c := c) (d := fun j => if j = a then some c else none) hn ht hW hT2 (fun p hp => by
    unfold opnV
    rw [goB_tb, decide_eq_true hp, Bool.true_and]) (opnV_lt hW) hW5 hc (by omega) (fun j hj => by
    rw [e2, wI_at]
    by_cases q : j = a
    · simp only [if_pos q]
      rw [q, upd_at]
      rfl
    · simp only [if_neg q]
      rw [upd_ne q]
      exact hL j hj) (fun j u hj => by
    by_cases q : j = a
    · simp only [if_pos q] at hj
      cases hj
      exact ⟨by omega, by omega⟩
    · simp only [if_neg q] at hj
      cases hj) (fun x v h => by
    by_cases q : x = a
    · simp only [if_pos q] at h
      cases h
      exact ⟨0, q, rfl⟩
    · simp only [if_neg q] at h
      cases h) (by simp only [if_true]) hd
  refine ⟨s3, ?_, by rw [z3, z2], fun b hb => by rw [o3 b hb, o2 b hb]⟩
  unfold fX9_leastRound_85
  rw [e2] at e3
  simp (disch := first | omega | assumption | (simp only [wL_1, wL_22, wI_2, wA_2, wQ_1, wQ_21] <;> first | assumption | omega)) only [LIT, LITm, nI_add, n_mul, fa_or, n_31m, n_shl0, n_le, n_lt, n_eq, Option.bind_some, B_wy hn, B_s hn ho, aw, e3]
theorem c_lr39 {b : Bool} (hn : 239 ≤ n) (ht : t = 6 ∨ t = 29) (ho : isS o) (ho2 : o + 4 < 68 ∨ 87 ≤ o) (hW : WT T) (hT : cTd s.1 t T) (hS : cSd s.1 o T S) (hD : wD T S) (hw : w < T 0 2) (hW5 : W < 512) (hc : c ≤ 99) (hd : lsL (cE T S w W c) (S.2.2.1 0 w) c ds) :
    ∃ s' : zS, fX9_leastRound_39 n (mk s) 77 t o (nI w) (nI W) (nI b.toNat) (nI (opnV T S w)) (nI c) = some (rdR b (mnO (fun j => ds (W * 7 + j)) (T 0 0)), mk s') ∧ s'.2 = s.2 ∧ ∀ b, b ≠ 79 → s'.1 b = s.1 b := by
  have nF : (1000000 : Int32) = nI 1000000 := rfl
  have h0 := hW.1
  unfold fX9_leastRound_39
  simp (disch := first | omega | assumption | (simp only [wL_1, wL_22, wI_2, wA_2, wQ_1, wQ_21] <;> first | assumption | omega)) only [LIT, LITm, nI_add, n_mul, fa_or, n_31m, n_shl0, n_le, n_lt, n_eq, Option.bind_some]
  refine lp_up (F := fun f (s1 : zS) i => fX9_leastRound_53 n f (mk s1) 77 t o (nI w) (nI W) (nI b.toNat) (nI (opnV T S w)) (nI c) (nI (7 * (W + 1))) (nI i)) (N := 7 * (W + 1)) (P := fun i s1 => s1.2 = s.2 ∧ (∀ b, b ≠ 79 → s1.1 b = s.1 b) ∧ ∀ j, j < i → s1.1 79 j = nI 1000000) (Q := fun r => ∃ s' : zS, r = some (rdR b (mnO (fun j => ds (W * 7 + j)) (T 0 0)), mk s') ∧ s'.2 = s.2 ∧ ∀ b, b ≠ 79 → s'.1 b = s.1 b) ?_ ?_ (7 * (W + 1)) bi_K s 0 (by omega) (by unfold bi_K; omega) ⟨rfl, fun _ _ => rfl, fun j h => absurd h (Nat.not_lt_zero j)⟩
  · intro f s1 i hi hP
    left
    refine ⟨wI s1 79 i (nI 1000000), ?_, hP.1, fun b hb => by rw [wI_ne hb]; exact hP.2.1 b hb, fun j hj => ?_⟩
    · show fX9_leastRound_53b n (fX9_leastRound_53 n f) (mk s1) 77 t o (nI w) (nI W) (nI b.toNat) (nI (opnV T S w)) (nI c) (nI (7 * (W + 1))) (nI i) = _
      unfold fX9_leastRound_53b
      rw [nF]
      simp (disch := first | omega | assumption | (simp only [wL_1, wL_22, wI_2, wA_2, wQ_1, wQ_21] <;> first | assumption | omega)) only [LIT, LITm, nI_add, n_mul, fa_or, n_31m, n_shl0, n_le, n_lt, n_eq, Option.bind_some, B_wy hn, show ¬ 7 * (W + 1) ≤ i by omega, show ¬ 3584 ≤ i by omega, ↓reduceIte]
    · by_cases e : j = i
      · rw [e, wI_at, upd_at]
      · rw [wI_at, upd_ne e]
        exact hP.2.2 j (by omega)
  · intro f s1 hP
    have hT1 : cTd s1.1 t T := cTd_fr hT (fun b g1 g2 => hP.2.1 b (by omega))
    have hS1 : cSd s1.1 o T S := cSd_fr hS (fun b g1 g2 => hP.2.1 b (by omega))
    obtain ⟨s2, e2, z2, o2⟩ := c_lr85 (b := b) hn ht ho ho2 hW hT1 hS1 hD hw hW5 hc (fun j hj => hP.2.2 j (by omega)) hd
    refine ⟨s2, ?_, by rw [z2, hP.1], fun b hb => by rw [o2 b hb, hP.2.1 b hb]⟩
    show fX9_leastRound_53b n (fX9_leastRound_53 n f) (mk s1) 77 t o (nI w) (nI W) (nI b.toNat) (nI (opnV T S w)) (nI c) (nI (7 * (W + 1))) (nI (7 * (W + 1))) = _
    unfold fX9_leastRound_53b
    simp (disch := first | omega | assumption | (simp only [wL_1, wL_22, wI_2, wA_2, wQ_1, wQ_21] <;> first | assumption | omega)) only [LIT, LITm, nI_add, n_mul, fa_or, n_31m, n_shl0, n_le, n_lt, n_eq, Option.bind_some, Nat.le_refl, ↓reduceIte]
    exact e2
/-- his pace, or none -/
def rdC (T : zT) (w : Nat) (b : Bool) : Nat := if b = true then T 11 w else 0
theorem rdC_le (hW : WT T) (hw : w < T 0 2) {b : Bool} : rdC T w b ≤ 99 := by
  have := hW.2.2.2.1 w hw
  unfold rdC
  split <;> omega
def rndV (T : zT) (S : zD) (w W : Nat) (b : Bool) (ds : Nat → Option Nat) : Int32 := if nd W (opnV T S w) = 0 then rdR b (mnO (fun j => ds (W * 7 + j)) (T 0 0)) else m2
theorem c_lround {b : Bool} (hn : 239 ≤ n) (ht : t = 6 ∨ t = 29) (ho : isS o) (ho2 : o + 4 < 68 ∨ 87 ≤ o) (hW : WT T) (hT : cTd s.1 t T) (hS : cSd s.1 o T S) (hD : wD T S) (hw : w < T 0 2) (hW5 : W < 512) (hd : lsL (cE T S w W (rdC T w b)) (S.2.2.1 0 w) (rdC T w b) ds) :
    ∃ s' : zS, fX9_leastRound n (mk s) 77 t o (nI w) (nI W) (nI b.toNat) = some (rndV T S w W b ds, mk s') ∧ s'.2 = s.2 ∧ ∀ b, b ≠ 79 → s'.1 b = s.1 b := by
  have h0 := hW.1
  have hw' := hW.2.2.2.1 w hw
  have op := c_openFor hn ht ho hW hT hS.1.2.2.2.2 hD hw
  have ndl : nd W (opnV T S w) < 512 := nd_lt (k := 9) (show W < 2 ^ 9 by omega)
  unfold fX9_leastRound rndV
  by_cases q : nd W (opnV T S w) = 0
  · obtain ⟨s', e, r⟩ := c_lr39 (b := b) (c := rdC T w b) hn ht ho ho2 hW hT hS hD hw hW5 (rdC_le hW hw) hd
    refine ⟨s', ?_, r⟩
    rw [if_pos q]
    cases b with
    | false =>
      have e' : fX9_leastRound_39 n (mk s) 77 t o (nI w) (nI W) (nI 0) (nI (opnV T S w)) (nI 0) = _ := e
      simp (disch := first | omega | assumption | (simp only [wL_1, wL_22, wI_2, wA_2, wQ_1, wQ_21] <;> first | assumption | omega)) only [LIT, LITm, nI_add, n_mul, fa_or, n_31m, n_shl0, n_le, n_lt, n_eq, Option.bind_some, B_wy hn, op, n_nd, q, Bool.toNat_false, e', ↓reduceIte]
    | true =>
      have e' : fX9_leastRound_39 n (mk s) 77 t o (nI w) (nI W) (nI 1) (nI (opnV T S w)) (nI (T 11 w)) = _ := e
      simp (disch := first | omega | assumption | (simp only [wL_1, wL_22, wI_2, wA_2, wQ_1, wQ_21] <;> first | assumption | omega)) only [LIT, LITm, nI_add, n_mul, fa_or, n_31m, n_shl0, n_le, n_lt, n_eq, Option.bind_some, B_wy hn, B_t hn ht, CT hn ht hW, CTp t T, op, n_nd, q, Bool.toNat_true, Nat.reduceEqDiff, Nat.reduceLeDiff, e', ↓reduceIte]
  · refine ⟨s, ?_, rfl, fun _ _ => rfl⟩
    rw [if_neg q]
    simp (disch := first | omega | assumption | (simp only [wL_1, wL_22, wI_2, wA_2, wQ_1, wQ_21] <;> first | assumption | omega)) only [LIT, LITm, nI_add, n_mul, fa_or, n_31m, n_shl0, n_le, n_lt, n_eq, Option.bind_some, B_wy hn, op, n_nd, q, ↓reduceIte]
def rndOk (T : zT) (x y z : Int32) : Prop := inR x (T 0 2) = true ∧ inR y (2 ^ T 0 1) = true ∧ wiV 0 z 1 = true
theorem p2_le (hW : WT T) : 2 ^ T 0 1 ≤ 512 := Nat.pow_le_pow_right (n := 2) (j := 9) (by decide) hW.1.2.1
theorem c_round (hn : 239 ≤ n) (hK : cK s t A) (hA : wfA A) : (∀ w W (b : Bool) ds, w < aT A 0 2 → W < 2 ^ aT A 0 1 → lsL (cE (aT A) (aS A) w W (rdC (aT A) w b)) ((aS A).2.2.1 0 w) (rdC (aT A) w b) ds → ∃ s' : zS, fX10_round n (mk s) 1 (nI w) (nI W) (nI b.toNat) = some (rndV (aT A) (aS A) w W b ds, mk s') ∧ frS s s') ∧ (¬ rndOk (aT A) x y z → fX10_round n (mk s) 1 x y z = some (m1, mk s)) := by
  have ht := cK_t hK
  have hW := hA.1
  have h0 := hW.1
  have hP := fun x => c_isWalker hn hK hA (x := x)
  have p2 := p2_le hW
  obtain ⟨k1, k2, k3, k4, k5, k6, k7, k8, k9⟩ := hK
  have c1 : s.1 (t + 4) 4 = nI (aT A 0 1) := (CTp t (aT A)).2.1 s k3
  refine ⟨fun w W b ds hw hW5 hd => ?_, fun h => ?_⟩
  · obtain ⟨s', e, z', o'⟩ := c_lround hn ht is_52 (by omega) hW k3 k4 hA.2.1 hw (by omega) hd
    refine ⟨s', ?_, fun b j hb => by rw [o' b (fun q => hb (by unfold scr; omega))], fun b _ => by rw [z'], fun b _ => by rw [z']⟩
    unfold fX10_round fX10_round_63
    cases b with
    | false =>
      have e' : fX9_leastRound n (mk s) 77 t 52 (nI w) (nI W) (nI 0) = _ := e
      simp (disch := first | omega | assumption | (simp only [wL_1, wL_22, wI_2, wA_2, wQ_1, wQ_21] <;> first | assumption | omega)) only [LIT, LITm, nI_add, n_mul, fa_or, n_31m, n_shl0, n_le, n_lt, n_eq, Option.bind_some, B_K hn, B_t hn ht, c1, hP, inR_n hw (by omega), k2, c_within, wiV_n, e', Bool.toNat_true, Bool.toNat_false, Nat.reduceEqDiff, Nat.reduceLeDiff, Nat.not_lt_zero, show ¬ 2 ^ aT A 0 1 ≤ W by omega, not_false_eq_true, ↓reduceIte]
    | true =>
      have e' : fX9_leastRound n (mk s) 77 t 52 (nI w) (nI W) (nI 1) = _ := e
      simp (disch := first | omega | assumption | (simp only [wL_1, wL_22, wI_2, wA_2, wQ_1, wQ_21] <;> first | assumption | omega)) only [LIT, LITm, nI_add, n_mul, fa_or, n_31m, n_shl0, n_le, n_lt, n_eq, Option.bind_some, B_K hn, B_t hn ht, c1, hP, inR_n hw (by omega), k2, c_within, wiV_n, e', Bool.toNat_true, Nat.reduceEqDiff, Nat.reduceLeDiff, Nat.not_lt_zero, show ¬ 2 ^ aT A 0 1 ≤ W by omega, not_false_eq_true, not_true_eq_false, ↓reduceIte]
  · unfold fX10_round
    cases g : inR x (aT A 0 2) with
    | false => simp (disch := first | omega | assumption | (simp only [wL_1, wL_22, wI_2, wA_2, wQ_1, wQ_21] <;> first | assumption | omega)) only [LIT, LITm, nI_add, n_mul, fa_or, n_31m, n_shl0, n_le, n_lt, n_eq, Option.bind_some, B_K hn, hP, g, Bool.toNat_false, ↓reduceIte]
    | true =>
      by_cases y0 : y < nI 0
      · simp (disch := first | omega | assumption | (simp only [wL_1, wL_22, wI_2, wA_2, wQ_1, wQ_21] <;> first | assumption | omega)) only [LIT, LITm, nI_add, n_mul, fa_or, n_31m, n_shl0, n_le, n_lt, n_eq, Option.bind_some, B_K hn, hP, g, y0, Bool.toNat_true, Nat.reduceEqDiff, Nat.reduceLeDiff, ↓reduceIte]
      · by_cases y1 : nI (2 ^ aT A 0 1) ≤ y
        · simp (disch := first | omega | assumption | (simp only [wL_1, wL_22, wI_2, wA_2, wQ_1, wQ_21] <;> first | assumption | omega)) only [LIT, LITm, nI_add, n_mul, fa_or, n_31m, n_shl0, n_le, n_lt, n_eq, Option.bind_some, B_K hn, B_t hn ht, c1, hP, g, k2, y0, y1, Bool.toNat_true, Nat.reduceEqDiff, Nat.reduceLeDiff, ↓reduceIte]
        · have gy : inR y (2 ^ aT A 0 1) = true := decide_eq_true ⟨y0, y1⟩
          have g2 : wiV 0 z 1 = false := bF (fun q => h ⟨g, gy, q⟩)
          simp (disch := first | omega | assumption | (simp only [wL_1, wL_22, wI_2, wA_2, wQ_1, wQ_21] <;> first | assumption | omega)) only [LIT, LITm, nI_add, n_mul, fa_or, n_31m, n_shl0, n_le, n_lt, n_eq, Option.bind_some, B_K hn, B_t hn ht, c1, hP, g, k2, y0, y1, c_within, g2, Bool.toNat_true, Bool.toNat_false, Nat.reduceEqDiff, Nat.reduceLeDiff, not_true_eq_false, ↓reduceIte]
end Cq
