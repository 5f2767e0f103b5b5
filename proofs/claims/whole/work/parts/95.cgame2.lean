/-! ===== the squire's game: the class, begun and answered ===== -/
section Ch
variable {n t o a c K g m : Nat} {s : zS} {T : zT} {S : zD} {A : zA} {b0 b : Bool} {x y z w : Int32}
theorem led_0 (hW : WT T) (ha : a < 7) (ne : a ≠ c) : ledB T a c 0 = false := by
  cases e : ledB T a c 0 with
  | false => rfl
  | true =>
    unfold ledB at e
    have h := (spS_cn hW ha).mp e
    have := h (fun i => decide (i = a)) (fun p _ hk => by
      have hk' : Nat.testBit 0 p = true := hk
      rw [Nat.zero_testBit] at hk'
      cases hk') (decide_eq_true rfl)
    exact absurd (of_decide_eq_true this).symm ne
theorem c_fill86 (hn : 239 ≤ n) : ∃ s' : zS, fJ7_fill_53178 n (mk s) 86 (nI 0) = some ((), mk s') ∧ (∀ a, a ≠ 86 → s'.1 a = s.1 a) ∧ s'.2 = s.2 ∧ ∀ j, j < 1231 → s'.1 86 j = nI 0 := by
  unfold fJ7_fill_53178
  simp (disch := first | omega | assumption | (simp only [wL_1, wL_22, wI_2, wA_2, wQ_1, wQ_21] <;> first | assumption | omega)) only [LIT, LITm, nI_add, n_mul, fa_or, n_31m, n_shl0, n_le, n_lt, n_eq, Option.bind_some, B_g hn]
  refine lp_up (F := fun k (s1 : zS) i => fJ7_fill_53178_5 n k (mk s1) 86 (nI 0) (nI i) (nI 1231)) (N := 1231) (P := fun i s1 => (∀ a, a ≠ 86 → s1.1 a = s.1 a) ∧ s1.2 = s.2 ∧ ∀ w, w < i → s1.1 86 w = nI 0) (Q := fun r => ∃ s' : zS, r = some ((), mk s') ∧ (∀ a, a ≠ 86 → s'.1 a = s.1 a) ∧ s'.2 = s.2 ∧ ∀ w, w < 1231 → s'.1 86 w = nI 0) ?_ ?_ 1231 bi_K s 0 (by omega) (by unfold bi_K; omega) ⟨fun _ _ => rfl, rfl, fun w h => by omega⟩
  · intro k s1 i hi hP
    left
    refine ⟨wI s1 86 i (nI 0), ?_, fun a ha => by rw [wI_ne ha]; exact hP.1 a ha, hP.2.1, fun w hw => ?_⟩
    · show fJ7_fill_53178_5b n (fJ7_fill_53178_5 n k) (mk s1) 86 (nI 0) (nI i) (nI 1231) = _
      unfold fJ7_fill_53178_5b
      simp (disch := first | omega | assumption | (simp only [wL_1, wL_22, wI_2, wA_2, wQ_1, wQ_21] <;> first | assumption | omega)) only [LIT, LITm, nI_add, n_mul, fa_or, n_31m, n_shl0, n_le, n_lt, n_eq, Option.bind_some, B_g hn, show ¬ 1231 ≤ i by omega, ↓reduceIte]
    · by_cases e : w = i
      · rw [e, wI_at, upd_at]
      · rw [wI_at, upd_ne e]
        exact hP.2.2 w (by omega)
  · intro k s1 hP
    refine ⟨s1, ?_, hP⟩
    show fJ7_fill_53178_5b n (fJ7_fill_53178_5 n k) (mk s1) 86 (nI 0) (nI 1231) (nI 1231) = _
    unfold fJ7_fill_53178_5b
    simp (disch := first | omega | assumption | (simp only [wL_1, wL_22, wI_2, wA_2, wQ_1, wQ_21] <;> first | assumption | omega)) only [LIT, LITm, nI_add, n_mul, fa_or, n_31m, n_shl0, n_le, n_lt, n_eq, Option.bind_some, Nat.le_refl, ↓reduceIte]
/-- what the game's rows hold from call to call -/
def gI0 (s : zS) : Prop := s.1 85 0 = nI 0
theorem sub_nd {k : Nat} : nd k K = 0 ↔ sub k K := by
  rw [nd_sub]
  constructor
  · intro h i hi
    have := congrArg (fun m => m.testBit i) h
    simp only [Nat.testBit_or] at this
    rw [hi, Bool.true_or] at this
    exact this.symm
  · intro h
    apply Nat.eq_of_testBit_eq
    intro i
    rw [Nat.testBit_or]
    have := h i
    revert this
    cases k.testBit i <;> cases K.testBit i <;> decide
theorem c_gbegin (hn : 239 ≤ n) (ht : t = 6 ∨ t = 29) (hW : WT T) (hT : cTd s.1 t T) (ha : a < 7) (hc : c < 7) (ne : a ≠ c) (hK : K < 512) (hg : gI0 s) : ∃ s' : zS, fX1_begin n (mk s) 84 t (nI K) (nI a) (nI c) = some ((), mk s') ∧ s'.2 = s.2 ∧ (∀ b, b < 84 ∨ 86 < b → s'.1 b = s.1 b) ∧ gH s' T a c K ∧ (∀ b0, memo s' K (ledB T a c) b0) ∧ gI0 s' := by
  have g4 : s.1 85 0 = nI 0 := hg
  have mon := led_mon (c := c) hW ha
  have l0 := led_0 hW ha ne
  obtain ⟨sf, ef, f1, f2, f3⟩ := c_fill86 (s := s) hn
  obtain ⟨s0, es0⟩ : ∃ s0 : zS, s0 = wI sf 84 2 (nI K) := ⟨_, rfl⟩
  have z0 : s0.2 = s.2 := by rw [es0]; exact f2
  have o0 : ∀ b, b < 84 ∨ 86 < b ∨ b = 85 → s0.1 b = s.1 b := fun b hb => by rw [es0, wI_ne (by omega), f1 b (by omega)]
  have o6 : ∀ j, j < 1231 → s0.1 86 j = nI 0 := fun j hj => by rw [es0, wI_ne (by omega)]; exact f3 j hj
  have pre : fX1_begin n (mk s) 84 t (nI K) (nI a) (nI c) = fX1_begin_16 n bi_K (mk s0) 84 t (nI a) (nI c) (nI 0) := by
    unfold fX1_begin
    rw [es0]
    simp (disch := first | omega | assumption | (simp only [wL_1, wL_22, wI_2, wA_2, wQ_1, wQ_21] <;> first | assumption | omega)) only [LIT, LITm, nI_add, n_mul, fa_or, n_31m, n_shl0, n_le, n_lt, n_eq, Option.bind_some, B_g hn, ef]
  rw [pre]
  refine lp_up (F := fun f (s1 : zS) i => fX1_begin_16 n f (mk s1) 84 t (nI a) (nI c) (nI i)) (N := K + 1) (P := fun i s1 => s1.2 = s.2 ∧ (∀ b, b ≠ 85 → s1.1 b = s0.1 b) ∧ s1.1 85 0 = nI 0 ∧ ∀ k, k < i → sub k K → s1.1 85 k = nI (ledB T a c k).toNat) (Q := fun r => ∃ s' : zS, r = some ((), mk s') ∧ s'.2 = s.2 ∧ (∀ b, b < 84 ∨ 86 < b → s'.1 b = s.1 b) ∧ gH s' T a c K ∧ (∀ b0, memo s' K (ledB T a c) b0) ∧ gI0 s') ?_ ?_ (K + 1) bi_K s0 0 (by omega) (by unfold bi_K; omega) ⟨z0, fun _ _ => rfl, by rw [o0 85 (by omega)]; exact g4, fun k h => absurd h (Nat.not_lt_zero k)⟩
  · rintro f s1 i hi ⟨p1, p2, p3, p4⟩
    left
    have e3 : s1.1 84 2 = nI K := by rw [p2 84 (by omega), es0, wI_at, upd_at]
    have ndl : nd i K < 512 := nd_lt (k := 9) (show i < 2 ^ 9 by omega)
    have hT1 : cTd s1.1 t T := cTd_fr hT (fun b h1 h2 => by rw [p2 b (by omega), o0 b (by omega)])
    show ∃ s', fX1_begin_16b n (fX1_begin_16 n f) (mk s1) 84 t (nI a) (nI c) (nI i) = _ ∧ _
    unfold fX1_begin_16b fX1_begin_73 fX1_begin_78 fX1_begin_79
    by_cases q : nd i K = 0
    · have hs := sub_nd.mp q
      have sp := c_spread (n := n) (x := a) (k := i) (s := s1) (by omega) ht hW hT1 (by omega) ha
      have spl := spS_lt (K := fun j => i.testBit j) hW ha
      have up : ∀ r : Bool, r = ledB T a c i → (wI s1 85 i (nI r.toNat)).2 = s.2 ∧ (∀ b, b ≠ 85 → (wI s1 85 i (nI r.toNat)).1 b = s0.1 b) ∧ (wI s1 85 i (nI r.toNat)).1 85 0 = nI 0 ∧ ∀ k, k < i + 1 → sub k K → (wI s1 85 i (nI r.toNat)).1 85 k = nI (ledB T a c k).toNat := by
        intro r er
        refine ⟨p1, fun b hb => by rw [wI_ne hb]; exact p2 b hb, ?_, fun k hk hsk => ?_⟩
        · rw [wI_at]
          by_cases e : 0 = i
          · rw [← e, upd_at, er, ← e, l0]
            rfl
          · rw [upd_ne e]; exact p3
        · rw [wI_at]
          by_cases e : k = i
          · rw [e, upd_at, er]
          · rw [upd_ne e]; exact p4 k (by omega) hsk
      obtain ⟨j, ej, hj, hjs⟩ : ∃ j, nI i &&& (nI i - nI 1) = nI j ∧ (j < i ∨ (i = 0 ∧ j = 0)) ∧ sub j i := by
        by_cases i0 : i = 0
        · refine ⟨0, ?_, Or.inr ⟨i0, rfl⟩, fun k hk => by rw [Nat.zero_testBit] at hk; cases hk⟩
          rw [i0]
          decide
        · refine ⟨i &&& (i - 1), ?_, Or.inl (Nat.lt_of_le_of_lt Nat.and_le_right (by omega)), fun k hk => ?_⟩
          · rw [n_sub (by omega), fa_and]
          · rw [Nat.testBit_and] at hk
            exact ((Bool.and_eq_true _ _).mp hk).1
      have cj : s1.1 85 j = nI (ledB T a c j).toNat := by
        rcases hj with h | ⟨h1, h2⟩
        · exact p4 j h (fun k hk => hs k (hjs k hk))
        · rw [h2, l0]; exact p3
      have jl : j < 512 := by omega
      cases el : ledB T a c j with
      | true =>
        rw [el] at cj
        have lt : ledB T a c i = true := mon _ _ hjs el
        refine ⟨wI s1 85 i (nI true.toNat), ?_, up true lt.symm⟩
        simp (disch := first | omega | assumption | (simp only [wL_1, wL_22, wI_2, wA_2, wQ_1, wQ_21] <;> first | assumption | omega)) only [LIT, LITm, nI_add, n_mul, fa_or, n_31m, n_shl0, n_le, n_lt, n_eq, Option.bind_some, B_g hn, e3, n_nd, q, ej, cj, nar_b (show 1 ≤ 1 by omega), ne_eq, Bool.toNat_true, Nat.reduceEqDiff, Nat.reduceLeDiff, not_true_eq_false, not_false_eq_true, show ¬ K < i by omega, ↓reduceIte]
      | false =>
        rw [el] at cj
        cases er : ledB T a c i with
        | true =>
          have er' : (spS T (fun j => i.testBit j) a).testBit c = true := er
          refine ⟨wI s1 85 i (nI true.toNat), ?_, up true er.symm⟩
          simp (disch := first | omega | assumption | (simp only [wL_1, wL_22, wI_2, wA_2, wQ_1, wQ_21] <;> first | assumption | omega)) only [LIT, LITm, nI_add, n_mul, fa_or, n_31m, n_shl0, n_le, n_lt, n_eq, Option.bind_some, B_g hn, e3, n_nd, q, ej, cj, sp, n_bitz, er', nar_b (show 1 ≤ 1 by omega), ne_eq, Bool.toNat_true, Bool.toNat_false, Bool.true_eq_false, Nat.reduceEqDiff, Nat.reduceLeDiff, not_true_eq_false, not_false_eq_true, show ¬ K < i by omega, ↓reduceIte]
        | false =>
          have er' : (spS T (fun j => i.testBit j) a).testBit c = false := er
          refine ⟨wI s1 85 i (nI false.toNat), ?_, up false er.symm⟩
          simp (disch := first | omega | assumption | (simp only [wL_1, wL_22, wI_2, wA_2, wQ_1, wQ_21] <;> first | assumption | omega)) only [LIT, LITm, nI_add, n_mul, fa_or, n_31m, n_shl0, n_le, n_lt, n_eq, Option.bind_some, B_g hn, e3, n_nd, q, ej, cj, sp, n_bitz, er', nar_b (show 0 ≤ 1 by omega), ne_eq, Bool.toNat_false, Nat.reduceEqDiff, Nat.reduceLeDiff, not_true_eq_false, not_false_eq_true, show ¬ K < i by omega, ↓reduceIte]
    · refine ⟨s1, ?_, p1, p2, p3, fun k hk hsk => ?_⟩
      · simp (disch := first | omega | assumption | (simp only [wL_1, wL_22, wI_2, wA_2, wQ_1, wQ_21] <;> first | assumption | omega)) only [LIT, LITm, nI_add, n_mul, fa_or, n_31m, n_shl0, n_le, n_lt, n_eq, Option.bind_some, B_g hn, e3, n_nd, q, ne_eq, not_false_eq_true, show ¬ K < i by omega, ↓reduceIte]
      · by_cases e : k = i
        · rw [e] at hsk
          exact absurd (sub_nd.mpr hsk) q
        · exact p4 k (by omega) hsk
  · rintro f s1 ⟨p1, p2, p3, p4⟩
    have e3 : s1.1 84 2 = nI K := by rw [p2 84 (by omega), es0, wI_at, upd_at]
    refine ⟨s1, ?_, p1, fun b h1 => by rw [p2 b (by omega), o0 b (by omega)], ⟨e3, hK, fun k hk => p4 k (Nat.lt_succ_of_le ?_) hk⟩, fun b0 st hst v hv => ?_, p3⟩
    · show fX1_begin_16b n (fX1_begin_16 n f) (mk s1) 84 t (nI a) (nI c) (nI (K + 1)) = _
      unfold fX1_begin_16b
      simp (disch := first | omega | assumption | (simp only [wL_1, wL_22, wI_2, wA_2, wQ_1, wQ_21] <;> first | assumption | omega)) only [LIT, LITm, nI_add, n_mul, fa_or, n_31m, n_shl0, n_le, n_lt, n_eq, Option.bind_some, B_g hn, e3, ne_eq, not_false_eq_true, show K < K + 1 by omega, ↓reduceIte]
    · have := (nd_sub (x := k) (W := K)).mp (sub_nd.mpr hk)
      rw [← this]
      exact Nat.left_le_or
    · rw [p2 86 (by omega), o6 (st / 16) (by omega), bb_nI, Nat.zero_testBit, Bool.and_false] at hv
      cases hv
/-- the first that is so -/
def fsV (f : Nat → Bool) : Nat → Nat → Int32
  | 0, _ => m2
  | k + 1, i => if f i = true then nI i else fsV f k (i + 1)
def gmB (K : Nat) (led : Nat → Bool) (b : Bool) (p : Nat) : Bool := K.testBit p && (wn K led (fcV K (mvT b 0 p) (mvS b 0 p)) (mvT b 0 p) (mvS b 0 p) (!b) == b)
theorem ok_0 (hK : K < 512) : okP K 0 0 := ⟨fun i h => (by rw [Nat.zero_testBit] at h; cases h), fun i h => (by rw [Nat.zero_testBit] at h; cases h), hK⟩
theorem pos_0 : posC 0 0 0 := ⟨by omega, by omega, by omega, fun p _ => ⟨by
  rw [Nat.zero_testBit, if_neg Bool.false_ne_true, if_neg Bool.false_ne_true]
  unfold dg
  rw [Nat.zero_div], fun h => by rw [Nat.zero_testBit] at h; cases h.1⟩⟩
theorem trn_0 : trn b 0 0 = b := by
  unfold trn
  rw [if_pos (by decide)]
theorem fr_0 {p : Nat} : frB' K 0 0 p = K.testBit p := by
  unfold frB'
  rw [Nat.zero_testBit, Bool.not_false, Bool.and_true, Bool.and_true]
theorem c_wb (hn : 239 ≤ n) (hW : WT T) (ha : a < 7) {p : Nat} (hp : p < 9) (hk : K.testBit p = true) (hg : gH s T a c K) (hM : memo s K (ledB T a c) b) : ∃ s1 : zS, FX1_winnerBehind n (mk s) 84 (nI 0) (nI 0) (nI 0) (nI b.toNat) (nI p) = some (nI (wn K (ledB T a c) (fcV K (mvT b 0 p) (mvS b 0 p)) (mvT b 0 p) (mvS b 0 p) (!b)).toNat, mk s1) ∧ frW s s1 ∧ memo s1 K (ledB T a c) b := by
  have g6 := hg.2.1
  have hfr : frB' K 0 0 p = true := by rw [fr_0]; exact hk
  have okm := ok_mv (b := b) hp (ok_0 g6) hfr
  have trm := trn_mv (b := b) (b0 := b) hp hfr
  rw [trn_0] at trm
  have pom := pos_mv (b := b) pos_0 hp (Nat.zero_testBit p) (Nat.zero_testBit p)
  have fle : fcV K (mvT b 0 p) (mvS b 0 p) ≤ 9 := fb_ct_le _ _
  obtain ⟨s2, e3, f3, M3⟩ := c_wf (n := n) hn hW ha (fcV K (mvT b 0 p) (mvS b 0 p)) 299 s (mvT b 0 p) (mvS b 0 p) _ (!b) rfl (by omega) okm pom (by rw [trm]) hg hM
  refine ⟨s2, ?_, f3, M3⟩
  obtain ⟨r2, er2⟩ : ∃ r2, r2 = wn K (ledB T a c) (fcV K (mvT b 0 p) (mvS b 0 p)) (mvT b 0 p) (mvS b 0 p) (!b) := ⟨_, rfl⟩
  rw [← er2] at e3 ⊢
  have pw : pW (nI p) = some (nI (3 ^ p)) := by
    unfold pW
    rw [cl_n (by omega), if_pos]
    exact in_nI hp (by decide)
  have p3 : 3 ^ p ≤ 6561 := Nat.pow_le_pow_right (n := 3) (j := 8) (by decide) (by omega)
  show fX1_winnerBehind n (fs0 n 299).1 (fs0 n 299).2 (mk s) 84 (nI 0) (nI 0) (nI 0) (nI b.toNat) (nI p) = _
  unfold fX1_winnerBehind
  cases b with
  | true =>
    have e3' : (fs0 n 299).2 (mk s) 84 (nI (0 ||| 2 ^ p)) (nI 0) (nI (0 + 3 ^ p)) (nI 0) = some (nI r2.toNat, mk s2) := by
      have := e3
      unfold mvT mvS at this
      simp only [if_true, Nat.one_mul, Bool.not_true, Bool.toNat_false] at this
      exact this
    simp (disch := first | omega | assumption | (simp only [wL_1, wL_22, wI_2, wA_2, wQ_1, wQ_21] <;> first | assumption | omega)) only [LIT, LITm, nI_add, n_mul, fa_or, n_31m, n_shl0, n_le, n_lt, n_eq, Option.bind_some, B_g hn, pw, e3', ne_eq, Bool.toNat_true, not_true_eq_false, not_false_eq_true, ↓reduceIte]
  | false =>
    have e3' : (fs0 n 299).2 (mk s) 84 (nI 0) (nI (0 ||| 2 ^ p)) (nI (0 + 2 * 3 ^ p)) (nI 1) = some (nI r2.toNat, mk s2) := by
      have := e3
      unfold mvT mvS at this
      simp only [Bool.false_eq_true, if_false, Bool.not_false, Bool.toNat_true] at this
      exact this
    simp (disch := first | omega | assumption | (simp only [wL_1, wL_22, wI_2, wA_2, wQ_1, wQ_21] <;> first | assumption | omega)) only [LIT, LITm, nI_add, n_mul, fa_or, n_31m, n_shl0, n_le, n_lt, n_eq, Option.bind_some, B_g hn, pw, e3', ne_eq, Bool.toNat_false, Nat.reduceEqDiff, Nat.reduceLeDiff, not_false_eq_true, ↓reduceIte]
theorem c_first (hn : 239 ≤ n) (hW : WT T) (ha : a < 7) (hg : gH s T a c K) (hM : memo s K (ledB T a c) b) : ∃ s1 : zS, fX1_firstMove n (mk s) 84 (nI b.toNat) = some (fsV (gmB K (ledB T a c) b) 9 0, mk s1) ∧ frW s s1 ∧ memo s1 K (ledB T a c) b := by
  have g6 := hg.2.1
  unfold fX1_firstMove
  simp (disch := first | omega | assumption | (simp only [wL_1, wL_22, wI_2, wA_2, wQ_1, wQ_21] <;> first | assumption | omega)) only [LIT, LITm, nI_add, n_mul, fa_or, n_31m, n_shl0, n_le, n_lt, n_eq, Option.bind_some, B_g hn, ne_eq, not_false_eq_true]
  refine lp_up (F := fun f (s1 : zS) i => fX1_firstMove_2 n f (mk s1) 84 (nI b.toNat) (nI i)) (N := 9) (P := fun i s1 => frW s s1 ∧ memo s1 K (ledB T a c) b ∧ fsV (gmB K (ledB T a c) b) 9 0 = fsV (gmB K (ledB T a c) b) (9 - i) i) (Q := fun r => ∃ s1 : zS, r = some (fsV (gmB K (ledB T a c) b) 9 0, mk s1) ∧ frW s s1 ∧ memo s1 K (ledB T a c) b) ?_ ?_ 9 bi_K s 0 (by omega) (by unfold bi_K; omega) ⟨⟨rfl, fun _ _ => rfl⟩, hM, rfl⟩
  · rintro f s1 i hi ⟨f1, M1, e1⟩
    have hg1 := gH_W hg f1
    obtain ⟨e3, -⟩ := hg1
    obtain ⟨j, hj⟩ : ∃ j, 9 - i = j + 1 := ⟨9 - i - 1, by omega⟩
    rw [hj] at e1
    have e1' : fsV (gmB K (ledB T a c) b) 9 0 = if gmB K (ledB T a c) b i = true then nI i else fsV (gmB K (ledB T a c) b) j (i + 1) := e1
    show (∃ s', fX1_firstMove_2b n (fX1_firstMove_2 n f) (mk s1) 84 (nI b.toNat) (nI i) = _ ∧ _) ∨ ∃ s', fX1_firstMove_2b n (fX1_firstMove_2 n f) (mk s1) 84 (nI b.toNat) (nI i) = _ ∧ _
    unfold fX1_firstMove_2b fX1_firstMove_34
    cases ek : K.testBit i with
    | false =>
      left
      have gf : gmB K (ledB T a c) b i = false := by
        unfold gmB
        rw [ek, Bool.false_and]
      rw [gf, if_neg Bool.false_ne_true] at e1'
      refine ⟨s1, ?_, f1, M1, by rw [e1', show 9 - (i + 1) = j by omega]⟩
      simp (disch := first | omega | assumption | (simp only [wL_1, wL_22, wI_2, wA_2, wQ_1, wQ_21] <;> first | assumption | omega)) only [LIT, LITm, nI_add, n_mul, fa_or, n_31m, n_shl0, n_le, n_lt, n_eq, Option.bind_some, B_g hn, e3, n_bitz, ek, ne_eq, not_false_eq_true, show ¬ 9 ≤ i by omega, ↓reduceIte]
    | true =>
      obtain ⟨s2, e2, f2, M2⟩ := c_wb hn hW ha hi ek (gH_W hg f1) M1
      obtain ⟨r2, er2⟩ : ∃ r2, r2 = wn K (ledB T a c) (fcV K (mvT b 0 i) (mvS b 0 i)) (mvT b 0 i) (mvS b 0 i) (!b) := ⟨_, rfl⟩
      rw [← er2] at e2
      have gv : gmB K (ledB T a c) b i = (r2 == b) := by
        unfold gmB
        rw [ek, Bool.true_and, ← er2]
      have beq : (nI r2.toNat = nI b.toNat) = (r2 = b) := by
        cases r2 <;> cases b <;> simp only [Bool.toNat_true, Bool.toNat_false, n_eq (show 1 < 2147483648 by omega) (show 0 < 2147483648 by omega), n_eq (show 0 < 2147483648 by omega) (show 1 < 2147483648 by omega)] <;> simp
      by_cases e : r2 = b
      · right
        rw [gv, e, if_pos (by cases b <;> rfl)] at e1'
        refine ⟨s2, ?_, frW_t f1 f2, M2⟩
        rw [e1']
        simp (disch := first | omega | assumption | (simp only [wL_1, wL_22, wI_2, wA_2, wQ_1, wQ_21] <;> first | assumption | omega)) only [LIT, LITm, nI_add, n_mul, fa_or, n_31m, n_shl0, n_le, n_lt, n_eq, Option.bind_some, B_g hn, e3, n_bitz, ek, e2, beq, e, ne_eq, Bool.true_eq_false, not_true_eq_false, not_false_eq_true, show ¬ 9 ≤ i by omega, ↓reduceIte]
      · left
        rw [gv, if_neg (fun h => e (eq_of_beq h))] at e1'
        refine ⟨s2, ?_, frW_t f1 f2, M2, by rw [e1', show 9 - (i + 1) = j by omega]⟩
        simp (disch := first | omega | assumption | (simp only [wL_1, wL_22, wI_2, wA_2, wQ_1, wQ_21] <;> first | assumption | omega)) only [LIT, LITm, nI_add, n_mul, fa_or, n_31m, n_shl0, n_le, n_lt, n_eq, Option.bind_some, B_g hn, e3, n_bitz, ek, e2, beq, e, ne_eq, Bool.true_eq_false, not_false_eq_true, show ¬ 9 ≤ i by omega, ↓reduceIte]
  · rintro f s1 ⟨f1, M1, e1⟩
    refine ⟨s1, ?_, f1, M1⟩
    show fX1_firstMove_2b n (fX1_firstMove_2 n f) (mk s1) 84 (nI b.toNat) (nI 9) = _
    unfold fX1_firstMove_2b
    rw [e1, Nat.sub_self]
    simp (disch := first | omega | assumption | (simp only [wL_1, wL_22, wI_2, wA_2, wQ_1, wQ_21] <;> first | assumption | omega)) only [LIT, LITm, nI_add, n_mul, fa_or, n_31m, n_shl0, n_le, n_lt, n_eq, Option.bind_some, Nat.le_refl, ↓reduceIte, fsV]
theorem c_winner (hn : 239 ≤ n) (hW : WT T) (ha : a < 7) (hg : gH s T a c K) (hM : memo s K (ledB T a c) b) : ∃ s1 : zS, fX1_winner n (mk s) 84 (nI b.toNat) = some (nI (wn K (ledB T a c) (fcV K 0 0) 0 0 b).toNat, mk s1) ∧ frW s s1 ∧ memo s1 K (ledB T a c) b := by
  have g6 := hg.2.1
  have fle : fcV K 0 0 ≤ 9 := fb_ct_le _ _
  obtain ⟨s2, e3, f3, M3⟩ := c_wf (n := n) hn hW ha (fcV K 0 0) 300 s 0 0 0 b rfl (by omega) (ok_0 g6) pos_0 trn_0.symm hg hM
  refine ⟨s2, ?_, f3, M3⟩
  have e3' : FX1_winnerFrom n (mk s) 84 (nI 0) (nI 0) (nI 0) (nI b.toNat) = some (nI (wn K (ledB T a c) (fcV K 0 0) 0 0 b).toNat, mk s2) := e3
  unfold fX1_winner
  simp (disch := first | omega | assumption | (simp only [wL_1, wL_22, wI_2, wA_2, wQ_1, wQ_21] <;> first | assumption | omega)) only [LIT, LITm, nI_add, n_mul, fa_or, n_31m, n_shl0, n_le, n_lt, n_eq, Option.bind_some, B_g hn, e3', ne_eq, not_false_eq_true]
end Ch
