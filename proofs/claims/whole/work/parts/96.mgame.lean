/-! ===== the squire's game: the reference ===== -/
section Mg
variable {n a c K P k code t' s' p i u v m : Nat} {s : zS} {T : zT} {S : zD} {A : zA} {b0 b : Bool} {x y z w : Int32}
theorem m_digit {h : ai_H} (hc : c < 2147483648) (hi : i < 100) : fX11_digit n h (nI c) (nI i) = some (nI (dg c i), h) := by
  have lp : ∀ j, c / 3 ^ j ≤ c := fun j => Nat.div_le_self _ _
  unfold fX11_digit
  simp only [LIT]
  rw [show nI c = nI (c / 3 ^ 0) by rw [Nat.pow_zero, Nat.div_one]]
  refine lp_up (F := fun f (_ : Unit) j => fX11_digit_4 n f h (nI i) (nI (c / 3 ^ j)) (nI j)) (N := i) (P := fun _ _ => True) (Q := fun r => r = some (nI (dg c i), h)) ?_ ?_ i bi_K () 0 (by omega) (by unfold bi_K; omega) trivial
  · intro f _ j hj _
    left
    refine ⟨(), ?_, trivial⟩
    have := lp j
    have e : c / 3 ^ (j + 1) = c / 3 ^ j / 3 := by rw [Nat.pow_succ, Nat.div_div_eq_div_mul]
    obtain ⟨d, ed⟩ : ∃ d, d = c / 3 ^ j := ⟨_, rfl⟩
    show fX11_digit_4b n (fX11_digit_4 n f) h (nI i) (nI (c / 3 ^ j)) (nI j) = fX11_digit_4 n f h (nI i) (nI (c / 3 ^ (j + 1))) (nI (j + 1))
    rw [e, ← ed]
    rw [← ed] at this
    unfold fX11_digit_4b
    simp (disch := first | omega | assumption | (simp only [wL_1, wL_22, wI_2, wA_2, wQ_1, wQ_21] <;> first | assumption | omega)) only [LIT, LITm, nI_add, n_mul, fa_or, n_31m, n_shl0, n_le, n_lt, n_eq, Option.bind_some, n_dI, show ¬ i ≤ j by omega, ↓reduceIte]
  · intro f _ _
    have := lp i
    show fX11_digit_4b n (fX11_digit_4 n f) h (nI i) (nI (c / 3 ^ i)) (nI i) = _
    unfold fX11_digit_4b dg
    obtain ⟨d, ed⟩ : ∃ d, d = c / 3 ^ i := ⟨_, rfl⟩
    rw [← ed] at this ⊢
    simp (disch := first | omega | assumption | (simp only [wL_1, wL_22, wI_2, wA_2, wQ_1, wQ_21] <;> first | assumption | omega)) only [LIT, LITm, nI_add, n_mul, fa_or, n_31m, n_shl0, n_le, n_lt, n_eq, Option.bind_some, n_rI, Nat.le_refl, ↓reduceIte]
theorem p3_le (h : i ≤ 9) : 3 ^ i ≤ 19683 := Nat.pow_le_pow_right (n := 3) (j := 9) (by decide) h
theorem m_power {h : ai_H} (hi : i ≤ 9) : fX11_power n h (nI i) = some (nI (3 ^ i), h) := by
  unfold fX11_power
  simp only [LIT]
  refine lp_up (F := fun f (_ : Unit) j => fX11_power_4 n f h (nI i) (nI (3 ^ j)) (nI j)) (N := i) (P := fun _ _ => True) (Q := fun r => r = some (nI (3 ^ i), h)) ?_ ?_ i bi_K () 0 (by omega) (by unfold bi_K; omega) trivial
  · intro f _ j hj _
    left
    refine ⟨(), ?_, trivial⟩
    show fX11_power_4b n (fX11_power_4 n f) h (nI i) (nI (3 ^ j)) (nI j) = fX11_power_4 n f h (nI i) (nI (3 ^ (j + 1))) (nI (j + 1))
    unfold fX11_power_4b
    rw [Nat.pow_succ]
    simp (disch := first | omega | assumption | (simp only [wL_1, wL_22, wI_2, wA_2, wQ_1, wQ_21] <;> first | assumption | omega)) only [LIT, LITm, nI_add, n_mul, fa_or, n_31m, n_shl0, n_le, n_lt, n_eq, Option.bind_some, show ¬ i ≤ j by omega, ↓reduceIte]
  · intro f _ _
    show fX11_power_4b n (fX11_power_4 n f) h (nI i) (nI (3 ^ i)) (nI i) = _
    unfold fX11_power_4b
    simp (disch := first | omega | assumption | (simp only [wL_1, wL_22, wI_2, wA_2, wQ_1, wQ_21] <;> first | assumption | omega)) only [LIT, LITm, nI_add, n_mul, fa_or, n_31m, n_shl0, n_le, n_lt, n_eq, Option.bind_some, Nat.le_refl, ↓reduceIte]
/-- how many are kept ahead of one -/
def rk (K u : Nat) : Nat := fb_ct (fun i => K.testBit i) u
theorem rk_s : rk K (u + 1) = rk K u + (if K.testBit u = true then 1 else 0) := fb_ct_succ _ _
theorem rk_mo (h : u ≤ v) : rk K u ≤ rk K v := fb_ct_mono _ h
theorem rk_skip (h : rk K u = rk K v) (h1 : u ≤ p) (h2 : p < v) : K.testBit p = false := by
  cases e : K.testBit p with
  | false => rfl
  | true =>
    have s1 := rk_s (K := K) (u := p)
    rw [e, if_pos rfl] at s1
    have a1 := rk_mo (K := K) h1
    have a2 := rk_mo (K := K) (show p + 1 ≤ v by omega)
    omega
theorem rk_ct {f : Nat → Bool} : ∀ u, fb_ct f (rk K u) = fb_ct (fun p => K.testBit p && f (rk K p)) u
  | 0 => rfl
  | u + 1 => by
    rw [fb_ct_succ, ← rk_ct u, rk_s]
    cases e : K.testBit u with
    | true => rw [if_pos rfl, fb_ct_succ, Bool.true_and]
    | false => rw [if_neg Bool.false_ne_true, Nat.add_zero, Bool.false_and, if_neg Bool.false_ne_true, Nat.add_zero]
theorem rk_of (h : i < rk K u) : ∃ p, p < u ∧ K.testBit p = true ∧ rk K p = i := fb_ct_kth h
theorem rk_inj (h1 : K.testBit u = true) (h2 : K.testBit v = true) (h : rk K u = rk K v) : u = v := fb_ct_kth_one h1 h2 h
theorem rk_lt (h : K.testBit p = true) (hu : p < u) : rk K p < rk K u := by
  have s1 := rk_s (K := K) (u := p)
  rw [h, if_pos rfl] at s1
  have := rk_mo (K := K) (show p + 1 ≤ u by omega)
  omega
theorem tb_P (hK : K < 2 ^ P) (h : K.testBit p = true) : p < P := by
  refine Classical.byContradiction fun q => ?_
  rw [Nat.testBit_lt_two_pow (Nat.lt_of_lt_of_le hK (Nat.pow_le_pow_right (by decide) (by omega)))] at h
  cases h
/-- a code stands for what is taken (2) and shut (1) among those that are kept -/
def posM (K P code t' s' : Nat) : Prop := code < 3 ^ rk K P ∧ sub t' K ∧ sub s' K ∧ ∀ p, K.testBit p = true → dg code (rk K p) = (if t'.testBit p = true then 2 else if s'.testBit p = true then 1 else 0) ∧ ¬ (t'.testBit p = true ∧ s'.testBit p = true)
theorem posM_ok (h : posM K P code t' s') (hK : K < 512) : okP K t' s' := ⟨fun i hi => by
  rw [nd_tb, h.2.1 i hi]
  have := (h.2.2.2 i (h.2.1 i hi)).2
  cases e : s'.testBit i with
  | false => rfl
  | true => exact absurd ⟨hi, e⟩ this, h.2.2.1, hK⟩
theorem posM_ex (hc : code < 3 ^ rk K P) (hK : K < 2 ^ P) : ∃ t' s', posM K P code t' s' := by
  refine ⟨goB (fun p => K.testBit p && decide (dg code (rk K p) = 2)) P, goB (fun p => K.testBit p && decide (dg code (rk K p) = 1)) P, hc, fun i h => ?_, fun i h => ?_, fun p hp => ?_⟩
  · rw [goB_tb] at h
    exact ((Bool.and_eq_true _ _).mp ((Bool.and_eq_true _ _).mp h).2).1
  · rw [goB_tb] at h
    exact ((Bool.and_eq_true _ _).mp ((Bool.and_eq_true _ _).mp h).2).1
  · have hP := tb_P hK hp
    rw [goB_tb, goB_tb, decide_eq_true hP, hp]
    have l3 := dg_lt3 (c := code) (q := rk K p)
    simp only [Bool.true_and, decide_eq_true_eq]
    constructor
    · by_cases e2 : dg code (rk K p) = 2
      · rw [if_pos e2, e2]
      · rw [if_neg e2]
        by_cases e1 : dg code (rk K p) = 1
        · rw [if_pos e1, e1]
        · rw [if_neg e1]; omega
    · omega
theorem posM_mv (h : posM K P code t' s') (hp : K.testBit p = true) (hP : p < P) (hd : dg code (rk K p) = 0) : posM K P (code + (b.toNat + 1) * 3 ^ rk K p) (mvT b t' p) (mvS b s' p) := by
  obtain ⟨h1, h2, h3, h4⟩ := h
  have kl : b.toNat + 1 < 3 := by have := Bool.toNat_le b; omega
  have e := (h4 p hp).1
  have tf : t'.testBit p = false ∧ s'.testBit p = false := by
    rw [hd] at e
    cases e1 : t'.testBit p with
    | true => rw [e1, if_pos rfl] at e; cases e
    | false =>
      cases e2 : s'.testBit p with
      | true => rw [e1, e2, if_neg Bool.false_ne_true, if_pos rfl] at e; cases e
      | false => exact ⟨rfl, rfl⟩
  refine ⟨dg_lt kl hd (rk_lt hp hP) h1, fun i hi => ?_, fun i hi => ?_, fun q hq => ?_⟩
  · unfold mvT at hi
    cases b with
    | true =>
      simp only [if_true, tb_p2] at hi
      rcases (Bool.or_eq_true _ _).mp hi with g | g
      · exact h2 i g
      · rw [← of_decide_eq_true g]; exact hp
    | false =>
      simp only [Bool.false_eq_true, if_false] at hi
      exact h2 i hi
  · unfold mvS at hi
    cases b with
    | false =>
      simp only [Bool.false_eq_true, if_false, tb_p2] at hi
      rcases (Bool.or_eq_true _ _).mp hi with g | g
      · exact h3 i g
      · rw [← of_decide_eq_true g]; exact hp
    | true =>
      simp only [if_true] at hi
      exact h3 i hi
  · rw [dg_add kl hd]
    have e' := h4 q hq
    unfold mvT mvS
    by_cases r : q = p
    · rw [if_pos (by rw [r]), r]
      cases b with
      | true =>
        simp only [if_true, tb_p2, tf.1, tf.2]
        simp
      | false =>
        simp only [Bool.false_eq_true, if_false, tb_p2, tf.1, tf.2]
        simp
    · rw [if_neg (fun g => r (rk_inj hq hp g))]
      have ne : decide (p = q) = false := decide_eq_false (fun e => r e.symm)
      cases b with
      | true =>
        simp only [if_true, tb_p2, ne, Bool.or_false]
        exact e'
      | false =>
        simp only [Bool.false_eq_true, if_false, tb_p2, ne, Bool.or_false]
        exact e'
theorem rk_P (hK : K < 2 ^ P) (hP : P ≤ 9) : rk K P = pc9 K := ct_9 hK hP
theorem posM_mvs (h : posM K P code t' s') (hK : K < 2 ^ P) (hP : P ≤ 9) : fb_ct (fun i => decide (0 < dg code i)) (rk K P) = pc9 t' + pc9 s' ∧ fcV K t' s' + (pc9 t' + pc9 s') = rk K P := by
  obtain ⟨h1, h2, h3, h4⟩ := h
  have e9 : rk K P = rk K 9 := rk_P hK hP
  have or' : fb_ct (fun p => t'.testBit p || s'.testBit p) 9 = pc9 t' + pc9 s' := fb_ct_or (fun p _ g => (h4 p (h2 p g.1)).2 g)
  constructor
  · rw [e9, rk_ct, ← or']
    apply fb_ct_cong
    intro p _
    cases ek : K.testBit p with
    | true =>
      have := h4 p ek
      rw [this.1, Bool.true_and]
      have d := this.2
      cases t'.testBit p <;> cases s'.testBit p <;> simp
    | false =>
      rw [Bool.false_and]
      cases e1 : t'.testBit p with
      | true => rw [h2 p e1] at ek; cases ek
      | false =>
        cases e2 : s'.testBit p with
        | true => rw [h3 p e2] at ek; cases ek
        | false => rfl
  · rw [← or', e9]
    unfold fcV rk
    have := fb_ct_or (p := frB' K t' s') (q := fun p => t'.testBit p || s'.testBit p) (n := 9) (fun p _ g => by
      obtain ⟨g1, g2⟩ := g
      unfold frB' at g1
      revert g1 g2
      cases K.testBit p <;> cases t'.testBit p <;> cases s'.testBit p <;> decide)
    rw [← this]
    apply fb_ct_cong
    intro p _
    unfold frB'
    cases ek : K.testBit p with
    | true => cases t'.testBit p <;> cases s'.testBit p <;> rfl
    | false =>
      cases e1 : t'.testBit p with
      | true => rw [h2 p e1] at ek; cases ek
      | false =>
        cases e2 : s'.testBit p with
        | true => rw [h3 p e2] at ek; cases ek
        | false => rfl
/-- the kept ones, in the reference's row -/
def koH (s : zS) (K P : Nat) : Prop := s.1 187 82 = nI (rk K P) ∧ ∀ p, p < P → K.testBit p = true → s.1 231 (rk K p) = nI p
theorem m_isLed (hn : 239 ≤ n) (hW : WT T) (hT : mTd s.1 T) (hK : K < 2 ^ T 0 1) (hko : koH s K (T 0 1)) (hp : posM K (T 0 1) code t' s') (ha : a < 7) (hc : c < 7) : fX11_isLed n (mk s) 187 (nI code) (nI a) (nI c) = some (nI (ledB T a c t').toNat, mk s) := by
  have h0 := hW.1
  have rle : rk K (T 0 1) ≤ 9 := Nat.le_trans (fb_ct_le _ _) h0.2.1
  have p9 := p3_le rle
  have cl : code < 19683 := Nat.lt_of_lt_of_le hp.1 p9
  obtain ⟨L, eL⟩ : ∃ L : Nat → Bool, L = fun i => t'.testBit i := ⟨_, rfl⟩
  have skip : ∀ u v b, u ≤ v → rk K u = rk K v → lpF (stS T L) v b = lpF (stS T L) u b := fun u v b h1 h2 => lpF_id h1 (fun q g1 g2 => by
    have := rk_skip h2 g1 g2
    unfold stS
    rw [if_neg]
    rintro ⟨g3, -⟩
    rw [eL] at g3
    rw [hp.2.1 q g3] at this
    cases this)
  have round : ∀ (r8 : ai_H → Nat → Int32 → Int32 → Int32 → Int32 → Option (Int32 × ai_H)) (b v : Nat), b < 128 → v < 7 → fX11_isLed_18 n r8 bi_K (mk s) 187 (nI code) (nI c) (nI b) (nI v) (nI 0) = r8 (mk s) 187 (nI code) (nI c) (nI (rdS T L b)) (nI (v + 1)) := by
    intro r8 b v hb hv
    refine lp_up (F := fun f (q : Nat × Nat) i => fX11_isLed_18 n r8 f (mk s) 187 (nI code) (nI c) (nI q.1) (nI v) (nI i)) (N := rk K (T 0 1)) (P := fun i q => q.2 ≤ T 0 1 ∧ rk K q.2 = i ∧ q.1 = lpF (stS T L) q.2 b) (Q := fun r => r = r8 (mk s) 187 (nI code) (nI c) (nI (rdS T L b)) (nI (v + 1))) ?_ ?_ (rk K (T 0 1)) bi_K (b, 0) 0 (by omega) (by unfold bi_K; omega) ⟨by omega, rfl, rfl⟩
    · rintro f ⟨d, u⟩ i hi ⟨g1, g2, g3⟩
      have g1 : u ≤ T 0 1 := g1
      have g2 : rk K u = i := g2
      have g3 : d = lpF (stS T L) u b := g3
      left
      obtain ⟨q, q1, q2, q3⟩ := rk_of hi
      have uq : u ≤ q := by
        refine Classical.byContradiction fun g => ?_
        have := rk_lt q2 (show q < u by omega)
        omega
      have dq : d = lpF (stS T L) q b := by rw [g3, skip u q b uq (by omega)]
      have he := WT_p hW q1
      have kq : s.1 231 i = nI q := by rw [← q3]; exact hko.2 q q1 q2
      have dd := m_digit (n := n) (h := mk s) (c := code) (i := i) (by omega) (by omega)
      have dgv := (hp.2.2.2 q q2).1
      rw [q3] at dgv
      have hd : d < 128 := by rw [dq]; exact lpS_lt hW (by omega) hb
      have e3 : s.1 194 q = nI (T 3 q) := (hT.2.2.2.1 q q1).2.1
      have e4 : s.1 195 q = nI (T 4 q) := (hT.2.2.2.1 q q1).2.2.1
      have el : enV T q < 2 ^ 7 := enV_lt he.1 he.2.1
      have eor : nI (2 ^ T 3 q) ||| nI (2 ^ T 4 q) = nI (enV T q) := fa_or _ _
      have r9 : rk K (q + 1) = i + 1 := by rw [rk_s, q2, if_pos rfl, q3]
      have e82 := hko.1
      show ∃ q', fX11_isLed_18b n r8 (fX11_isLed_18 n r8 f) (mk s) 187 (nI code) (nI c) (nI d) (nI v) (nI i) = _ ∧ _
      unfold fX11_isLed_18b fX11_isLed_86
      have ls : lpF (stS T L) (q + 1) b = stS T L q (lpF (stS T L) q b) := rfl
      refine ⟨(stS T L q d, q + 1), ?_, by show q + 1 ≤ T 0 1; omega, r9, by show stS T L q d = lpF (stS T L) (q + 1) b; rw [ls, dq]⟩
      show _ = fX11_isLed_18 n r8 f (mk s) 187 (nI code) (nI c) (nI (stS T L q d)) (nI v) (nI (i + 1))
      unfold stS
      by_cases et : L q = true
      · have et' : t'.testBit q = true := by rw [eL] at et; exact et
        rw [et', if_pos rfl] at dgv
        rw [dgv] at dd
        by_cases ea : d &&& enV T q = 0
        · rw [if_neg (fun g => g.2 ea)]
          have ea' : (nI d &&& nI (enV T q) = nI 0) = True := by rw [n_and0 (by omega), ea]; simp
          simp (disch := first | omega | assumption | (simp only [wL_1, wL_22, wI_2, wA_2, wQ_1, wQ_21] <;> first | assumption | omega)) only [LIT, LITm, nI_add, n_mul, fa_or, n_31m, n_shl0, n_le, n_lt, n_eq, Option.bind_some, B_m hn, B_ma hn, B_mc hn, e82, dd, kq, e3, e4, eor, ea', if_true, show ¬ rk K (T 0 1) ≤ i by omega, ↓reduceIte]
        · rw [if_pos ⟨et, ea⟩]
          have ea' : (nI d &&& nI (enV T q) = nI 0) = False := by rw [n_and0 (by omega)]; simp [ea]
          simp (disch := first | omega | assumption | (simp only [wL_1, wL_22, wI_2, wA_2, wQ_1, wQ_21] <;> first | assumption | omega)) only [LIT, LITm, nI_add, n_mul, fa_or, n_31m, n_shl0, n_le, n_lt, n_eq, Option.bind_some, B_m hn, B_ma hn, B_mc hn, e82, dd, kq, e3, e4, eor, ea', if_false, show ¬ rk K (T 0 1) ≤ i by omega, ↓reduceIte]
      · have et' : t'.testBit q = false := by rw [eL] at et; exact bF et
        rw [et', if_neg Bool.false_ne_true] at dgv
        rw [if_neg (fun g => et g.1)]
        have d2 : dg code i ≠ 2 := by rw [dgv]; split <;> omega
        have dl := dg_lt3 (c := code) (q := i)
        simp (disch := first | omega | assumption | (simp only [wL_1, wL_22, wI_2, wA_2, wQ_1, wQ_21] <;> first | assumption | omega)) only [LIT, LITm, nI_add, n_mul, fa_or, n_31m, n_shl0, n_le, n_lt, n_eq, Option.bind_some, B_m hn, e82, dd, d2, show ¬ rk K (T 0 1) ≤ i by omega, ↓reduceIte]
    · rintro f ⟨d, u⟩ ⟨g1, g2, g3⟩
      have g1 : u ≤ T 0 1 := g1
      have g2 : rk K u = rk K (T 0 1) := g2
      have g3 : d = lpF (stS T L) u b := g3
      have dq : d = rdS T L b := by
        unfold rdS
        rw [g3, skip u (T 0 1) b g1 g2]
      show fX11_isLed_18b n r8 (fX11_isLed_18 n r8 f) (mk s) 187 (nI code) (nI c) (nI d) (nI v) (nI (rk K (T 0 1))) = _
      unfold fX11_isLed_18b
      rw [dq]
      simp (disch := first | omega | assumption | (simp only [wL_1, wL_22, wI_2, wA_2, wQ_1, wQ_21] <;> first | assumption | omega)) only [LIT, LITm, nI_add, n_mul, fa_or, n_31m, n_shl0, n_le, n_lt, n_eq, Option.bind_some, B_m hn, hko.1, Nat.le_refl, ↓reduceIte]
  unfold fX11_isLed
  simp (disch := first | omega | assumption | (simp only [wL_1, wL_22, wI_2, wA_2, wQ_1, wQ_21] <;> first | assumption | omega)) only [LIT, LITm, nI_add, n_mul, fa_or, n_31m, n_shl0, n_le, n_lt, n_eq, Option.bind_some, B_m hn]
  refine lp_up (F := fun f (_ : Unit) j => fX11_isLed_8 n f (mk s) 187 (nI code) (nI c) (nI (spN T L j (2 ^ a))) (nI j)) (N := 7) (P := fun _ _ => True) (Q := fun r => r = some (nI (ledB T a c t').toNat, mk s)) ?_ ?_ 7 bi_K () 0 (by omega) (by unfold bi_K; omega) trivial
  · intro f _ j hj _
    left
    refine ⟨(), ?_, trivial⟩
    have sl := spN_lt (K := L) hW (p7 ha) j
    have rr := round (fX11_isLed_8 n f) (spN T L j (2 ^ a)) j sl hj
    show fX11_isLed_8b n (fX11_isLed_8 n f) (mk s) 187 (nI code) (nI c) (nI (spN T L j (2 ^ a))) (nI j) = fX11_isLed_8 n f (mk s) 187 (nI code) (nI c) (nI (spN T L (j + 1) (2 ^ a))) (nI (j + 1))
    unfold fX11_isLed_8b
    simp (disch := first | omega | assumption | (simp only [wL_1, wL_22, wI_2, wA_2, wQ_1, wQ_21] <;> first | assumption | omega)) only [LIT, LITm, nI_add, n_mul, fa_or, n_31m, n_shl0, n_le, n_lt, n_eq, Option.bind_some, show ¬ 7 ≤ j by omega, ↓reduceIte]
    exact rr
  · intro f _ _
    have sl := spN_lt (K := L) hW (p7 ha) 7
    have io := m_isOf (n := n) (h := mk s) (x := c) (k := spN T L 7 (2 ^ a)) (by omega) (by omega)
    show fX11_isLed_8b n (fX11_isLed_8 n f) (mk s) 187 (nI code) (nI c) (nI (spN T L 7 (2 ^ a))) (nI 7) = _
    unfold fX11_isLed_8b
    have el : (spN T L 7 (2 ^ a)).testBit c = ledB T a c t' := by rw [eL]; rfl
    rw [el] at io
    simp (disch := first | omega | assumption | (simp only [wL_1, wL_22, wI_2, wA_2, wQ_1, wQ_21] <;> first | assumption | omega)) only [LIT, LITm, nI_add, n_mul, fa_or, n_31m, n_shl0, n_le, n_lt, n_eq, Option.bind_some, io, gz_b, Nat.le_refl, ↓reduceIte]
theorem m_winsBy {val : Nat → Bool} (hn : 239 ≤ n) (hk : k ≤ 9) (hc : code < 3 ^ k) (h82 : s.1 187 82 = nI k) (hv : ∀ i, i < k → dg code i = 0 → s.1 232 (code + (b.toNat + 1) * 3 ^ i) = nI (val i).toNat) : ∃ o : Option Nat, (o = none → ∀ i, i < k → dg code i = 0 → val i ≠ b) ∧ (∀ i, o = some i → i < k ∧ dg code i = 0 ∧ val i = b ∧ ∀ j, j < i → dg code j = 0 → val j ≠ b) ∧ fX11_winsBy n (mk s) 187 (nI code) (nI b.toNat) = some (oV o, mk s) := by
  have p9 := p3_le hk
  unfold fX11_winsBy
  simp only [B_m hn, Option.bind_some, LIT]
  refine lp_up (F := fun f (_ : Unit) i => fX11_winsBy_2 n f (mk s) 187 (nI code) (nI b.toNat) (nI i)) (N := k) (P := fun i _ => ∀ j, j < i → dg code j = 0 → val j ≠ b) (Q := fun r => ∃ o : Option Nat, (o = none → ∀ i, i < k → dg code i = 0 → val i ≠ b) ∧ (∀ i, o = some i → i < k ∧ dg code i = 0 ∧ val i = b ∧ ∀ j, j < i → dg code j = 0 → val j ≠ b) ∧ r = some (oV o, mk s)) ?_ ?_ k bi_K () 0 (by omega) (by unfold bi_K; omega) (fun j h => absurd h (Nat.not_lt_zero j))
  · intro f _ i hi hP
    have dd := m_digit (n := n) (h := mk s) (c := code) (i := i) (by omega) (by omega)
    have pw := m_power (n := n) (h := mk s) (i := i) (by omega)
    have dl := dg_lt3 (c := code) (q := i)
    have nx : (dg code i = 0 → val i ≠ b) → ∀ j, j < i + 1 → dg code j = 0 → val j ≠ b := fun h j hj => by
      by_cases q : j = i
      · rw [q]; exact h
      · exact hP j (by omega)
    show (∃ s', fX11_winsBy_2b n (fX11_winsBy_2 n f) (mk s) 187 (nI code) (nI b.toNat) (nI i) = _ ∧ _) ∨ ∃ o : Option Nat, _ ∧ _ ∧ fX11_winsBy_2b n (fX11_winsBy_2 n f) (mk s) 187 (nI code) (nI b.toNat) (nI i) = _
    by_cases d0 : dg code i = 0
    · have cv := hv i hi d0
      have cl := dg_lt (k := b.toNat + 1) (by have := Bool.toNat_le b; omega) d0 hi hc
      have p3 := p3_le (show i ≤ 9 by omega)
      have bl := Bool.toNat_le b
      have key : fX11_winsBy_2b n (fX11_winsBy_2 n f) (mk s) 187 (nI code) (nI b.toNat) (nI i) = if val i = b then some (nI i, mk s) else fX11_winsBy_2 n f (mk s) 187 (nI code) (nI b.toNat) (nI (i + 1)) := by
        unfold fX11_winsBy_2b fX11_winsBy_43 fX11_winsBy_48
        rw [d0] at dd
        cases b with
        | true =>
          have cv' : s.1 232 (code + (1 + 1) * 3 ^ i) = nI (val i).toNat := cv
          have cl' : code + (1 + 1) * 3 ^ i < 3 ^ k := cl
          cases ev : val i with
          | true =>
            rw [ev] at cv'
            simp (disch := first | omega | assumption | (simp only [wL_1, wL_22, wI_2, wA_2, wQ_1, wQ_21] <;> first | assumption | omega)) only [LIT, LITm, nI_add, n_mul, fa_or, n_31m, n_shl0, n_le, n_lt, n_eq, Option.bind_some, B_m hn, B_mc hn, h82, dd, pw, cv', Bool.toNat_true, not_true_eq_false, show ¬ k ≤ i by omega, ↓reduceIte]
          | false =>
            rw [ev] at cv'
            simp (disch := first | omega | assumption | (simp only [wL_1, wL_22, wI_2, wA_2, wQ_1, wQ_21] <;> first | assumption | omega)) only [LIT, LITm, nI_add, n_mul, fa_or, n_31m, n_shl0, n_le, n_lt, n_eq, Option.bind_some, B_m hn, B_mc hn, h82, dd, pw, cv', Bool.toNat_true, Bool.toNat_false, Nat.reduceEqDiff, Nat.reduceLeDiff, Bool.false_eq_true, not_true_eq_false, not_false_eq_true, show ¬ k ≤ i by omega, ↓reduceIte]
        | false =>
          have cv' : s.1 232 (code + (0 + 1) * 3 ^ i) = nI (val i).toNat := cv
          have cl' : code + (0 + 1) * 3 ^ i < 3 ^ k := cl
          cases ev : val i with
          | true =>
            rw [ev] at cv'
            simp (disch := first | omega | assumption | (simp only [wL_1, wL_22, wI_2, wA_2, wQ_1, wQ_21] <;> first | assumption | omega)) only [LIT, LITm, nI_add, n_mul, fa_or, n_31m, n_shl0, n_le, n_lt, n_eq, Option.bind_some, B_m hn, B_mc hn, h82, dd, pw, cv', Bool.toNat_true, Bool.toNat_false, Nat.reduceEqDiff, Nat.reduceLeDiff, Bool.true_eq_false, not_true_eq_false, not_false_eq_true, show ¬ k ≤ i by omega, ↓reduceIte]
          | false =>
            rw [ev] at cv'
            simp (disch := first | omega | assumption | (simp only [wL_1, wL_22, wI_2, wA_2, wQ_1, wQ_21] <;> first | assumption | omega)) only [LIT, LITm, nI_add, n_mul, fa_or, n_31m, n_shl0, n_le, n_lt, n_eq, Option.bind_some, B_m hn, B_mc hn, h82, dd, pw, cv', Bool.toNat_false, Nat.reduceEqDiff, Nat.reduceLeDiff, not_true_eq_false, not_false_eq_true, show ¬ k ≤ i by omega, ↓reduceIte]
      by_cases e : val i = b
      · right
        refine ⟨some i, fun h => (by cases h), fun j hj => ?_, by rw [key, if_pos e]; rfl⟩
        cases hj
        exact ⟨hi, d0, e, hP⟩
      · left
        exact ⟨(), by rw [key, if_neg e], nx (fun _ => e)⟩
    · left
      refine ⟨(), ?_, nx (fun h => absurd h d0)⟩
      unfold fX11_winsBy_2b fX11_winsBy_48
      simp (disch := first | omega | assumption | (simp only [wL_1, wL_22, wI_2, wA_2, wQ_1, wQ_21] <;> first | assumption | omega)) only [LIT, LITm, nI_add, n_mul, fa_or, n_31m, n_shl0, n_le, n_lt, n_eq, Option.bind_some, B_m hn, h82, dd, d0, not_false_eq_true, show ¬ k ≤ i by omega, ↓reduceIte]
  · intro f _ hP
    refine ⟨none, fun _ => hP, fun i h => (by cases h), ?_⟩
    show fX11_winsBy_2b n (fX11_winsBy_2 n f) (mk s) 187 (nI code) (nI b.toNat) (nI k) = _
    unfold fX11_winsBy_2b
    simp (disch := first | omega | assumption | (simp only [wL_1, wL_22, wI_2, wA_2, wQ_1, wQ_21] <;> first | assumption | omega)) only [LIT, LITm, nI_add, n_mul, fa_or, n_31m, n_shl0, n_le, n_lt, n_eq, Option.bind_some, B_m hn, h82, Nat.le_refl, ↓reduceIte, oV]
end Mg
