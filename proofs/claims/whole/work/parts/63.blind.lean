/-! ===== blind: both ===== -/
theorem bT {b : Bool} (h : ¬ b = false) : b = true := by cases b <;> first | rfl | exact absurd rfl h
section Bl
variable {n t p x y e : Nat} {s : zS} {T : zT} {K : Nat → Bool} {A : zA} {S : zD} {c : Int32}
def atV (T : zT) (K : Nat → Bool) (e q : Nat) : Bool := K q && (enV T q).testBit e
def kaV (T : zT) (K : Nat → Bool) (e : Nat) : Nat := fb_ct (atV T K e) (T 0 1)
def blB (T : zT) (K : Nat → Bool) (p : Nat) : Bool := K p && (decide (kaV T K (T 3 p) = 1) || decide (kaV T K (T 4 p) = 1))
def blV (T : zT) (K : Nat → Bool) : Nat := goB (blB T K) (T 0 1)
def eaV (T : zT) (K : Nat → Bool) : Nat → Nat
  | 0 => 0
  | m + 1 => eaV T K m ||| (if K m = true then enV T m else 0)
theorem eaV_tb : ∀ m, (eaV T K m).testBit e = true ↔ ∃ q, q < m ∧ atV T K e q = true
  | 0 => by
    show (0 : Nat).testBit e = true ↔ _
    rw [Nat.zero_testBit]
    exact ⟨fun h => absurd h Bool.false_ne_true, fun ⟨q, h, _⟩ => absurd h (Nat.not_lt_zero q)⟩
  | m + 1 => by
    show (eaV T K m ||| _).testBit e = true ↔ _
    rw [Nat.testBit_or, Bool.or_eq_true, eaV_tb m]
    have hm : (if K m = true then enV T m else 0).testBit e = true ↔ atV T K e m = true := by
      unfold atV
      by_cases h : K m = true
      · rw [if_pos h, h, Bool.true_and]
      · rw [if_neg h, bF h, Bool.false_and, Nat.zero_testBit]
    rw [hm]
    constructor
    · rintro (⟨q, h1, h2⟩ | h)
      · exact ⟨q, by omega, h2⟩
      · exact ⟨m, by omega, h⟩
    · rintro ⟨q, h1, h2⟩
      by_cases g : q = m
      · rw [g] at h2; exact Or.inr h2
      · exact Or.inl ⟨q, by omega, h2⟩
theorem eaV_lt (hW : WT T) : ∀ m, m ≤ T 0 1 → eaV T K m < 128
  | 0, _ => by show (0 : Nat) < 128; omega
  | m + 1, hm => by
    have he := WT_p hW (show m < T 0 1 by omega)
    refine Nat.or_lt_two_pow (n := 7) (eaV_lt hW m (by omega)) ?_
    split
    · exact enV_lt he.1 he.2.1
    · decide
theorem kaV_1 (hp : p < T 0 1) (h : atV T K e p = true) : kaV T K e = 1 ↔ (eaV T (fun i => K i && !decide (p = i)) (T 0 1)).testBit e = false := by
  have u := fb_ct_upd (atV T K e) false hp
  rw [h] at u
  simp only [if_true, Bool.false_eq_true, if_false] at u
  have z := fb_ct_zero (p := fun k => if k = p then false else atV T K e k) (n := T 0 1)
  have w := eaV_tb (T := T) (K := fun i => K i && !decide (p = i)) (e := e) (T 0 1)
  unfold kaV
  constructor
  · intro g
    have g0 := z.mp (by omega)
    refine bF (fun g1 => ?_)
    obtain ⟨q, h1, h2⟩ := w.mp g1
    have h3 := g0 q h1
    unfold atV at h2 h3
    by_cases d : q = p
    · subst d
      simp at h2
    · have d2 : ¬ p = q := fun g => d g.symm
      simp only [if_neg d] at h3
      simp only [decide_eq_false d2, Bool.not_false, Bool.and_true] at h2
      rw [h3] at h2
      cases h2
  · intro g
    have : fb_ct (fun k => if k = p then false else atV T K e k) (T 0 1) = 0 := z.mpr (fun k hk => by
      by_cases d : k = p
      · rw [if_pos d]
      · rw [if_neg d]
        refine bF (fun g1 => ?_)
        have := w.mpr ⟨k, hk, by
          unfold atV at g1 ⊢
          have d2 : ¬ p = k := fun g => d g.symm
          simp only [decide_eq_false d2, Bool.not_false, Bool.and_true]
          exact g1⟩
        rw [this] at g
        cases g)
    omega
theorem blB_c (hp : p < T 0 1) (hk : K p = true) : (nd (enV T p) (eaV T (fun i => K i && !decide (p = i)) (T 0 1)) = 0) ↔ blB T K p = false := by
  have a3 : atV T K (T 3 p) p = true := by unfold atV; rw [hk, enV_tb, decide_eq_true rfl]; rfl
  have a4 : atV T K (T 4 p) p = true := by unfold atV; rw [hk, enV_tb, decide_eq_true (rfl : T 4 p = T 4 p), Bool.or_true]; rfl
  have k3 := kaV_1 hp a3
  have k4 := kaV_1 hp a4
  unfold blB
  rw [hk, Bool.true_and, Bool.or_eq_false_iff, decide_eq_false_iff_not, decide_eq_false_iff_not, k3, k4]
  constructor
  · intro h
    have z3 := congrArg (fun v => v.testBit (T 3 p)) h
    have z4 := congrArg (fun v => v.testBit (T 4 p)) h
    simp only [nd_tb, enV_tb, decide_true, Bool.true_or, Bool.or_true, Bool.true_and, Nat.zero_testBit] at z3 z4
    exact ⟨fun g => (by rw [g] at z3; cases z3), fun g => (by rw [g] at z4; cases z4)⟩
  · intro ⟨h3, h4⟩
    refine Nat.eq_of_testBit_eq fun i => ?_
    rw [nd_tb, enV_tb, Nat.zero_testBit]
    by_cases g3 : T 3 p = i
    · rw [← g3, bT h3]
      simp
    · by_cases g4 : T 4 p = i
      · rw [← g4, bT h4]
        simp
      · rw [decide_eq_false g3, decide_eq_false g4]
        rfl
theorem c_ends2 {k : Nat} (hn : 239 ≤ n) (ht : t = 6 ∨ t = 29) (hW : WT T) (hT : cTd s.1 t T) (hk : k < 512) : fX9_endsOfAll n (mk s) t (nI k) = some (nI (eaV T (fun i => k.testBit i) (T 0 1)), mk s) := by
  have h0 := hW.1
  unfold fX9_endsOfAll
  simp (disch := first | omega | assumption | (simp only [wL_1, wL_22, wI_2, wA_2, wQ_1, wQ_21] <;> first | assumption | omega)) only [LIT, LITm, nI_add, n_mul, fa_or, n_31m, n_shl0, n_le, n_lt, n_eq, Option.bind_some]
  refine lp_up (F := fun f (b : Nat) i => fX9_endsOfAll_4 n f (mk s) t (nI k) (nI b) (nI i)) (N := T 0 1) (P := fun i b => b = eaV T (fun i => k.testBit i) i) (Q := fun r => r = some (nI (eaV T (fun i => k.testBit i) (T 0 1)), mk s)) ?_ ?_ (T 0 1) bi_K 0 0 (by omega) (by unfold bi_K; omega) rfl
  · intro f b i hi hP
    left
    refine ⟨b ||| (if k.testBit i = true then enV T i else 0), ?_, by rw [hP]; rfl⟩
    show fX9_endsOfAll_4b n (fX9_endsOfAll_4 n f) (mk s) t (nI k) (nI b) (nI i) = _
    unfold fX9_endsOfAll_4b fX9_endsOfAll_31
    cases g : k.testBit i with
    | false => simp (disch := first | omega | assumption | (simp only [wL_1, wL_22, wI_2, wA_2, wQ_1, wQ_21] <;> first | assumption | omega)) only [LIT, LITm, nI_add, n_mul, fa_or, n_31m, n_shl0, n_le, n_lt, n_eq, Option.bind_some, B_t hn ht, CTp t T, n_bitz, g, show ¬ T 0 1 ≤ i by omega, Bool.false_eq_true, Nat.or_zero, ↓reduceIte]
    | true => simp (disch := first | omega | assumption | (simp only [wL_1, wL_22, wI_2, wA_2, wQ_1, wQ_21] <;> first | assumption | omega)) only [LIT, LITm, nI_add, n_mul, fa_or, n_31m, n_shl0, n_le, n_lt, n_eq, Option.bind_some, B_t hn ht, CTp t T, n_bitz, g, c_ends hn ht hW hT hi, show ¬ T 0 1 ≤ i by omega, Bool.true_eq_false, ↓reduceIte]
  · intro f b hP
    show fX9_endsOfAll_4b n (fX9_endsOfAll_4 n f) (mk s) t (nI k) (nI b) (nI (T 0 1)) = _
    unfold fX9_endsOfAll_4b
    simp (disch := first | omega | assumption | (simp only [wL_1, wL_22, wI_2, wA_2, wQ_1, wQ_21] <;> first | assumption | omega)) only [LIT, LITm, nI_add, n_mul, fa_or, n_31m, n_shl0, n_le, n_lt, n_eq, Option.bind_some, B_t hn ht, CTp t T, Nat.le_refl, hP, ↓reduceIte]
theorem eaV_cong {K' : Nat → Bool} : ∀ m, (∀ i, i < m → K i = K' i) → eaV T K m = eaV T K' m
  | 0, _ => rfl
  | m + 1, h => by
    show eaV T K m ||| (if K m = true then enV T m else 0) = eaV T K' m ||| (if K' m = true then enV T m else 0)
    rw [eaV_cong m (fun i hi => h i (by omega)), h m (by omega)]
theorem c_blind (hn : 239 ≤ n) (hK : cK s t A) (hA : wfA A) : fX10_blind n (mk s) 1 = some (nI (blV (aT A) (fun i => (aS A).2.2.2.1.testBit i)), mk s) := by
  have ht := cK_t hK
  have hW := hA.1
  have h0 := hW.1
  have hk := wD_512 hA
  obtain ⟨k1, k2, k3, k4, k5, k6, k7, k8, k9⟩ := hK
  have kk := k4.1.2.2.2.2
  obtain ⟨T, eT⟩ : ∃ T, T = aT A := ⟨_, rfl⟩
  obtain ⟨k, ek⟩ : ∃ k, k = (aS A).2.2.2.1 := ⟨_, rfl⟩
  rw [← eT] at hW h0 k3 ⊢
  rw [← ek] at hk kk ⊢
  have goal : fX9_blindEnds n (mk s) t (nI k) = some (nI (blV T (fun i => k.testBit i)), mk s) := by
    unfold fX9_blindEnds
    simp (disch := first | omega | assumption | (simp only [wL_1, wL_22, wI_2, wA_2, wQ_1, wQ_21] <;> first | assumption | omega)) only [LIT, LITm, nI_add, n_mul, fa_or, n_31m, n_shl0, n_le, n_lt, n_eq, Option.bind_some]
    refine lp_up (F := fun f (b : Nat) i => fX9_blindEnds_4 n f (mk s) t (nI k) (nI b) (nI i)) (N := T 0 1) (P := fun i b => b = goB (blB T (fun i => k.testBit i)) i) (Q := fun r => r = some (nI (blV T (fun i => k.testBit i)), mk s)) ?_ ?_ (T 0 1) bi_K 0 0 (by omega) (by unfold bi_K; omega) rfl
    · intro f b i hi hP
      left
      have he := WT_p hW hi
      refine ⟨b ||| (if blB T (fun i => k.testBit i) i = true then 2 ^ i else 0), ?_, by rw [hP]; rfl⟩
      show fX9_blindEnds_4b n (fX9_blindEnds_4 n f) (mk s) t (nI k) (nI b) (nI i) = _
      unfold fX9_blindEnds_4b fX9_blindEnds_51
      cases g : k.testBit i with
      | false =>
        rw [if_neg (show ¬ blB T (fun i => k.testBit i) i = true by unfold blB; simp [g])]
        simp (disch := first | omega | assumption | (simp only [wL_1, wL_22, wI_2, wA_2, wQ_1, wQ_21] <;> first | assumption | omega)) only [LIT, LITm, nI_add, n_mul, fa_or, n_31m, n_shl0, n_le, n_lt, n_eq, Option.bind_some, B_t hn ht, CTp t T, n_bitz, g, show ¬ T 0 1 ≤ i by omega, Nat.or_zero, ↓reduceIte]
      | true =>
        have hnd : nd k (2 ^ i) < 512 := nd_lt (k := 9) hk
        have ee := c_ends2 hn ht hW k3 hnd
        rw [eaV_cong (T := T) (K := fun j => (nd k (2 ^ i)).testBit j) (K' := fun j => k.testBit j && !decide (i = j)) (T 0 1) (fun j _ => by rw [nd_tb, Nat.testBit_two_pow])] at ee
        have hen : enV T i < 128 := enV_lt (k := 7) he.1 he.2.1
        have hnn : nd (enV T i) (eaV T (fun j => k.testBit j && !decide (i = j)) (T 0 1)) < 128 := nd_lt (k := 7) hen
        have bc := blB_c (K := fun i => k.testBit i) hi g
        by_cases d : nd (enV T i) (eaV T (fun j => k.testBit j && !decide (i = j)) (T 0 1)) = 0
        · rw [if_neg (show ¬ blB T (fun i => k.testBit i) i = true by rw [bc.mp d]; simp)]
          simp (disch := first | omega | assumption | (simp only [wL_1, wL_22, wI_2, wA_2, wQ_1, wQ_21] <;> first | assumption | omega)) only [LIT, LITm, nI_add, n_mul, fa_or, n_31m, n_shl0, n_le, n_lt, n_eq, Option.bind_some, B_t hn ht, CTp t T, n_bitz, g, c_ends hn ht hW k3 hi, n_nd, ee, d, Nat.or_zero, show ¬ T 0 1 ≤ i by omega, Bool.true_eq_false, ↓reduceIte]
        · rw [if_pos (bT (fun q => d (bc.mpr q)))]
          simp (disch := first | omega | assumption | (simp only [wL_1, wL_22, wI_2, wA_2, wQ_1, wQ_21] <;> first | assumption | omega)) only [LIT, LITm, nI_add, n_mul, fa_or, n_31m, n_shl0, n_le, n_lt, n_eq, Option.bind_some, B_t hn ht, CTp t T, n_bitz, g, c_ends hn ht hW k3 hi, n_nd, ee, d, show ¬ T 0 1 ≤ i by omega, Bool.true_eq_false, ↓reduceIte]
    · intro f b hP
      show fX9_blindEnds_4b n (fX9_blindEnds_4 n f) (mk s) t (nI k) (nI b) (nI (T 0 1)) = _
      unfold fX9_blindEnds_4b
      simp (disch := first | omega | assumption | (simp only [wL_1, wL_22, wI_2, wA_2, wQ_1, wQ_21] <;> first | assumption | omega)) only [LIT, LITm, nI_add, n_mul, fa_or, n_31m, n_shl0, n_le, n_lt, n_eq, Option.bind_some, B_t hn ht, CTp t T, Nat.le_refl, hP, ↓reduceIte]
      rfl
  unfold fX10_blind
  simp (disch := first | omega | assumption | (simp only [wL_1, wL_22, wI_2, wA_2, wQ_1, wQ_21] <;> first | assumption | omega)) only [LIT, LITm, nI_add, n_mul, fa_or, n_31m, n_shl0, n_le, n_lt, n_eq, Option.bind_some, B_K hn, B_s hn is_52, k2, kk, goal]
theorem m_keptAt (hn : 239 ≤ n) (hW : WT T) (hT : mTd s.1 T) (hS : mSd s 0 T O00 S) (he : e < 7) : fX11_keptAt n (mk s) 187 (nI e) = some (nI (kaV T (fun i => S.2.2.2.1.testBit i) e), mk s) := by
  have h0 := hW.1
  unfold fX11_keptAt
  simp (disch := first | omega | assumption | (simp only [wL_1, wL_22, wI_2, wA_2, wQ_1, wQ_21] <;> first | assumption | omega)) only [LIT, LITm, nI_add, n_mul, fa_or, n_31m, n_shl0, n_le, n_lt, n_eq, Option.bind_some, B_m hn]
  refine lp_up (F := fun f (b : Nat) i => fX11_keptAt_4 n f (mk s) 187 (nI e) (nI b) (nI i)) (N := T 0 1) (P := fun i b => b = fb_ct (atV T (fun i => S.2.2.2.1.testBit i) e) i) (Q := fun r => r = some (nI (kaV T (fun i => S.2.2.2.1.testBit i) e), mk s)) ?_ ?_ (T 0 1) bi_K 0 0 (by omega) (by unfold bi_K; omega) rfl
  · intro f b i hi hP
    left
    have q : s.1 222 i = nI (S.2.2.2.1.testBit i).toNat := by
      have := (hS.2.1 i hi).2.1
      rwa [Nat.mul_zero, Nat.zero_add] at this
    refine ⟨b + (if atV T (fun i => S.2.2.2.1.testBit i) e i = true then 1 else 0), ?_, by rw [hP]; rfl⟩
    show fX11_keptAt_4b n (fX11_keptAt_4 n f) (mk s) 187 (nI e) (nI b) (nI i) = _
    unfold fX11_keptAt_4b fX11_keptAt_35 fX11_keptAt_36
    cases g : S.2.2.2.1.testBit i with
    | false =>
      rw [g] at q
      rw [if_neg (show ¬ atV T (fun i => S.2.2.2.1.testBit i) e i = true by unfold atV; simp [g])]
      simp (disch := first | omega | assumption | (simp only [wL_1, wL_22, wI_2, wA_2, wQ_1, wQ_21] <;> first | assumption | omega)) only [LIT, LITm, nI_add, n_mul, fa_or, n_31m, n_shl0, n_le, n_lt, n_eq, Option.bind_some, B_m hn, B_mb hn, hT.1.2.1, q, Bool.toNat_false, Nat.add_zero, show ¬ T 0 1 ≤ i by omega, ↓reduceIte]
    | true =>
      rw [g] at q
      have ae := m_atEnd hn hW hT hi he
      by_cases d : T 3 i = e ∨ T 4 i = e
      · rw [decide_eq_true d] at ae
        rw [if_pos (show atV T (fun i => S.2.2.2.1.testBit i) e i = true by unfold atV; rw [enV_tb]; simp [g, d])]
        simp (disch := first | omega | assumption | (simp only [wL_1, wL_22, wI_2, wA_2, wQ_1, wQ_21] <;> first | assumption | omega)) only [LIT, LITm, nI_add, n_mul, fa_or, n_31m, n_shl0, n_le, n_lt, n_eq, Option.bind_some, B_m hn, B_mb hn, hT.1.2.1, q, ae, Bool.toNat_true, Nat.reduceEqDiff, Nat.reduceLeDiff, show ¬ T 0 1 ≤ i by omega, ↓reduceIte]
      · rw [decide_eq_false d] at ae
        rw [if_neg (show ¬ atV T (fun i => S.2.2.2.1.testBit i) e i = true by unfold atV; rw [enV_tb]; simp only [g, Bool.true_and, Bool.or_eq_true, decide_eq_true_eq]; exact d)]
        simp (disch := first | omega | assumption | (simp only [wL_1, wL_22, wI_2, wA_2, wQ_1, wQ_21] <;> first | assumption | omega)) only [LIT, LITm, nI_add, n_mul, fa_or, n_31m, n_shl0, n_le, n_lt, n_eq, Option.bind_some, B_m hn, B_mb hn, hT.1.2.1, q, ae, Bool.toNat_true, Bool.toNat_false, Nat.add_zero, Nat.reduceEqDiff, Nat.reduceLeDiff, show ¬ T 0 1 ≤ i by omega, ↓reduceIte]
  · intro f b hP
    show fX11_keptAt_4b n (fX11_keptAt_4 n f) (mk s) 187 (nI e) (nI b) (nI (T 0 1)) = _
    unfold fX11_keptAt_4b
    simp (disch := first | omega | assumption | (simp only [wL_1, wL_22, wI_2, wA_2, wQ_1, wQ_21] <;> first | assumption | omega)) only [LIT, LITm, nI_add, n_mul, fa_or, n_31m, n_shl0, n_le, n_lt, n_eq, Option.bind_some, B_m hn, hT.1.2.1, hP, Nat.le_refl, ↓reduceIte]
    rfl
theorem kaV_le (T : zT) (K : Nat → Bool) (e : Nat) : kaV T K e ≤ T 0 1 := fb_ct_le _ _
theorem m_blind (hn : 239 ≤ n) (hK : mK s A) (hA : wfA A) : ∃ s' : zS, fX11_blind n (mk s) 187 = some (nI (blV (aT A) (fun i => (aS A).2.2.2.1.testBit i)), mk s') ∧ frT s s' := by
  have hW := hA.1
  have ft := m_th s
  have hKt := mK_T hW hK ft
  obtain ⟨sa, ea⟩ : ∃ sa : zS, sa = wI s 187 2 (nI 0) := ⟨_, rfl⟩
  rw [← ea] at hKt ft
  obtain ⟨k1, k2, -⟩ := hKt
  refine ⟨sa, ?_, ft⟩
  obtain ⟨T, eT⟩ : ∃ T, T = aT A := ⟨_, rfl⟩
  obtain ⟨S, eS⟩ : ∃ S, S = aS A := ⟨_, rfl⟩
  rw [← eT] at hW k1 k2 ⊢
  rw [← eS] at k2 ⊢
  have h0 := hW.1
  unfold fX11_blind
  rw [bnd_s (v := ()) (by simp (disch := first | omega | assumption | (simp only [wL_1, wL_22, wI_2, wA_2, wQ_1, wQ_21] <;> first | assumption | omega)) only [B_m hn]), bnd_s (v := mk sa) (by simp (disch := first | omega | assumption | (simp only [wL_1, wL_22, wI_2, wA_2, wQ_1, wQ_21] <;> first | assumption | omega)) only [LIT, B_m hn, ea])]
  refine lp_up (F := fun f (b : Nat) i => fX11_blind_9 n f (mk sa) 187 (nI b) (nI i)) (N := T 0 1) (P := fun i b => b = goB (blB T (fun i => S.2.2.2.1.testBit i)) i) (Q := fun r => r = some (nI (blV T (fun i => S.2.2.2.1.testBit i)), mk sa)) ?_ ?_ (T 0 1) bi_K 0 0 (by omega) (by unfold bi_K; omega) rfl
  · intro f b i hi hP
    left
    have he := WT_p hW hi
    have q : sa.1 222 i = nI (S.2.2.2.1.testBit i).toNat := by
      have := (k2.2.1 i hi).2.1
      rwa [Nat.mul_zero, Nat.zero_add] at this
    have w3 : sa.1 194 i = nI (T 3 i) := (k1.2.2.2.1 i hi).2.1
    have w4 : sa.1 195 i = nI (T 4 i) := (k1.2.2.2.1 i hi).2.2.1
    have a3 := m_keptAt hn hW k1 k2 he.1
    have a4 := m_keptAt hn hW k1 k2 he.2.1
    have l3 := kaV_le T (fun i => S.2.2.2.1.testBit i) (T 3 i)
    have l4 := kaV_le T (fun i => S.2.2.2.1.testBit i) (T 4 i)
    refine ⟨b ||| (if blB T (fun i => S.2.2.2.1.testBit i) i = true then 2 ^ i else 0), ?_, by rw [hP]; rfl⟩
    show fX11_blind_9b n (fX11_blind_9 n f) (mk sa) 187 (nI b) (nI i) = _
    unfold fX11_blind_9b fX11_blind_55 fX11_blind_61 fX11_blind_62
    cases g : S.2.2.2.1.testBit i with
    | false =>
      rw [g] at q
      rw [if_neg (show ¬ blB T (fun i => S.2.2.2.1.testBit i) i = true by unfold blB; simp [g])]
      simp (disch := first | omega | assumption | (simp only [wL_1, wL_22, wI_2, wA_2, wQ_1, wQ_21] <;> first | assumption | omega)) only [LIT, LITm, nI_add, n_mul, fa_or, n_31m, n_shl0, n_le, n_lt, n_eq, Option.bind_some, B_m hn, B_mb hn, k1.1.2.1, q, Bool.toNat_false, Nat.or_zero, show ¬ T 0 1 ≤ i by omega, ↓reduceIte]
    | true =>
      rw [g] at q
      by_cases d3 : kaV T (fun i => S.2.2.2.1.testBit i) (T 3 i) = 1
      · rw [if_pos (show blB T (fun i => S.2.2.2.1.testBit i) i = true by unfold blB; simp [g, d3])]
        simp (disch := first | omega | assumption | (simp only [wL_1, wL_22, wI_2, wA_2, wQ_1, wQ_21] <;> first | assumption | omega)) only [LIT, LITm, nI_add, n_mul, fa_or, n_31m, n_shl0, n_le, n_lt, n_eq, Option.bind_some, B_m hn, B_ma hn, B_mb hn, k1.1.2.1, q, w3, w4, a3, a4, d3, Bool.toNat_true, Nat.reduceEqDiff, Nat.reduceLeDiff, show ¬ T 0 1 ≤ i by omega, ↓reduceIte]
      · by_cases d4 : kaV T (fun i => S.2.2.2.1.testBit i) (T 4 i) = 1
        · rw [if_pos (show blB T (fun i => S.2.2.2.1.testBit i) i = true by unfold blB; simp [g, d4])]
          simp (disch := first | omega | assumption | (simp only [wL_1, wL_22, wI_2, wA_2, wQ_1, wQ_21] <;> first | assumption | omega)) only [LIT, LITm, nI_add, n_mul, fa_or, n_31m, n_shl0, n_le, n_lt, n_eq, Option.bind_some, B_m hn, B_ma hn, B_mb hn, k1.1.2.1, q, w3, w4, a3, a4, d3, d4, Bool.toNat_true, Nat.reduceEqDiff, Nat.reduceLeDiff, not_true_eq_false, show ¬ T 0 1 ≤ i by omega, ↓reduceIte]
        · rw [if_neg (show ¬ blB T (fun i => S.2.2.2.1.testBit i) i = true by unfold blB; simp [d3, d4])]
          simp (disch := first | omega | assumption | (simp only [wL_1, wL_22, wI_2, wA_2, wQ_1, wQ_21] <;> first | assumption | omega)) only [LIT, LITm, nI_add, n_mul, fa_or, n_31m, n_shl0, n_le, n_lt, n_eq, Option.bind_some, B_m hn, B_ma hn, B_mb hn, k1.1.2.1, q, w3, w4, a3, a4, d3, d4, Bool.toNat_true, Nat.reduceEqDiff, Nat.reduceLeDiff, not_false_eq_true, Nat.or_zero, show ¬ T 0 1 ≤ i by omega, ↓reduceIte]
  · intro f b hP
    show fX11_blind_9b n (fX11_blind_9 n f) (mk sa) 187 (nI b) (nI (T 0 1)) = _
    unfold fX11_blind_9b
    simp (disch := first | omega | assumption | (simp only [wL_1, wL_22, wI_2, wA_2, wQ_1, wQ_21] <;> first | assumption | omega)) only [LIT, LITm, nI_add, n_mul, fa_or, n_31m, n_shl0, n_le, n_lt, n_eq, Option.bind_some, B_m hn, k1.1.2.1, hP, Nat.le_refl, ↓reduceIte]
    rfl
end Bl
