/-! ===== watch: both ===== -/
section Wa
variable {n t p x y b : Nat} {s : zS} {T : zT} {K : Nat → Bool} {A : zA} {S : zD} {c : Int32}
def wdP (T : zT) (K : Nat → Bool) (b m : Nat) : Prop := ∀ p, p < m → K p = true → enV T p &&& b ≠ 0
/-- the best of those at hand -/
def wBest (T : zT) (K : Nat → Bool) (b : Nat) (D : Nat → Prop) : Prop := wdP T K b (T 0 1) ∧ D b ∧ ∀ c, D c → wdP T K c (T 0 1) → pcV b < pcV c ∨ (pcV b = pcV c ∧ b ≤ c)
theorem wBest_one {D : Nat → Prop} {b c : Nat} (h1 : wBest T K b D) (h2 : wBest T K c D) : b = c := by
  have a := h1.2.2 c h2.2.1 h2.1
  have d := h2.2.2 b h1.2.1 h1.1
  omega
theorem c_watched {k : Nat} (hn : 239 ≤ n) (ht : t = 6 ∨ t = 29) (hW : WT T) (hT : cTd s.1 t T) (hk : k < 512) (hb : b < 128) : (wdP T (fun i => k.testBit i) b (T 0 1) → fX9_isWatched n (mk s) t (nI k) (nI b) = some (nI 1, mk s)) ∧ (¬ wdP T (fun i => k.testBit i) b (T 0 1) → fX9_isWatched n (mk s) t (nI k) (nI b) = some (nI 0, mk s)) := by
  have h0 := hW.1
  have key : (fX9_isWatched n (mk s) t (nI k) (nI b) = some (nI 1, mk s) ∧ wdP T (fun i => k.testBit i) b (T 0 1)) ∨ (fX9_isWatched n (mk s) t (nI k) (nI b) = some (nI 0, mk s) ∧ ¬ wdP T (fun i => k.testBit i) b (T 0 1)) := by
    unfold fX9_isWatched
    simp (disch := first | omega | assumption | (simp only [wL_1, wL_22, wI_2, wA_2, wQ_1, wQ_21] <;> first | assumption | omega)) only [LIT, LITm, nI_add, n_mul, fa_or, n_31m, n_shl0, n_le, n_lt, n_eq, Option.bind_some]
    refine lp_up (F := fun f (_ : Unit) i => fX9_isWatched_2 n f (mk s) t (nI k) (nI b) (nI i)) (N := T 0 1) (P := fun i _ => wdP T (fun i => k.testBit i) b i) (Q := fun r => (r = some (nI 1, mk s) ∧ wdP T (fun i => k.testBit i) b (T 0 1)) ∨ (r = some (nI 0, mk s) ∧ ¬ wdP T (fun i => k.testBit i) b (T 0 1))) ?_ ?_ (T 0 1) bi_K () 0 (by omega) (by unfold bi_K; omega) (fun p h => absurd h (Nat.not_lt_zero p))
    · intro f _ i hi hP
      have he := WT_p hW hi
      have hen : enV T i < 128 := enV_lt (k := 7) he.1 he.2.1
      have hen2 : enV T i < 2 ^ 31 := by omega
      by_cases g : k.testBit i = true ∧ enV T i &&& b = 0
      · right
        right
        refine ⟨?_, fun h => h i hi g.1 g.2⟩
        show fX9_isWatched_2b n (fX9_isWatched_2 n f) (mk s) t (nI k) (nI b) (nI i) = _
        unfold fX9_isWatched_2b
        simp (disch := first | omega | assumption | (simp only [wL_1, wL_22, wI_2, wA_2, wQ_1, wQ_21] <;> first | assumption | omega)) only [LIT, LITm, nI_add, n_mul, fa_or, n_31m, n_shl0, n_le, n_lt, n_eq, Option.bind_some, B_t hn ht, CTp t T, n_bitz, n_and0, g.1, g.2, c_ends hn ht hW hT hi, show ¬ T 0 1 ≤ i by omega, Bool.true_eq_false, not_true_eq_false, ↓reduceIte]
      · left
        refine ⟨(), ?_, fun p hp hk => ?_⟩
        · show fX9_isWatched_2b n (fX9_isWatched_2 n f) (mk s) t (nI k) (nI b) (nI i) = _
          unfold fX9_isWatched_2b fX9_isWatched_33
          cases d : k.testBit i with
          | false => simp (disch := first | omega | assumption | (simp only [wL_1, wL_22, wI_2, wA_2, wQ_1, wQ_21] <;> first | assumption | omega)) only [LIT, LITm, nI_add, n_mul, fa_or, n_31m, n_shl0, n_le, n_lt, n_eq, Option.bind_some, B_t hn ht, CTp t T, n_bitz, d, show ¬ T 0 1 ≤ i by omega, ↓reduceIte]
          | true =>
            have d2 : ¬ enV T i &&& b = 0 := fun q => g ⟨d, q⟩
            simp (disch := first | omega | assumption | (simp only [wL_1, wL_22, wI_2, wA_2, wQ_1, wQ_21] <;> first | assumption | omega)) only [LIT, LITm, nI_add, n_mul, fa_or, n_31m, n_shl0, n_le, n_lt, n_eq, Option.bind_some, B_t hn ht, CTp t T, n_bitz, n_and0, d, d2, c_ends hn ht hW hT hi, show ¬ T 0 1 ≤ i by omega, Bool.true_eq_false, not_false_eq_true, ↓reduceIte]
        · by_cases e : p = i
          · rw [e] at hk ⊢
            exact fun q => g ⟨hk, q⟩
          · exact hP p (by omega) hk
    · intro f _ hP
      left
      refine ⟨?_, hP⟩
      show fX9_isWatched_2b n (fX9_isWatched_2 n f) (mk s) t (nI k) (nI b) (nI (T 0 1)) = _
      unfold fX9_isWatched_2b
      simp (disch := first | omega | assumption | (simp only [wL_1, wL_22, wI_2, wA_2, wQ_1, wQ_21] <;> first | assumption | omega)) only [LIT, LITm, nI_add, n_mul, fa_or, n_31m, n_shl0, n_le, n_lt, n_eq, Option.bind_some, B_t hn ht, CTp t T, Nat.le_refl, ↓reduceIte]
  rcases key with ⟨e, h⟩ | ⟨e, h⟩
  · exact ⟨fun _ => e, fun g => absurd h g⟩
  · exact ⟨fun g => absurd g h, fun _ => e⟩
theorem full_w (hW : WT T) : wdP T K (2 ^ T 0 0 - 1) (T 0 1) := by
  intro p hp _ h
  have hq := hW.2.2.1 p hp
  have := congrArg (fun v => v.testBit (T 3 p)) h
  simp only [Nat.testBit_and, enV_tb, Nat.testBit_two_pow_sub_one, Nat.zero_testBit, decide_true, Bool.true_or, Bool.true_and, decide_eq_true hq.1] at this
  cases this
theorem n_decm (j : Nat) : nI (j + 1) + m1 = nI j := by
  rw [← nI_add, Int32.add_assoc, show nI 1 + m1 = 0 from by decide, Int32.add_zero]
def dn : Nat → Int32
  | 0 => m1
  | j + 1 => nI j
theorem dn_s : ∀ j, nI j + m1 = dn j
  | 0 => by decide
  | j + 1 => n_decm j
theorem c_fw {k N : Nat} (hn : 239 ≤ n) (ht : t = 6 ∨ t = 29) (hW : WT T) (hT : cTd s.1 t T) (hk : k < 512) (hN : N ≤ 128) : ∀ (j f b : Nat), j < f → b < N → wdP T (fun i => k.testBit i) b (T 0 1) → j ≤ N → (∀ c, j ≤ c → c < N → wdP T (fun i => k.testBit i) c (T 0 1) → pcV b < pcV c ∨ (pcV b = pcV c ∧ b ≤ c)) → ∃ b', wBest T (fun i => k.testBit i) b' (fun c => c < N) ∧ fX9_fewestWatched_14 n f (mk s) t (nI k) (nI b) (dn j) = some (nI b', mk s)
  | 0, f, b, hf, hb, hw, hj, hc => by
    obtain ⟨f, rfl⟩ : ∃ f', f = f' + 1 := ⟨f - 1, by omega⟩
    refine ⟨b, ⟨hw, hb, fun c h1 h2 => hc c (Nat.zero_le c) h1 h2⟩, ?_⟩
    show fX9_fewestWatched_14b n (fX9_fewestWatched_14 n f) (mk s) t (nI k) (nI b) m1 = _
    unfold fX9_fewestWatched_14b
    simp only [LIT, n_m1lt, if_true]
  | j + 1, f, b, hf, hb, hw, hj, hc => by
    obtain ⟨f, rfl⟩ : ∃ f', f = f' + 1 := ⟨f - 1, by omega⟩
    have lb := pcV_le b
    have lj := pcV_le j
    have w := c_watched (s := s) (b := j) hn ht hW hT hk (by omega)
    have nlt : (nI j < nI 0) = False := n_lt0 (by omega)
    have stay : (wdP T (fun i => k.testBit i) j (T 0 1) → pcV b < pcV j) → ∃ b', wBest T (fun i => k.testBit i) b' (fun c => c < N) ∧ fX9_fewestWatched_14 n f (mk s) t (nI k) (nI b) (dn j) = some (nI b', mk s) := fun h => c_fw hn ht hW hT hk hN j f b (by omega) hb hw (by omega) (fun c h1 h2 h3 => by
      by_cases e : c = j
      · rw [e] at h3 ⊢
        exact Or.inl (h h3)
      · exact hc c (by omega) h2 h3)
    show ∃ b', _ ∧ fX9_fewestWatched_14b n (fX9_fewestWatched_14 n f) (mk s) t (nI k) (nI b) (nI j) = _
    unfold fX9_fewestWatched_14b fX9_fewestWatched_40
    by_cases g : pcV b < pcV j
    · simp (disch := first | omega | assumption | (simp only [wL_1, wL_22, wI_2, wA_2, wQ_1, wQ_21] <;> first | assumption | omega)) only [LIT, LITm, nI_add, n_mul, fa_or, n_31m, n_shl0, n_le, n_lt, n_eq, Option.bind_some, nlt, c_bitCount (show j < 512 by omega), c_bitCount (show b < 512 by omega), g, dn_s, if_false, ↓reduceIte]
      exact stay (fun _ => g)
    · by_cases h : wdP T (fun i => k.testBit i) j (T 0 1)
      · simp (disch := first | omega | assumption | (simp only [wL_1, wL_22, wI_2, wA_2, wQ_1, wQ_21] <;> first | assumption | omega)) only [LIT, LITm, nI_add, n_mul, fa_or, n_31m, n_shl0, n_le, n_lt, n_eq, Option.bind_some, nlt, c_bitCount (show j < 512 by omega), c_bitCount (show b < 512 by omega), g, w.1 h, Nat.reduceEqDiff, Nat.reduceLeDiff, dn_s, if_false, ↓reduceIte]
        refine c_fw hn ht hW hT hk hN j f j (by omega) (by omega) h (by omega) (fun c h1 h2 h3 => ?_)
        by_cases e : c = j
        · rw [e]
          exact Or.inr ⟨rfl, Nat.le_refl _⟩
        · have := hc c (by omega) h2 h3
          omega
      · simp (disch := first | omega | assumption | (simp only [wL_1, wL_22, wI_2, wA_2, wQ_1, wQ_21] <;> first | assumption | omega)) only [LIT, LITm, nI_add, n_mul, fa_or, n_31m, n_shl0, n_le, n_lt, n_eq, Option.bind_some, nlt, c_bitCount (show j < 512 by omega), c_bitCount (show b < 512 by omega), g, w.2 h, dn_s, if_false, ↓reduceIte]
        exact stay (fun q => absurd q h)
theorem c_watch (hn : 239 ≤ n) (hK : cK s t A) (hA : wfA A) : ∃ b, wBest (aT A) (fun i => (aS A).2.2.2.1.testBit i) b (fun c => c < 2 ^ aT A 0 0) ∧ fX10_watch n (mk s) 1 = some (nI b, mk s) := by
  have ht := cK_t hK
  have hW := hA.1
  have hk := wD_512 hA
  obtain ⟨k1, k2, k3, k4, k5, k6, k7, k8, k9⟩ := hK
  have kk := k4.1.2.2.2.2
  obtain ⟨T, eT⟩ : ∃ T, T = aT A := ⟨_, rfl⟩
  obtain ⟨k, ek⟩ : ∃ k, k = (aS A).2.2.2.1 := ⟨_, rfl⟩
  rw [← eT] at hW k3 ⊢
  rw [← ek] at hk kk ⊢
  have h0 := hW.1
  have hp0 : 0 < 2 ^ T 0 0 := Nat.two_pow_pos _
  have hp7 : 2 ^ T 0 0 ≤ 128 := Nat.pow_le_pow_right (n := 2) (j := 7) (by decide) h0.1
  obtain ⟨N, eN⟩ : ∃ N, N = 2 ^ T 0 0 := ⟨_, rfl⟩
  have goal : ∃ b, wBest T (fun i => k.testBit i) b (fun c => c < 2 ^ T 0 0) ∧ fX9_fewestWatched n (mk s) t (nI k) = some (nI b, mk s) := by
    have fw := full_w (K := fun i => k.testBit i) hW
    rw [← eN] at hp0 hp7 fw ⊢
    have e : fX9_fewestWatched n (mk s) t (nI k) = fX9_fewestWatched_14 n bi_K (mk s) t (nI k) (nI (N - 1)) (nI (N - 1)) := by
      unfold fX9_fewestWatched
      simp (disch := first | omega | assumption | (simp only [wL_1, wL_22, wI_2, wA_2, wQ_1, wQ_21] <;> first | assumption | omega)) only [LIT, LITm, nI_add, n_mul, fa_or, n_31m, n_shl0, n_le, n_lt, n_eq, Option.bind_some, B_t hn ht, CTp t T, ← eN, n_sub]
    rw [e]
    obtain ⟨M, eM⟩ : ∃ M, N = M + 1 := ⟨N - 1, by omega⟩
    have r := c_fw (s := s) hn ht hW k3 hk hp7 N bi_K (N - 1) (by unfold bi_K; omega) (by omega) fw (Nat.le_refl N) (fun c h1 h2 => absurd h2 (by omega))
    rw [show dn N = nI (N - 1) by rw [eM]; rfl] at r
    exact r
  obtain ⟨b, hb, e⟩ := goal
  refine ⟨b, hb, ?_⟩
  unfold fX10_watch
  simp (disch := first | omega | assumption | (simp only [wL_1, wL_22, wI_2, wA_2, wQ_1, wQ_21] <;> first | assumption | omega)) only [LIT, LITm, nI_add, n_mul, fa_or, n_31m, n_shl0, n_le, n_lt, n_eq, Option.bind_some, B_K hn, B_s hn is_52, k2, kk, e]
theorem m_many10 {h : ai_H} {k : Nat} (hk : k < 512) : fX11_manyOf n h (nI k) = some (nI (pcV k), h) := by
  have e9 : k.testBit 9 = false := Nat.testBit_lt_two_pow hk
  have e : pcV k = fb_ct (fun i => k.testBit i) 10 := by
    rw [fb_ct_succ, e9]
    rfl
  rw [e]
  unfold fX11_manyOf
  simp (disch := first | omega | assumption | (simp only [wL_1, wL_22, wI_2, wA_2, wQ_1, wQ_21] <;> first | assumption | omega)) only [LIT, LITm, nI_add, n_mul, fa_or, n_31m, n_shl0, n_le, n_lt, n_eq, Option.bind_some]
  refine lp_up (F := fun f (b : Nat) i => fX11_manyOf_4 n f h (nI k) (nI b) (nI i)) (N := 10) (P := fun i b => b = fb_ct (fun i => k.testBit i) i) (Q := fun r => r = some (nI (fb_ct (fun i => k.testBit i) 10), h)) ?_ ?_ 10 bi_K 0 0 (by omega) (by unfold bi_K; omega) rfl
  · intro f b i hi hP
    left
    refine ⟨b + (k.testBit i).toNat, ?_, by rw [hP, fb_ct_succ]; cases k.testBit i <;> rfl⟩
    show fX11_manyOf_4b n (fX11_manyOf_4 n f) h (nI k) (nI b) (nI i) = _
    unfold fX11_manyOf_4b
    simp (disch := first | omega | assumption | (simp only [wL_1, wL_22, wI_2, wA_2, wQ_1, wQ_21] <;> first | assumption | omega)) only [LIT, LITm, nI_add, n_mul, fa_or, n_31m, n_shl0, n_le, n_lt, n_eq, Option.bind_some, fa_lit 10, n_bitv, show ¬ 10 ≤ i by omega, ↓reduceIte]
  · intro f b hP
    show fX11_manyOf_4b n (fX11_manyOf_4 n f) h (nI k) (nI b) (nI 10) = _
    unfold fX11_manyOf_4b
    simp (disch := first | omega | assumption | (simp only [wL_1, wL_22, wI_2, wA_2, wQ_1, wQ_21] <;> first | assumption | omega)) only [LIT, LITm, nI_add, n_mul, fa_or, n_31m, n_shl0, n_le, n_lt, n_eq, Option.bind_some, fa_lit 10, hP, Nat.le_refl, ↓reduceIte]
theorem m_isOf {h : ai_H} {k : Nat} (hk : k < 512) (hx : x < 31) : fX11_isOf n h (nI k) (nI x) = some (nI (k.testBit x).toNat, h) := by
  unfold fX11_isOf
  cases g : k.testBit x with
  | false => simp (disch := first | omega | assumption | (simp only [wL_1, wL_22, wI_2, wA_2, wQ_1, wQ_21] <;> first | assumption | omega)) only [LIT, LITm, nI_add, n_mul, fa_or, n_31m, n_shl0, n_le, n_lt, n_eq, Option.bind_some, n_bitv, g, Bool.toNat_false, Nat.reduceEqDiff, Nat.reduceLeDiff, not_false_eq_true, ↓reduceIte]
  | true => simp (disch := first | omega | assumption | (simp only [wL_1, wL_22, wI_2, wA_2, wQ_1, wQ_21] <;> first | assumption | omega)) only [LIT, LITm, nI_add, n_mul, fa_or, n_31m, n_shl0, n_le, n_lt, n_eq, Option.bind_some, n_bitv, g, Bool.toNat_true, not_true_eq_false, ↓reduceIte]
theorem m_w42 {r9 : ai_H → Nat → Int32 → Int32 → Option (Int32 × ai_H)} (hn : 239 ≤ n) (hW : WT T) (hT : mTd s.1 T) (hS : mSd s 0 T O00 S) (hb : b < 128) : (wdP T (fun i => S.2.2.2.1.testBit i) b (T 0 1) → fX11_watch_42 n r9 bi_K (mk s) 187 c (nI b) (nI 1) (nI 0) = r9 (mk s) 187 (nI b) (nI (b + 1))) ∧ (¬ wdP T (fun i => S.2.2.2.1.testBit i) b (T 0 1) → fX11_watch_42 n r9 bi_K (mk s) 187 c (nI b) (nI 1) (nI 0) = r9 (mk s) 187 c (nI (b + 1))) := by
  have h0 := hW.1
  have key : ∃ fl : Bool, (fl = true ↔ wdP T (fun i => S.2.2.2.1.testBit i) b (T 0 1)) ∧ fX11_watch_42 n r9 bi_K (mk s) 187 c (nI b) (nI true.toNat) (nI 0) = (if fl = true then r9 (mk s) 187 (nI b) (nI (b + 1)) else r9 (mk s) 187 c (nI (b + 1))) := by
    refine lp_up (F := fun f (fl : Bool) i => fX11_watch_42 n r9 f (mk s) 187 c (nI b) (nI fl.toNat) (nI i)) (N := T 0 1) (P := fun i fl => fl = true ↔ wdP T (fun i => S.2.2.2.1.testBit i) b i) (Q := fun r => ∃ fl : Bool, (fl = true ↔ wdP T (fun i => S.2.2.2.1.testBit i) b (T 0 1)) ∧ r = (if fl = true then r9 (mk s) 187 (nI b) (nI (b + 1)) else r9 (mk s) 187 c (nI (b + 1)))) ?_ ?_ (T 0 1) bi_K true 0 (by omega) (by unfold bi_K; omega) ⟨fun _ p h => absurd h (Nat.not_lt_zero p), fun _ => rfl⟩
    · intro f fl i hi hP
      left
      have he := WT_p hW hi
      have q : s.1 222 i = nI (S.2.2.2.1.testBit i).toNat := by
        have := (hS.2.1 i hi).2.1
        rwa [Nat.mul_zero, Nat.zero_add] at this
      have w3 : s.1 194 i = nI (T 3 i) := (hT.2.2.2.1 i hi).2.1
      have w4 : s.1 195 i = nI (T 4 i) := (hT.2.2.2.1 i hi).2.2.1
      have o3 : ∀ h, fX11_isOf n h (nI b) (nI (T 3 i)) = some (nI (b.testBit (T 3 i)).toNat, h) := fun h => m_isOf (by omega) (by omega)
      have o4 : ∀ h, fX11_isOf n h (nI b) (nI (T 4 i)) = some (nI (b.testBit (T 4 i)).toNat, h) := fun h => m_isOf (by omega) (by omega)
      have an : enV T i &&& b ≠ 0 ↔ b.testBit (T 3 i) = true ∨ b.testBit (T 4 i) = true := by
        rw [Nat.and_comm]
        exact en_and
      have nx : wdP T (fun i => S.2.2.2.1.testBit i) b (i + 1) ↔ wdP T (fun i => S.2.2.2.1.testBit i) b i ∧ (S.2.2.2.1.testBit i = true → enV T i &&& b ≠ 0) := by
        constructor
        · exact fun h => ⟨fun p hp => h p (by omega), h i (by omega)⟩
        · intro ⟨h1, h2⟩ p hp hk
          by_cases e : p = i
          · rw [e] at hk ⊢
            exact h2 hk
          · exact h1 p (by omega) hk
      show ∃ s', fX11_watch_42b n r9 (fX11_watch_42 n r9 f) (mk s) 187 c (nI b) (nI fl.toNat) (nI i) = _ ∧ _
      unfold fX11_watch_42b fX11_watch_93 fX11_watch_97 fX11_watch_98
      cases fl with
      | false =>
        refine ⟨false, ?_, ⟨fun h => (by cases h), fun h => hP.mpr (nx.mp h).1⟩⟩
        simp (disch := first | omega | assumption | (simp only [wL_1, wL_22, wI_2, wA_2, wQ_1, wQ_21] <;> first | assumption | omega)) only [LIT, LITm, nI_add, n_mul, fa_or, n_31m, n_shl0, n_le, n_lt, n_eq, Option.bind_some, B_m hn, hT.1.2.1, Bool.toNat_false, show ¬ T 0 1 ≤ i by omega, ↓reduceIte]
      | true =>
        have hw := hP.mp rfl
        cases g : S.2.2.2.1.testBit i with
        | false =>
          rw [g] at q
          refine ⟨true, ?_, ⟨fun _ => nx.mpr ⟨hw, fun h => (by rw [g] at h; cases h)⟩, fun _ => rfl⟩⟩
          simp (disch := first | omega | assumption | (simp only [wL_1, wL_22, wI_2, wA_2, wQ_1, wQ_21] <;> first | assumption | omega)) only [LIT, LITm, nI_add, n_mul, fa_or, n_31m, n_shl0, n_le, n_lt, n_eq, Option.bind_some, B_m hn, B_mb hn, hT.1.2.1, q, Bool.toNat_true, Bool.toNat_false, Nat.reduceEqDiff, Nat.reduceLeDiff, show ¬ T 0 1 ≤ i by omega, ↓reduceIte]
        | true =>
          rw [g] at q
          cases d3 : b.testBit (T 3 i) with
          | true =>
            rw [d3] at o3
            refine ⟨true, ?_, ⟨fun _ => nx.mpr ⟨hw, fun _ => an.mpr (Or.inl d3)⟩, fun _ => rfl⟩⟩
            simp (disch := first | omega | assumption | (simp only [wL_1, wL_22, wI_2, wA_2, wQ_1, wQ_21] <;> first | assumption | omega)) only [LIT, LITm, nI_add, n_mul, fa_or, n_31m, n_shl0, n_le, n_lt, n_eq, Option.bind_some, B_m hn, B_ma hn, B_mb hn, hT.1.2.1, q, w3, o3, Bool.toNat_true, Nat.reduceEqDiff, Nat.reduceLeDiff, not_false_eq_true, show ¬ T 0 1 ≤ i by omega, ↓reduceIte]
          | false =>
            rw [d3] at o3
            cases d4 : b.testBit (T 4 i) with
            | true =>
              rw [d4] at o4
              refine ⟨true, ?_, ⟨fun _ => nx.mpr ⟨hw, fun _ => an.mpr (Or.inr d4)⟩, fun _ => rfl⟩⟩
              simp (disch := first | omega | assumption | (simp only [wL_1, wL_22, wI_2, wA_2, wQ_1, wQ_21] <;> first | assumption | omega)) only [LIT, LITm, nI_add, n_mul, fa_or, n_31m, n_shl0, n_le, n_lt, n_eq, Option.bind_some, B_m hn, B_ma hn, B_mb hn, hT.1.2.1, q, w3, o3, w4, o4, Bool.toNat_true, Bool.toNat_false, Nat.reduceEqDiff, Nat.reduceLeDiff, not_true_eq_false, show ¬ T 0 1 ≤ i by omega, ↓reduceIte]
            | false =>
              rw [d4] at o4
              refine ⟨false, ?_, ⟨fun h => (by cases h), fun h => absurd (an.mp ((nx.mp h).2 g)) (by rw [d3, d4]; simp)⟩⟩
              simp (disch := first | omega | assumption | (simp only [wL_1, wL_22, wI_2, wA_2, wQ_1, wQ_21] <;> first | assumption | omega)) only [LIT, LITm, nI_add, n_mul, fa_or, n_31m, n_shl0, n_le, n_lt, n_eq, Option.bind_some, B_m hn, B_ma hn, B_mb hn, hT.1.2.1, q, w3, o3, w4, o4, Bool.toNat_true, Bool.toNat_false, Nat.reduceEqDiff, Nat.reduceLeDiff, not_true_eq_false, show ¬ T 0 1 ≤ i by omega, ↓reduceIte]
    · intro f fl hP
      refine ⟨fl, hP, ?_⟩
      show fX11_watch_42b n r9 (fX11_watch_42 n r9 f) (mk s) 187 c (nI b) (nI fl.toNat) (nI (T 0 1)) = _
      unfold fX11_watch_42b fX11_watch_111
      cases fl with
      | false => simp (disch := first | omega | assumption | (simp only [wL_1, wL_22, wI_2, wA_2, wQ_1, wQ_21] <;> first | assumption | omega)) only [LIT, LITm, nI_add, n_mul, fa_or, n_31m, n_shl0, n_le, n_lt, n_eq, Option.bind_some, B_m hn, hT.1.2.1, Bool.toNat_false, Bool.false_eq_true, Nat.le_refl, ↓reduceIte]
      | true => simp (disch := first | omega | assumption | (simp only [wL_1, wL_22, wI_2, wA_2, wQ_1, wQ_21] <;> first | assumption | omega)) only [LIT, LITm, nI_add, n_mul, fa_or, n_31m, n_shl0, n_le, n_lt, n_eq, Option.bind_some, B_m hn, hT.1.2.1, Bool.toNat_true, Nat.reduceEqDiff, Nat.reduceLeDiff, Nat.le_refl, ↓reduceIte]
  obtain ⟨fl, h1, h2⟩ := key
  have h2' : fX11_watch_42 n r9 bi_K (mk s) 187 c (nI b) (nI 1) (nI 0) = _ := h2
  refine ⟨fun h => ?_, fun h => ?_⟩
  · rw [h2', if_pos (h1.mpr h)]
  · rw [h2', if_neg (fun g => h (h1.mp g))]
def oV : Option Nat → Int32
  | none => m1
  | some b => nI b
theorem m_watch (hn : 239 ≤ n) (hK : mK s A) (hA : wfA A) : ∃ (s' : zS) (b : Nat), wBest (aT A) (fun i => (aS A).2.2.2.1.testBit i) b (fun c => c < 2 ^ aT A 0 0) ∧ fX11_watch n (mk s) 187 = some (nI b, mk s') ∧ frT s s' := by
  have hW := hA.1
  have ft := m_th s
  have hKt := mK_T hW hK ft
  obtain ⟨sa, ea⟩ : ∃ sa : zS, sa = wI s 187 2 (nI 0) := ⟨_, rfl⟩
  rw [← ea] at hKt ft
  obtain ⟨k1, k2, -⟩ := hKt
  obtain ⟨T, eT⟩ : ∃ T, T = aT A := ⟨_, rfl⟩
  obtain ⟨S, eS⟩ : ∃ S, S = aS A := ⟨_, rfl⟩
  rw [← eT] at hW k1 k2 ⊢
  rw [← eS] at k2 ⊢
  have h0 := hW.1
  have hp0 : 0 < 2 ^ T 0 0 := Nat.two_pow_pos _
  have hp7 : 2 ^ T 0 0 ≤ 128 := Nat.pow_le_pow_right (n := 2) (j := 7) (by decide) h0.1
  obtain ⟨N, eN⟩ : ∃ N, N = 2 ^ T 0 0 := ⟨_, rfl⟩
  have fw := full_w (K := fun i => S.2.2.2.1.testBit i) hW
  rw [← eN] at hp0 hp7 fw ⊢
  have goal : ∃ b, wBest T (fun i => S.2.2.2.1.testBit i) b (fun c => c < N) ∧ fX11_watch_9 n bi_K (mk sa) 187 m1 (nI 0) = some (nI b, mk sa) := by
    refine lp_up (F := fun f (o : Option Nat) i => fX11_watch_9 n f (mk sa) 187 (oV o) (nI i)) (N := N) (P := fun i o => (o = none ∧ ∀ c, c < i → ¬ wdP T (fun i => S.2.2.2.1.testBit i) c (T 0 1)) ∨ ∃ b, o = some b ∧ b < i ∧ wBest T (fun i => S.2.2.2.1.testBit i) b (fun c => c < i)) (Q := fun r => ∃ b, wBest T (fun i => S.2.2.2.1.testBit i) b (fun c => c < N) ∧ r = some (nI b, mk sa)) ?_ ?_ N bi_K none 0 (by omega) (by unfold bi_K; omega) (Or.inl ⟨rfl, fun c h => absurd h (Nat.not_lt_zero c)⟩)
    · intro f o i hi hP
      left
      have w := fun c => m_w42 (c := c) (b := i) (r9 := fX11_watch_9 n f) hn hW k1 k2 (by omega)
      show ∃ s', fX11_watch_9b n (fX11_watch_9 n f) (mk sa) 187 (oV o) (nI i) = _ ∧ _
      unfold fX11_watch_9b fX11_watch_37 fX11_watch_111
      rcases hP with ⟨rfl, hP⟩ | ⟨b, rfl, hbi, hP⟩
      · by_cases h : wdP T (fun i => S.2.2.2.1.testBit i) i (T 0 1)
        · refine ⟨some i, ?_, Or.inr ⟨i, rfl, by omega, h, by omega, fun c h1 h2 => ?_⟩⟩
          · simp (disch := first | omega | assumption | (simp only [wL_1, wL_22, wI_2, wA_2, wQ_1, wQ_21] <;> first | assumption | omega)) only [LIT, LITm, nI_add, n_mul, fa_or, n_31m, n_shl0, n_le, n_lt, n_eq, Option.bind_some, oV, B_m hn, k1.1.1, ← eN, n_m1lt, (w m1).1 h, show ¬ N ≤ i by omega, if_true, ↓reduceIte]
          · by_cases e : c = i
            · rw [e]; exact Or.inr ⟨rfl, Nat.le_refl _⟩
            · exact absurd h2 (hP c (by omega))
        · refine ⟨none, ?_, Or.inl ⟨rfl, fun c h1 => ?_⟩⟩
          · simp (disch := first | omega | assumption | (simp only [wL_1, wL_22, wI_2, wA_2, wQ_1, wQ_21] <;> first | assumption | omega)) only [LIT, LITm, nI_add, n_mul, fa_or, n_31m, n_shl0, n_le, n_lt, n_eq, Option.bind_some, oV, B_m hn, k1.1.1, ← eN, n_m1lt, (w m1).2 h, show ¬ N ≤ i by omega, if_true, ↓reduceIte]
          · by_cases e : c = i
            · rw [e]; exact h
            · exact hP c (by omega)
      · have lb := pcV_le b
        have li := pcV_le i
        have nlt : (nI b < nI 0) = False := n_lt0 (by omega)
        by_cases g : pcV i < pcV b
        · by_cases h : wdP T (fun i => S.2.2.2.1.testBit i) i (T 0 1)
          · refine ⟨some i, ?_, Or.inr ⟨i, rfl, by omega, h, by omega, fun c h1 h2 => ?_⟩⟩
            · simp (disch := first | omega | assumption | (simp only [wL_1, wL_22, wI_2, wA_2, wQ_1, wQ_21] <;> first | assumption | omega)) only [LIT, LITm, nI_add, n_mul, fa_or, n_31m, n_shl0, n_le, n_lt, n_eq, Option.bind_some, oV, B_m hn, k1.1.1, ← eN, nlt, m_many10 (show i < 512 by omega), m_many10 (show b < 512 by omega), g, (w (nI b)).1 h, show ¬ N ≤ i by omega, if_false, ↓reduceIte]
            · by_cases e : c = i
              · rw [e]; exact Or.inr ⟨rfl, Nat.le_refl _⟩
              · have := hP.2.2 c (by omega) h2
                omega
          · refine ⟨some b, ?_, Or.inr ⟨b, rfl, by omega, hP.1, by omega, fun c h1 h2 => ?_⟩⟩
            · simp (disch := first | omega | assumption | (simp only [wL_1, wL_22, wI_2, wA_2, wQ_1, wQ_21] <;> first | assumption | omega)) only [LIT, LITm, nI_add, n_mul, fa_or, n_31m, n_shl0, n_le, n_lt, n_eq, Option.bind_some, oV, B_m hn, k1.1.1, ← eN, nlt, m_many10 (show i < 512 by omega), m_many10 (show b < 512 by omega), g, (w (nI b)).2 h, show ¬ N ≤ i by omega, if_false, ↓reduceIte]
            · by_cases e : c = i
              · rw [e] at h2; exact absurd h2 h
              · exact hP.2.2 c (by omega) h2
        · refine ⟨some b, ?_, Or.inr ⟨b, rfl, by omega, hP.1, by omega, fun c h1 h2 => ?_⟩⟩
          · simp (disch := first | omega | assumption | (simp only [wL_1, wL_22, wI_2, wA_2, wQ_1, wQ_21] <;> first | assumption | omega)) only [LIT, LITm, nI_add, n_mul, fa_or, n_31m, n_shl0, n_le, n_lt, n_eq, Option.bind_some, oV, B_m hn, k1.1.1, ← eN, nlt, m_many10 (show i < 512 by omega), m_many10 (show b < 512 by omega), g, show ¬ N ≤ i by omega, if_false, ↓reduceIte]
          · by_cases e : c = i
            · rw [e]; omega
            · exact hP.2.2 c (by omega) h2
    · intro f o hP
      rcases hP with ⟨rfl, hP⟩ | ⟨b, rfl, hbi, hP⟩
      · exact absurd fw (hP (N - 1) (by omega))
      · refine ⟨b, hP, ?_⟩
        show fX11_watch_9b n (fX11_watch_9 n f) (mk sa) 187 (nI b) (nI N) = _
        unfold fX11_watch_9b
        simp (disch := first | omega | assumption | (simp only [wL_1, wL_22, wI_2, wA_2, wQ_1, wQ_21] <;> first | assumption | omega)) only [LIT, LITm, nI_add, n_mul, fa_or, n_31m, n_shl0, n_le, n_lt, n_eq, Option.bind_some, B_m hn, k1.1.1, ← eN, Nat.le_refl, ↓reduceIte]
  obtain ⟨b, hb, e⟩ := goal
  refine ⟨sa, b, hb, ?_, ft⟩
  unfold fX11_watch
  simp (disch := first | omega | assumption | (simp only [wL_1, wL_22, wI_2, wA_2, wQ_1, wQ_21] <;> first | assumption | omega)) only [LIT, LITm, nI_add, n_mul, fa_or, n_31m, n_shl0, n_le, n_lt, n_eq, Option.bind_some, B_m hn, ← ea, e]
end Wa
