/-! ===== needed: both ===== -/
section Ne
variable {n t p x y : Nat} {s : zS} {T : zT} {K : Nat → Bool} {A : zA} {S : zD} {c : Int32}
theorem cn_P (hW : WT T) (hx : x < T 0 0) (h : cn T K x y) : y < T 0 0 := by
  have := h (fun i => decide (i < T 0 0)) (fun p hp _ => by
    have h := hW.2.2.1 p hp
    show decide (T 3 p < T 0 0) = decide (T 4 p < T 0 0)
    rw [decide_eq_true h.1, decide_eq_true h.2.1]) (decide_eq_true hx)
  exact of_decide_eq_true this
theorem spS_P (hW : WT T) (hx : x < T 0 0) : spS T K x < 2 ^ T 0 0 := by
  have h0 := hW.1
  refine Nat.lt_pow_two_of_testBit _ (fun i hi => ?_)
  cases g : (spS T K x).testBit i with
  | false => rfl
  | true => exact absurd (cn_P hW hx ((spS_cn hW (by omega)).mp g)) (by omega)
/-- the pairs that hang together -/
def prV (T : zT) (K : Nat → Bool) : Nat := fb_sm (fun x => fb_ct (fun y => (spS T K x).testBit y) x) (T 0 0)
theorem sm_ct (b : Nat → Bool) : ∀ m, fb_sm (fun i => if b i then 1 else 0) m = fb_ct b m
  | 0 => rfl
  | m + 1 => by rw [fb_sm_succ, fb_ct_succ, sm_ct b m]
theorem twice {B : Nat → Nat → Bool} {P : Nat} (hr : ∀ x, x < P → B x x = true) (hs : ∀ x y, x < P → y < P → B x y = B y x) : ∀ m, m ≤ P → fb_sm (fun x => fb_ct (B x) m) m = m + 2 * fb_sm (fun x => fb_ct (B x) x) m
  | 0, _ => rfl
  | m + 1, hm => by
    have ih := twice hr hs m (by omega)
    rw [fb_sm_succ]
    have e1 : fb_sm (fun x => fb_ct (B x) (m + 1)) m = fb_sm (fun x => fb_ct (B x) m) m + fb_ct (B m) m := by
      rw [show (fun x => fb_ct (B x) (m + 1)) = (fun x => fb_ct (B x) m + (if B x m then 1 else 0)) from funext fun x => fb_ct_succ _ _, fb_sm_add, sm_ct (fun x => B x m)]
      rw [fb_ct_cong (p := fun x => B x m) (q := B m) (fun k hk => hs k m (by omega) (by omega))]
    rw [e1, ih, fb_ct_succ, hr m (by omega), fb_sm_succ]
    simp only [if_true]
    omega
theorem sm_sub {f : Nat → Nat} : ∀ {m : Nat}, (∀ i, i < m → 1 ≤ f i) → fb_sm (fun i => f i - 1) m + m = fb_sm f m
  | 0, _ => rfl
  | m + 1, h => by
    have ih := sm_sub (f := f) (m := m) (fun i hi => h i (by omega))
    have := h m (by omega)
    rw [fb_sm_succ, fb_sm_succ]
    omega
theorem prV_2 (hW : WT T) : fb_sm (fun x => pcV (spS T K x) - 1) (T 0 0) = 2 * prV T K := by
  have h0 := hW.1
  have sx : ∀ x, x < T 0 0 → (spS T K x).testBit x = true := fun x hx => (spS_cn hW (by omega)).mpr cn_r
  have e := twice (B := fun x y => (spS T K x).testBit y) (P := T 0 0) sx (fun x y hx hy => by
    cases g : (spS T K x).testBit y with
    | true => exact ((spS_cn hW (by omega)).mpr (cn_s ((spS_cn hW (by omega)).mp g))).symm
    | false =>
      cases g2 : (spS T K y).testBit x with
      | false => rfl
      | true =>
        rw [(spS_cn hW (by omega)).mpr (cn_s ((spS_cn hW (by omega)).mp g2))] at g
        cases g) (T 0 0) (Nat.le_refl _)
  have pc : ∀ x, x < T 0 0 → pcV (spS T K x) = fb_ct (fun y => (spS T K x).testBit y) (T 0 0) := fun x hx => (ct_9 (spS_P hW hx) (by omega)).symm
  have e2 := sm_sub (f := fun x => pcV (spS T K x)) (m := T 0 0) (fun i hi => by
    show 1 ≤ pcV (spS T K i)
    rw [pc i hi]
    exact fb_ct_pos.mpr ⟨i, hi, sx i hi⟩)
  have e3 : fb_sm (fun x => pcV (spS T K x)) (T 0 0) = fb_sm (fun x => fb_ct (fun y => (spS T K x).testBit y) (T 0 0)) (T 0 0) := fb_sm_cong (fun x hx => pc x hx)
  unfold prV
  omega
theorem prV_cong {K' : Nat → Bool} (e : ∀ p, p < T 0 1 → K p = K' p) : prV T K = prV T K' := by
  unfold prV
  exact fb_sm_cong (fun x _ => fb_ct_cong (fun y _ => by rw [rt_cong e]))
theorem pcV_le (k : Nat) : pcV k ≤ 9 := fb_ct_le _ 9
theorem c_pairs {k : Nat} (hn : 239 ≤ n) (ht : t = 6 ∨ t = 29) (hW : WT T) (hT : cTd s.1 t T) (hk : k < 512) : fX9_pairs n (mk s) t (nI k) = some (nI (prV T (fun i => k.testBit i)), mk s) := by
  have h0 := hW.1
  have bd : ∀ i, fb_sm (fun x => pcV (spS T (fun i => k.testBit i) x) - 1) i ≤ i * 9 := fun i => fb_sm_bound (fun j _ => by have := pcV_le (spS T (fun i => k.testBit i) j); omega)
  unfold fX9_pairs
  simp (disch := first | omega | assumption | (simp only [wL_1, wL_22, wI_2, wA_2, wQ_1, wQ_21] <;> first | assumption | omega)) only [LIT, LITm, nI_add, n_mul, fa_or, n_31m, n_shl0, n_le, n_lt, n_eq, Option.bind_some]
  refine lp_up (F := fun f (b : Nat) i => fX9_pairs_4 n f (mk s) t (nI k) (nI b) (nI i)) (N := T 0 0) (P := fun i b => b = fb_sm (fun x => pcV (spS T (fun i => k.testBit i) x) - 1) i) (Q := fun r => r = some (nI (prV T (fun i => k.testBit i)), mk s)) ?_ ?_ (T 0 0) bi_K 0 0 (by omega) (by unfold bi_K; omega) rfl
  · intro f b i hi hP
    left
    have hl := spS_lt (K := fun i => k.testBit i) (x := i) hW (by omega)
    have h1 : 1 ≤ pcV (spS T (fun i => k.testBit i) i) := by
      unfold pcV
      exact fb_ct_pos.mpr ⟨i, by omega, (spS_cn hW (by omega)).mpr cn_r⟩
    refine ⟨b + (pcV (spS T (fun i => k.testBit i) i) - 1), ?_, by rw [hP]; rfl⟩
    show fX9_pairs_4b n (fX9_pairs_4 n f) (mk s) t (nI k) (nI b) (nI i) = _
    unfold fX9_pairs_4b
    simp (disch := first | omega | assumption | (simp only [wL_1, wL_22, wI_2, wA_2, wQ_1, wQ_21] <;> first | assumption | omega)) only [LIT, LITm, nI_add, n_mul, fa_or, n_31m, n_shl0, n_le, n_lt, n_eq, Option.bind_some, B_t hn ht, CTp t T, c_spread hn ht hW hT hk (show i < 7 by omega), c_bitCount (show spS T (fun i => k.testBit i) i < 512 by omega), n_sub, show ¬ T 0 0 ≤ i by omega, ↓reduceIte]
  · intro f b hP
    have hb := bd (T 0 0)
    rw [← hP] at hb
    show fX9_pairs_4b n (fX9_pairs_4 n f) (mk s) t (nI k) (nI b) (nI (T 0 0)) = _
    unfold fX9_pairs_4b
    simp (disch := first | omega | assumption | (simp only [wL_1, wL_22, wI_2, wA_2, wQ_1, wQ_21] <;> first | assumption | omega)) only [LIT, LITm, nI_add, n_mul, fa_or, n_31m, n_shl0, n_le, n_lt, n_eq, Option.bind_some, B_t hn ht, CTp t T, n_dI, Nat.le_refl, ↓reduceIte]
    rw [hP, prV_2 hW, Nat.mul_div_cancel_left _ (by decide)]
theorem rtO_eq {r : Nat → Nat} (h : rtO T K r) (hx : x < 7) (hy : y < 7) : r x = r y ↔ cn T K x y := by
  have ax := h.1 x hx
  have ay := h.1 y hy
  constructor
  · intro e
    refine cn_t ax.2 ?_
    rw [e]
    exact cn_s ay.2
  · intro g
    have b1 := h.2 x (r y) hx (by omega) (cn_t (cn_s ay.2) (cn_s g))
    have b2 := h.2 y (r x) hy (by omega) (cn_t (cn_s ax.2) g)
    omega
theorem m_p20 {r : Nat → Nat} {b i : Nat} {r9 : ai_H → Nat → Int32 → Int32 → Option (Int32 × ai_H)} (hn : 239 ≤ n) (hW : WT T) (hr : ∀ x, x < 7 → s.1 229 x = nI (r x)) (ho : rtO T K r) (hi : i < 7) : fX11_pairsOf_20 n r9 bi_K (mk s) 187 (nI b) (nI i) (nI 0) = r9 (mk s) 187 (nI (b + fb_ct (fun y => (spS T K i).testBit y) i)) (nI (i + 1)) := by
  refine lp_up (F := fun f (d : Nat) j => fX11_pairsOf_20 n r9 f (mk s) 187 (nI d) (nI i) (nI j)) (N := i) (P := fun j d => d = b + fb_ct (fun y => (spS T K i).testBit y) j) (Q := fun q => q = r9 (mk s) 187 (nI (b + fb_ct (fun y => (spS T K i).testBit y) i)) (nI (i + 1))) ?_ ?_ i bi_K b 0 (by omega) (by unfold bi_K; omega) rfl
  · intro f d j hj hP
    left
    have hx := hr i hi
    have hy := hr j (by omega)
    have lx := (ho.1 i hi).1
    have ly := (ho.1 j (by omega)).1
    have iff := (rtO_eq ho hi (show j < 7 by omega)).trans (spS_cn (K := K) hW hi).symm
    refine ⟨d + (if (spS T K i).testBit j then 1 else 0), ?_, by rw [hP, fb_ct_succ, Nat.add_assoc]⟩
    show fX11_pairsOf_20b n r9 (fX11_pairsOf_20 n r9 f) (mk s) 187 (nI d) (nI i) (nI j) = _
    unfold fX11_pairsOf_20b fX11_pairsOf_48
    by_cases e : r i = r j
    · rw [if_pos (iff.mp e)]
      simp (disch := first | omega | assumption | (simp only [wL_1, wL_22, wI_2, wA_2, wQ_1, wQ_21] <;> first | assumption | omega)) only [LIT, LITm, nI_add, n_mul, fa_or, n_31m, n_shl0, n_le, n_lt, n_eq, Option.bind_some, B_m hn, B_mc hn, hx, hy, e, not_true_eq_false, show ¬ i ≤ j by omega, ↓reduceIte]
    · rw [if_neg (fun g => e (iff.mpr g))]
      simp (disch := first | omega | assumption | (simp only [wL_1, wL_22, wI_2, wA_2, wQ_1, wQ_21] <;> first | assumption | omega)) only [LIT, LITm, nI_add, n_mul, fa_or, n_31m, n_shl0, n_le, n_lt, n_eq, Option.bind_some, B_m hn, B_mc hn, hx, hy, e, not_false_eq_true, Nat.add_zero, show ¬ i ≤ j by omega, ↓reduceIte]
  · intro f d hP
    show fX11_pairsOf_20b n r9 (fX11_pairsOf_20 n r9 f) (mk s) 187 (nI d) (nI i) (nI i) = _
    unfold fX11_pairsOf_20b
    simp (disch := first | omega | assumption | (simp only [wL_1, wL_22, wI_2, wA_2, wQ_1, wQ_21] <;> first | assumption | omega)) only [LIT, LITm, nI_add, n_mul, fa_or, n_31m, n_shl0, n_le, n_lt, n_eq, Option.bind_some, Nat.le_refl, ↓reduceIte]
    rw [hP]
theorem m_pairs (hn : 239 ≤ n) (hW : WT T) (hT : mTd s.1 T) (hS : mSd s 0 T O00 S) : ∃ s' : zS, fX11_pairsOf n (mk s) 187 c = some (nI (prV T (rK S.2.2.2.1 c)), mk s') ∧ frT s s' := by
  have h0 := hW.1
  obtain ⟨sb, r, eb, fb, hr, ho⟩ := m_roots (c := c) hn hW hT hS
  have hTb : mTd sb.1 T := mTd_fr hT (fun a j ha => fb.1.2.1 a j (by unfold scM hfM; omega))
  refine ⟨sb, ?_, fb⟩
  unfold fX11_pairsOf
  rw [bnd_s (v := ()) (by simp (disch := first | omega | assumption | (simp only [wL_1, wL_22, wI_2, wA_2, wQ_1, wQ_21] <;> first | assumption | omega)) only [B_m hn]), bnd_s eb]
  refine lp_up (F := fun f (b : Nat) i => fX11_pairsOf_9 n f (mk sb) 187 (nI b) (nI i)) (N := T 0 0) (P := fun i b => b = fb_sm (fun x => fb_ct (fun y => (spS T (rK S.2.2.2.1 c) x).testBit y) x) i) (Q := fun q => q = some (nI (prV T (rK S.2.2.2.1 c)), mk sb)) ?_ ?_ (T 0 0) bi_K 0 0 (by omega) (by unfold bi_K; omega) rfl
  · intro f b i hi hP
    left
    refine ⟨b + fb_ct (fun y => (spS T (rK S.2.2.2.1 c) i).testBit y) i, ?_, by rw [hP]; rfl⟩
    show fX11_pairsOf_9b n (fX11_pairsOf_9 n f) (mk sb) 187 (nI b) (nI i) = _
    unfold fX11_pairsOf_9b
    simp (disch := first | omega | assumption | (simp only [wL_1, wL_22, wI_2, wA_2, wQ_1, wQ_21] <;> first | assumption | omega)) only [LIT, LITm, nI_add, n_mul, fa_or, n_31m, n_shl0, n_le, n_lt, n_eq, Option.bind_some, B_m hn, hTb.1.1, show ¬ T 0 0 ≤ i by omega, ↓reduceIte]
    exact m_p20 hn hW hr ho (by omega)
  · intro f b hP
    show fX11_pairsOf_9b n (fX11_pairsOf_9 n f) (mk sb) 187 (nI b) (nI (T 0 0)) = _
    unfold fX11_pairsOf_9b
    simp (disch := first | omega | assumption | (simp only [wL_1, wL_22, wI_2, wA_2, wQ_1, wQ_21] <;> first | assumption | omega)) only [LIT, LITm, nI_add, n_mul, fa_or, n_31m, n_shl0, n_le, n_lt, n_eq, Option.bind_some, B_m hn, hTb.1.1, Nat.le_refl, ↓reduceIte]
    rw [hP]
    rfl
def ndOk (A : zA) (c : Int32) : Prop := ∃ p, p < aT A 0 1 ∧ c = nI p ∧ (aS A).2.2.2.1.testBit p = true
def ndR (A : zA) (p : Nat) : Int32 := nI (prV (aT A) (fun i => (aS A).2.2.2.1.testBit i)) - nI (prV (aT A) (rK (aS A).2.2.2.1 (nI p)))
theorem c_needed (hn : 239 ≤ n) (hK : cK s t A) (hA : wfA A) : (∀ p, p < aT A 0 1 → (aS A).2.2.2.1.testBit p = true → fX10_needed n (mk s) 1 (nI p) = some (ndR A p, mk s)) ∧ (¬ ndOk A c → fX10_needed n (mk s) 1 c = some (m1, mk s)) := by
  have ht := cK_t hK
  have hW := hA.1
  have h0 := hW.1
  have hk := wD_512 hA
  have hP := fun c => c_isPath hn hK hA (x := c)
  obtain ⟨k1, k2, k3, k4, k5, k6, k7, k8, k9⟩ := hK
  have kk := k4.1.2.2.2.2
  refine ⟨fun p hp hb => ?_, fun h => ?_⟩
  · have kp := c_isKept (p := p) hn is_52 kk (by omega) (by omega)
    rw [hb] at kp
    have hnd : nd (aS A).2.2.2.1 (2 ^ p) < 512 := nd_lt (k := 9) hk
    have e := prV_cong (T := aT A) (K := fun i => (nd (aS A).2.2.2.1 (2 ^ p)).testBit i) (K' := rK (aS A).2.2.2.1 (nI p)) (fun i hi => by
      show (nd (aS A).2.2.2.1 (2 ^ p)).testBit i = _
      rw [nd_tb, Nat.testBit_two_pow]
      unfold rK
      by_cases q : p = i
      · rw [q, decide_eq_true rfl, decide_eq_true rfl]
      · rw [decide_eq_false q, decide_eq_false (fun g => q (by rw [n_eq (by omega) (by omega)] at g; exact g.symm))])
    unfold fX10_needed ndR
    rw [← e]
    simp (disch := first | omega | assumption | (simp only [wL_1, wL_22, wI_2, wA_2, wQ_1, wQ_21] <;> first | assumption | omega)) only [LIT, LITm, nI_add, n_mul, fa_or, n_31m, n_shl0, n_le, n_lt, n_eq, Option.bind_some, B_K hn, B_s hn is_52, hP, inR_n hp (by omega), k2, kk, kp, n_nd, c_pairs hn ht hW k3 hk, c_pairs hn ht hW k3 hnd, Bool.toNat_true, Nat.reduceEqDiff, Nat.reduceLeDiff, not_false_eq_true, ↓reduceIte]
  · unfold fX10_needed
    cases hi : inR c (aT A 0 1) with
    | false => simp (disch := first | omega | assumption | (simp only [wL_1, wL_22, wI_2, wA_2, wQ_1, wQ_21] <;> first | assumption | omega)) only [LIT, LITm, nI_add, n_mul, fa_or, n_31m, n_shl0, n_le, n_lt, n_eq, Option.bind_some, B_K hn, hP, hi, Bool.toNat_false, ↓reduceIte]
    | true =>
      obtain ⟨p, hp, rfl⟩ := inR_t (by omega) hi
      have kp := c_isKept (p := p) hn is_52 kk (by omega) (by omega)
      have hb : (aS A).2.2.2.1.testBit p = false := bF (fun g => h ⟨p, hp, rfl, g⟩)
      rw [hb] at kp
      simp (disch := first | omega | assumption | (simp only [wL_1, wL_22, wI_2, wA_2, wQ_1, wQ_21] <;> first | assumption | omega)) only [LIT, LITm, nI_add, n_mul, fa_or, n_31m, n_shl0, n_le, n_lt, n_eq, Option.bind_some, B_K hn, hP, hi, kp, Bool.toNat_true, Bool.toNat_false, Nat.reduceEqDiff, Nat.reduceLeDiff, not_true_eq_false, ↓reduceIte]
theorem m_needed (hn : 239 ≤ n) (hK : mK s A) (hA : wfA A) : (∀ p, p < aT A 0 1 → (aS A).2.2.2.1.testBit p = true → ∃ s' : zS, fX11_needed n (mk s) 187 (nI p) = some (ndR A p, mk s') ∧ frT s s') ∧ (¬ ndOk A c → ∃ s' : zS, fX11_needed n (mk s) 187 c = some (m1, mk s') ∧ frT s s') := by
  have hW := hA.1
  have h0 := hW.1
  have ft := m_th s
  have hKt := mK_T hW hK ft
  obtain ⟨sa, ea⟩ : ∃ sa : zS, sa = wI s 187 2 (nI 0) := ⟨_, rfl⟩
  rw [← ea] at hKt ft
  have hKt2 := hKt
  obtain ⟨k1, k2, k3, k4, k5, k6, k7⟩ := hKt
  have hP := fun c => m_isPath hn k1 (x := c)
  have kq : ∀ p, p < aT A 0 1 → sa.1 222 p = nI ((aS A).2.2.2.1.testBit p).toNat := fun p hp => by
    have := (k2.2.1 p hp).2.1
    rwa [Nat.mul_zero, Nat.zero_add] at this
  refine ⟨fun p hp hb => ?_, fun h => ?_⟩
  · have q := kq p hp
    rw [hb] at q
    obtain ⟨sb, eb, fb⟩ := m_pairs (c := m1) hn hW k1 k2
    have kb := mK_T hW hKt2 fb
    obtain ⟨sc, ec, fc⟩ := m_pairs (c := nI p) hn hW kb.1 kb.2.1
    have e := prV_cong (T := aT A) (K := rK (aS A).2.2.2.1 m1) (K' := fun i => (aS A).2.2.2.1.testBit i) (fun i hi => by
      unfold rK
      rw [decide_eq_false (fun e => by rw [n_m1 (by omega)] at e; exact e)]
      simp)
    rw [e] at eb
    refine ⟨sc, ?_, frT_t ft (frT_t fb fc)⟩
    unfold fX11_needed ndR
    simp (disch := first | omega | assumption | (simp only [wL_1, wL_22, wI_2, wA_2, wQ_1, wQ_21] <;> first | assumption | omega)) only [LIT, LITm, nI_add, n_mul, fa_or, n_31m, n_shl0, n_le, n_lt, n_eq, Option.bind_some, B_m hn, ← ea, B_mb hn, hP, inR_n hp (by omega), q, eb, ec, Bool.toNat_true, Nat.reduceEqDiff, Nat.reduceLeDiff, not_false_eq_true, ↓reduceIte]
  · refine ⟨sa, ?_, ft⟩
    unfold fX11_needed
    cases hi : inR c (aT A 0 1) with
    | false => simp (disch := first | omega | assumption | (simp only [wL_1, wL_22, wI_2, wA_2, wQ_1, wQ_21] <;> first | assumption | omega)) only [LIT, LITm, nI_add, n_mul, fa_or, n_31m, n_shl0, n_le, n_lt, n_eq, Option.bind_some, B_m hn, ← ea, hP, hi, Bool.toNat_false, ↓reduceIte]
    | true =>
      obtain ⟨p, hp, rfl⟩ := inR_t (by omega) hi
      have q := kq p hp
      have hb : (aS A).2.2.2.1.testBit p = false := bF (fun g => h ⟨p, hp, rfl, g⟩)
      rw [hb] at q
      simp (disch := first | omega | assumption | (simp only [wL_1, wL_22, wI_2, wA_2, wQ_1, wQ_21] <;> first | assumption | omega)) only [LIT, LITm, nI_add, n_mul, fa_or, n_31m, n_shl0, n_le, n_lt, n_eq, Option.bind_some, B_m hn, ← ea, B_mb hn, hP, hi, q, Bool.toNat_true, Bool.toNat_false, Nat.reduceEqDiff, Nat.reduceLeDiff, not_true_eq_false, ↓reduceIte]
end Ne
