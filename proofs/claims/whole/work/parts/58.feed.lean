/-! ===== feed: both ===== -/
def byX (x : Int32) (k : Nat) : Int32 := (x >>> nI (24 - 8 * k)) &&& 255
def byV (x : Int32) (k : Nat) : Nat := (byX x k).toBitVec.toNat
theorem byX_nI (x : Int32) (k : Nat) : nI (byV x k) = byX x k := by
  refine b_ext (fun i hi => ?_)
  rw [bb_nI, decide_eq_true hi, Bool.true_and]
  rfl
theorem byV_lt (x : Int32) (k : Nat) : byV x k < 256 := by
  refine Nat.lt_pow_two_of_testBit (n := 8) _ (fun i hi => ?_)
  show bb (byX x k) i = false
  unfold byX
  rw [b_and, b_255, decide_eq_false (by omega), Bool.and_false]
theorem byX_c (x : Int32) (k : Nat) : (x >>> nI (24 - 8 * k)).toInt8.toInt32 = (nI (byV x k)).toInt8.toInt32 := by
  rw [byX_nI]
  unfold byX
  rw [fa_byte_low]
/-- the bytes of five words -/
def fdW (a b c d e : Int32) (i : Nat) : Int32 := if i < 4 then a else if i < 8 then b else if i < 12 then c else if i < 16 then d else e
def fdG (a b c d e : Int32) (i : Nat) : Nat := byV (fdW a b c d e i) (i % 4)
def fedB (B : Nat × (Nat → Nat)) (g : Nat → Nat) : Nat × (Nat → Nat) := (B.1 + 20, fun i => if i < B.1 then B.2 i else g (i - B.1))
def wtB (A : zA) (B : Nat × (Nat → Nat)) : zA := (A.1, A.2.1, A.2.2.1, A.2.2.2.1, B, A.2.2.2.2.2)
def fedA (A : zA) (a b c d e : Int32) : zA := wtB A (fedB (aB A) (fdG a b c d e))
theorem wfB_fed {A : zA} {a b c d e : Int32} (hA : wfA A) (h : (aB A).1 + 20 ≤ 700) : wfA (fedA A a b c d e) := by
  obtain ⟨h1, h2, h3, h4, h5, h6⟩ := hA
  refine ⟨h1, h2, h3, h4, ⟨h, fun i => ?_⟩, h6⟩
  show (if i < (aB A).1 then (aB A).2 i else fdG a b c d e (i - (aB A).1)) < 256
  split
  · exact h5.2 i
  · exact byV_lt _ _
section Fe
variable {n t : Nat} {s : zS} {A : zA} {x y : Int32}
theorem c_p4s {k m v : Nat} (hn : 239 ≤ n) (hm : s.1 1 1 = nI m) (h : m < 700) (hv : v < 32) : fX10_putFour_3 n (k + 1) (mk s) 1 x (nI v) = fX10_putFour_3 n k (mk (wI (wI s 2 m ((x >>> nI v).toInt8.toInt32)) 1 1 (nI (m + 1)))) 1 x (nI v + (-8)) := by
  have e : (nI v < nI 0) = False := n_lt0 (by omega)
  have e2 : vp_nar .byte ((x >>> nI v).toInt8.toInt32) = (x >>> nI v).toInt8.toInt32 := fb_byte_twice _
  have e3 : (wI s 2 m ((x >>> nI v).toInt8.toInt32)).1 1 1 = nI m := by rw [wI_ne (by omega)]; exact hm
  show fX10_putFour_3b n (fX10_putFour_3 n k) (mk s) 1 x (nI v) = _
  unfold fX10_putFour_3b
  simp (disch := first | omega | assumption | (simp only [wL_1, wL_22, wI_2, wA_2, wQ_1, wQ_21] <;> first | assumption | omega)) only [LIT, LITm, nI_add, n_mul, fa_or, n_31m, n_shl0, n_le, n_lt, n_eq, Option.bind_some, B_K hn, hm, e, e2, e3, show ¬ 700 ≤ m by omega, if_false, ↓reduceIte]
theorem c_p4e {k : Nat} : fX10_putFour_3 n (k + 1) (mk s) 1 x (-8) = some ((), mk s) := by
  show fX10_putFour_3b n (fX10_putFour_3 n k) (mk s) 1 x (-8) = _
  unfold fX10_putFour_3b
  rw [if_pos (by decide)]
/-- a word on the tape -/
def p4 (s s' : zS) (m : Nat) (x : Int32) : Prop := s'.2 = s.2 ∧ (∀ a, a ≠ 1 → a ≠ 2 → s'.1 a = s.1 a) ∧ (∀ j, j ≠ 1 → s'.1 1 j = s.1 1 j) ∧ s'.1 1 1 = nI (m + 4) ∧ (∀ j, j < m → s'.1 2 j = s.1 2 j) ∧ ∀ k, k < 4 → s'.1 2 (m + k) = (nI (byV x k)).toInt8.toInt32
theorem c_put4 {m : Nat} (hn : 239 ≤ n) (hm : s.1 1 1 = nI m) (h : m + 4 ≤ 700) : ∃ s' : zS, fX10_putFour n (mk s) 1 x = some ((), mk s') ∧ p4 s s' m x := by
  obtain ⟨k, ek⟩ : ∃ k, bi_K = k + 5 := ⟨4294967291, rfl⟩
  obtain ⟨s1, e1⟩ : ∃ s1 : zS, s1 = wI (wI s 2 m ((x >>> nI 24).toInt8.toInt32)) 1 1 (nI (m + 1)) := ⟨_, rfl⟩
  obtain ⟨s2, e2⟩ : ∃ s2 : zS, s2 = wI (wI s1 2 (m + 1) ((x >>> nI 16).toInt8.toInt32)) 1 1 (nI (m + 1 + 1)) := ⟨_, rfl⟩
  obtain ⟨s3, e3⟩ : ∃ s3 : zS, s3 = wI (wI s2 2 (m + 1 + 1) ((x >>> nI 8).toInt8.toInt32)) 1 1 (nI (m + 1 + 1 + 1)) := ⟨_, rfl⟩
  obtain ⟨s4, e4⟩ : ∃ s4 : zS, s4 = wI (wI s3 2 (m + 1 + 1 + 1) ((x >>> nI 0).toInt8.toInt32)) 1 1 (nI (m + 1 + 1 + 1 + 1)) := ⟨_, rfl⟩
  have q1 : s1.1 1 1 = nI (m + 1) := by rw [e1, wI_at, upd_at]
  have q2 : s2.1 1 1 = nI (m + 1 + 1) := by rw [e2, wI_at, upd_at]
  have q3 : s3.1 1 1 = nI (m + 1 + 1 + 1) := by rw [e3, wI_at, upd_at]
  have z1 : s1.2 = s.2 := by rw [e1]; rfl
  have z2 : s2.2 = s.2 := by rw [e2, ← z1]; rfl
  have z3 : s3.2 = s.2 := by rw [e3, ← z2]; rfl
  have z4 : s4.2 = s.2 := by rw [e4, ← z3]; rfl
  refine ⟨s4, ?_, z4, fun a g1 g2 => ?_, fun j hj => ?_, ?_, fun j hj => ?_, fun k hk => ?_⟩
  · unfold fX10_putFour
    rw [bnd_s (v := ()) (by simp (disch := first | omega | assumption | (simp only [wL_1, wL_22, wI_2, wA_2, wQ_1, wQ_21] <;> first | assumption | omega)) only [B_K hn]), ek]
    show fX10_putFour_3 n (k + 4 + 1) (mk s) 1 x (nI 24) = _
    rw [c_p4s hn hm (by omega) (by omega), ← e1, show nI 24 + (-8) = nI 16 from by decide, c_p4s (k := k + 3) hn q1 (by omega) (by omega), ← e2, show nI 16 + (-8) = nI 8 from by decide, c_p4s (k := k + 2) hn q2 (by omega) (by omega), ← e3, show nI 8 + (-8) = nI 0 from by decide, c_p4s (k := k + 1) hn q3 (by omega) (by omega), ← e4, show nI 0 + (-8) = (-8 : Int32) from by decide, c_p4e]
  · rw [e4, e3, e2, e1]
    simp (disch := omega) only [wI_ne]
  · rw [e4, wI_at, upd_ne hj, wI_ne (by omega), e3, wI_at, upd_ne hj, wI_ne (by omega), e2, wI_at, upd_ne hj, wI_ne (by omega), e1, wI_at, upd_ne hj, wI_ne (by omega)]
  · rw [e4, wI_at, upd_at]
  · rw [e4, wI_ne (by omega), wI_at, upd_ne (by omega), e3, wI_ne (by omega), wI_at, upd_ne (by omega), e2, wI_ne (by omega), wI_at, upd_ne (by omega), e1, wI_ne (by omega), wI_at, upd_ne (by omega)]
  · rw [← byX_c]
    rcases (by omega : k = 0 ∨ k = 1 ∨ k = 2 ∨ k = 3) with rfl | rfl | rfl | rfl
    · rw [e4, wI_ne (by omega), wI_at, upd_ne (by omega), e3, wI_ne (by omega), wI_at, upd_ne (by omega), e2, wI_ne (by omega), wI_at, upd_ne (by omega), e1, wI_ne (by omega), wI_at]
      exact upd_at
    · rw [e4, wI_ne (by omega), wI_at, upd_ne (by omega), e3, wI_ne (by omega), wI_at, upd_ne (by omega), e2, wI_ne (by omega), wI_at]
      exact upd_at
    · rw [e4, wI_ne (by omega), wI_at, upd_ne (by omega), e3, wI_ne (by omega), wI_at]
      exact upd_at
    · rw [e4, wI_ne (by omega), wI_at]
      exact upd_at
theorem c_feed {a b c d e : Int32} (hn : 239 ≤ n) (hK : cK s t A) (hA : wfA A) : ((aB A).1 + 20 ≤ 700 → ∃ s' : zS, fX10_feed n (mk s) 1 a b c d e = some (nI ((aB A).1 + 20), mk s') ∧ frC s s' ∧ s'.2 = s.2 ∧ cK s' t (fedA A a b c d e)) ∧ (¬ (aB A).1 + 20 ≤ 700 → fX10_feed n (mk s) 1 a b c d e = some (m1, mk s)) := by
  obtain ⟨k1, k2, k3, k4, k5, k6, k7, k8, k9⟩ := hK
  have hB := hA.2.2.2.2.1.1
  have ht : t = 6 ∨ t = 29 := by rcases k1 with h | h <;> omega
  obtain ⟨m, em⟩ : ∃ m, m = (aB A).1 := ⟨_, rfl⟩
  have hm : s.1 1 1 = nI m := by rw [em]; exact k7.1
  refine ⟨fun h => ?_, fun h => ?_⟩
  · rw [← em] at h ⊢
    obtain ⟨s1, f1, g1⟩ := c_put4 (x := a) hn hm (by omega)
    obtain ⟨s2, f2, g2⟩ := c_put4 (x := b) hn g1.2.2.2.1 (by omega)
    obtain ⟨s3, f3, g3⟩ := c_put4 (x := c) hn g2.2.2.2.1 (by omega)
    obtain ⟨s4, f4, g4⟩ := c_put4 (x := d) hn g3.2.2.2.1 (by omega)
    obtain ⟨s5, f5, g5⟩ := c_put4 (x := e) hn g4.2.2.2.1 (by omega)
    have z5 : s5.2 = s.2 := by rw [g5.1, g4.1, g3.1, g2.1, g1.1]
    have o5 : ∀ a, a ≠ 1 → a ≠ 2 → s5.1 a = s.1 a := fun a h1 h2 => by rw [g5.2.1 a h1 h2, g4.2.1 a h1 h2, g3.2.1 a h1 h2, g2.2.1 a h1 h2, g1.2.1 a h1 h2]
    have j5 : ∀ j, j ≠ 1 → s5.1 1 j = s.1 1 j := fun j hj => by rw [g5.2.2.1 j hj, g4.2.2.1 j hj, g3.2.2.1 j hj, g2.2.2.1 j hj, g1.2.2.1 j hj]
    have c5 : s5.1 1 1 = nI (m + 20) := g5.2.2.2.1
    refine ⟨s5, ?_, ⟨fun a h1 => ⟨o5 a (by omega) (by omega), by rw [z5], by rw [z5]⟩, by rw [z5]⟩, z5, by rw [z5]; exact k1, by rw [z5]; exact k2, cTd_fr k3 (fun a g1 g2 => o5 a (by omega) (by omega)), cSd_fr k4 (fun a g1 g2 => o5 a (by omega) (by omega)), ⟨by rw [j5 8 (by omega)]; exact k5.1, fun g => cSd_fr (k5.2 g) (fun a g1 g2 => o5 a (by omega) (by omega))⟩, ⟨by rw [j5 10 (by omega)]; exact k6.1, k6.2.1, by rw [z5]; exact k6.2.2.1, by rw [z5]; exact k6.2.2.2.1, fun i hi => ?_⟩, ⟨?_, fun i hi => ?_⟩, ⟨by rw [o5 3 (by omega) (by omega)]; exact k8.1, by rw [o5 3 (by omega) (by omega)]; exact k8.2⟩, ⟨by rw [o5 70 (by omega) (by omega)]; exact k9.1, by rw [o5 70 (by omega) (by omega)]; exact k9.2.1, fun i hi => by rw [o5 71 (by omega) (by omega), o5 72 (by omega) (by omega), o5 73 (by omega) (by omega), o5 74 (by omega) (by omega)]; exact k9.2.2 i hi⟩⟩
    · unfold fX10_feed
      simp (disch := first | omega | assumption | (simp only [wL_1, wL_22, wI_2, wA_2, wQ_1, wQ_21] <;> first | assumption | omega)) only [LIT, LITm, nI_add, n_mul, fa_or, n_31m, n_shl0, n_le, n_lt, n_eq, Option.bind_some, B_K hn, hm, h, f1, f2, f3, f4, f5, c5, ↓reduceIte]
    · rw [z5]
      have hi2 : i < (aP A).1 := hi
      obtain ⟨k, hk, e⟩ := k6.2.2.1 i (by have := k6.2.1; omega)
      exact cSd_fr (k6.2.2.2.2 i hi2) (fun a g1 g2 => o5 a (by omega) (by omega))
    · show s5.1 1 1 = nI ((aB A).1 + 20)
      rw [c5, em]
    · have hi' : i < (aB A).1 + 20 := hi
      rw [← em] at hi'
      show s5.1 2 i = (nI (if i < (aB A).1 then (aB A).2 i else fdG a b c d e (i - (aB A).1))).toInt8.toInt32
      rw [← em]
      by_cases q : i < m
      · rw [if_pos q, g5.2.2.2.2.1 i (by omega), g4.2.2.2.2.1 i (by omega), g3.2.2.2.2.1 i (by omega), g2.2.2.2.2.1 i (by omega), g1.2.2.2.2.1 i (by omega)]
        exact k7.2 i (by rw [← em]; exact q)
      · rw [if_neg q]
        obtain ⟨r, er⟩ : ∃ r, r = i - m := ⟨_, rfl⟩
        rw [← er]
        unfold fdG fdW
        rcases (by omega : r < 4 ∨ (4 ≤ r ∧ r < 8) ∨ (8 ≤ r ∧ r < 12) ∨ (12 ≤ r ∧ r < 16) ∨ 16 ≤ r) with g | g | g | g | g
        · rw [if_pos g, g5.2.2.2.2.1 i (by omega), g4.2.2.2.2.1 i (by omega), g3.2.2.2.2.1 i (by omega), g2.2.2.2.2.1 i (by omega), show i = m + r % 4 by omega]
          exact g1.2.2.2.2.2 _ (by omega)
        · rw [if_neg (by omega), if_pos g.2, g5.2.2.2.2.1 i (by omega), g4.2.2.2.2.1 i (by omega), g3.2.2.2.2.1 i (by omega), show i = m + 4 + r % 4 by omega]
          exact g2.2.2.2.2.2 _ (by omega)
        · rw [if_neg (by omega), if_neg (by omega), if_pos g.2, g5.2.2.2.2.1 i (by omega), g4.2.2.2.2.1 i (by omega), show i = m + 4 + 4 + r % 4 by omega]
          exact g3.2.2.2.2.2 _ (by omega)
        · rw [if_neg (by omega), if_neg (by omega), if_neg (by omega), if_pos g.2, g5.2.2.2.2.1 i (by omega), show i = m + 4 + 4 + 4 + r % 4 by omega]
          exact g4.2.2.2.2.2 _ (by omega)
        · rw [if_neg (by omega), if_neg (by omega), if_neg (by omega), if_neg (by omega), show i = m + 4 + 4 + 4 + 4 + r % 4 by omega]
          exact g5.2.2.2.2.2 _ (by omega)
  · rw [← em] at h hB
    unfold fX10_feed
    simp (disch := first | omega | assumption | (simp only [wL_1, wL_22, wI_2, wA_2, wQ_1, wQ_21] <;> first | assumption | omega)) only [LIT, LITm, nI_add, n_mul, fa_or, n_31m, n_shl0, n_le, n_lt, n_eq, Option.bind_some, B_K hn, hm, h, ↓reduceIte]
theorem m_feed {a b c d e : Int32} (hn : 239 ≤ n) (hK : mK s A) (hA : wfA A) : ((aB A).1 + 20 ≤ 700 → ∃ s' : zS, fX11_feed n (mk s) 187 a b c d e = some (nI ((aB A).1 + 20), mk s') ∧ frM s s' ∧ mK s' (fedA A a b c d e)) ∧ (¬ (aB A).1 + 20 ≤ 700 → ∃ s' : zS, fX11_feed n (mk s) 187 a b c d e = some (m1, mk s') ∧ frT s s') := by
  have hW := hA.1
  have hB := hA.2.2.2.2.1.1
  have ft := m_th s
  have hKt := mK_T hW hK ft
  obtain ⟨m, em⟩ : ∃ m, m = (aB A).1 := ⟨_, rfl⟩
  obtain ⟨sa, ea⟩ : ∃ sa : zS, sa = wI s 187 2 (nI 0) := ⟨_, rfl⟩
  rw [← ea] at hKt ft
  obtain ⟨k1, k2, k3, k4, k5, k6, k7⟩ := hKt
  have hm : sa.1 187 1 = nI m := by rw [em]; exact k5.1
  refine ⟨fun h => ?_, fun h => ?_⟩
  · rw [← em] at h ⊢
    have hx : fX11_feed n (mk s) 187 a b c d e = fX11_feed_23 n bi_K (mk sa) 187 a b c d e (nI 0) := by
      unfold fX11_feed
      simp (disch := first | omega | assumption | (simp only [wL_1, wL_22, wI_2, wA_2, wQ_1, wQ_21] <;> first | assumption | omega)) only [LIT, LITm, nI_add, n_mul, fa_or, n_31m, n_shl0, n_le, n_lt, n_eq, Option.bind_some, B_m hn, ← ea, hm, h, ↓reduceIte]
    rw [hx]
    refine lp_up (F := fun k (s1 : zS) i => fX11_feed_23 n k (mk s1) 187 a b c d e (nI i)) (N := 20) (P := fun i s1 => s1.2 = sa.2 ∧ (∀ a, a ≠ 188 → s1.1 a = sa.1 a) ∧ (∀ j, j < m → s1.1 188 j = sa.1 188 j) ∧ ∀ j, j < i → s1.1 188 (m + j) = nI (fdG a b c d e j)) (Q := fun r => ∃ s' : zS, r = some (nI (m + 20), mk s') ∧ frM s s' ∧ mK s' (fedA A a b c d e)) ?_ ?_ 20 bi_K sa 0 (by omega) (by unfold bi_K; omega) ⟨rfl, fun _ _ => rfl, fun _ _ => rfl, fun j h => absurd h (Nat.not_lt_zero j)⟩
    · intro k s1 i hi hP
      obtain ⟨g1, g2, g3, g4⟩ := hP
      left
      have hm1 : s1.1 187 1 = nI m := by rw [g2 187 (by omega)]; exact hm
      refine ⟨wI s1 188 (m + i) (nI (fdG a b c d e i)), ?_, g1, fun a ha => by rw [wI_ne ha]; exact g2 a ha, fun j hj => by rw [wI_at, upd_ne (by omega)]; exact g3 j hj, fun j hj => ?_⟩
      · have ew : ∀ y : Int32, fX11_feed_76 n (fX11_feed_23 n k) (mk s1) 187 a b c d e (nI i) y = fX11_feed_23 n k (mk (wI s1 188 (m + i) (nI (byV y (i % 4))))) 187 a b c d e (nI (i + 1)) := by
          intro y
          have e255 : (y >>> nI (24 - 8 * (i % 4))) &&& nI 255 = nI (byV y (i % 4)) := (byX_nI y (i % 4)).symm
          unfold fX11_feed_76
          simp (disch := first | omega | assumption | (simp only [wL_1, wL_22, wI_2, wA_2, wQ_1, wQ_21] <;> first | assumption | omega)) only [LIT, LITm, nI_add, n_mul, fa_or, n_31m, n_shl0, n_le, n_lt, n_eq, Option.bind_some, fa_lit 255, B_m hn, B_ma hn, hm1, n_rI, n_sub, e255]
        show fX11_feed_23b n (fX11_feed_23 n k) (mk s1) 187 a b c d e (nI i) = _
        unfold fX11_feed_23b
        simp only [ew]
        unfold fdG fdW
        rcases (by omega : i < 4 ∨ (4 ≤ i ∧ i < 8) ∨ (8 ≤ i ∧ i < 12) ∨ (12 ≤ i ∧ i < 16) ∨ 16 ≤ i) with g | g | g | g | g
        · simp (disch := first | omega | assumption | (simp only [wL_1, wL_22, wI_2, wA_2, wQ_1, wQ_21] <;> first | assumption | omega)) only [LIT, LITm, nI_add, n_mul, fa_or, n_31m, n_shl0, n_le, n_lt, n_eq, Option.bind_some, show ¬ 20 ≤ i by omega, show ¬ 4 ≤ i by omega, g, ↓reduceIte]
        · simp (disch := first | omega | assumption | (simp only [wL_1, wL_22, wI_2, wA_2, wQ_1, wQ_21] <;> first | assumption | omega)) only [LIT, LITm, nI_add, n_mul, fa_or, n_31m, n_shl0, n_le, n_lt, n_eq, Option.bind_some, show ¬ 20 ≤ i by omega, show ¬ i < 4 by omega, show ¬ 8 ≤ i by omega, g, ↓reduceIte]
        · simp (disch := first | omega | assumption | (simp only [wL_1, wL_22, wI_2, wA_2, wQ_1, wQ_21] <;> first | assumption | omega)) only [LIT, LITm, nI_add, n_mul, fa_or, n_31m, n_shl0, n_le, n_lt, n_eq, Option.bind_some, show ¬ 20 ≤ i by omega, show 4 ≤ i by omega, show ¬ i < 4 by omega, show ¬ i < 8 by omega, show ¬ 12 ≤ i by omega, g, ↓reduceIte]
        · simp (disch := first | omega | assumption | (simp only [wL_1, wL_22, wI_2, wA_2, wQ_1, wQ_21] <;> first | assumption | omega)) only [LIT, LITm, nI_add, n_mul, fa_or, n_31m, n_shl0, n_le, n_lt, n_eq, Option.bind_some, show ¬ 20 ≤ i by omega, show 4 ≤ i by omega, show 8 ≤ i by omega, show ¬ i < 4 by omega, show ¬ i < 8 by omega, show ¬ i < 12 by omega, show ¬ 16 ≤ i by omega, g, ↓reduceIte]
        · simp (disch := first | omega | assumption | (simp only [wL_1, wL_22, wI_2, wA_2, wQ_1, wQ_21] <;> first | assumption | omega)) only [LIT, LITm, nI_add, n_mul, fa_or, n_31m, n_shl0, n_le, n_lt, n_eq, Option.bind_some, show ¬ 20 ≤ i by omega, show 4 ≤ i by omega, show 8 ≤ i by omega, show 12 ≤ i by omega, show ¬ i < 4 by omega, show ¬ i < 8 by omega, show ¬ i < 12 by omega, show ¬ i < 16 by omega, g, ↓reduceIte]
      · by_cases q : j = i
        · rw [q, wI_at, upd_at]
        · rw [wI_at, upd_ne (by omega)]
          exact g4 j (by omega)
    · intro k s1 hP
      obtain ⟨g1, g2, g3, g4⟩ := hP
      have hm1 : s1.1 187 1 = nI m := by rw [g2 187 (by omega)]; exact hm
      obtain ⟨sb, eb⟩ : ∃ sb : zS, sb = wI s1 187 1 (nI (m + 20)) := ⟨_, rfl⟩
      have cb : sb.1 187 1 = nI (m + 20) := by rw [eb, wI_at, upd_at]
      have ob : ∀ a, a ≠ 187 → a ≠ 188 → sb.1 a = sa.1 a := fun a h1 h2 => by rw [eb, wI_ne h1]; exact g2 a h2
      have jb : ∀ j, j ≠ 1 → sb.1 187 j = sa.1 187 j := fun j hj => by rw [eb, wI_at, upd_ne hj, g2 187 (by omega)]
      have b5 : sb.1 188 = s1.1 188 := by rw [eb, wI_ne (by omega)]
      have zb : sb.2 = sa.2 := by rw [eb]; exact g1
      refine ⟨sb, ?_, frM_t (frT_M ft) ⟨by rw [zb], fun a ha => ⟨ob a (by omega) (by omega), by rw [zb]⟩⟩, mTd_fr k1 (fun a j ha => ?_), mSd_0 (fun c h1 h2 => ob c (by omega) (by omega)) (by rw [zb]) k2, ?_, ?_, ⟨?_, fun i hi => ?_⟩, ?_, ?_⟩
      · show fX11_feed_23b n (fX11_feed_23 n k) (mk s1) 187 a b c d e (nI 20) = _
        unfold fX11_feed_23b
        simp (disch := first | omega | assumption | (simp only [wL_1, wL_22, wI_2, wA_2, wQ_1, wQ_21] <;> first | assumption | omega)) only [LIT, LITm, nI_add, n_mul, fa_or, n_31m, n_shl0, n_le, n_lt, n_eq, Option.bind_some, B_m hn, hm1, ← eb, cb, Nat.le_refl, ↓reduceIte]
      · rcases ha with ⟨rfl, h⟩ | h
        · exact jb j (by omega)
        · rw [ob a (by omega) (by omega)]
      · show mIm sb (aT A) (aI A)
        unfold mIm
        rw [jb 91 (by omega), jb 93 (by omega), jb 94 (by omega), ob 237 (by omega) (by omega), zb]
        exact k3
      · show mPs sb (aT A) (aP A)
        unfold mPs
        rw [jb 89 (by omega), ob 236 (by omega) (by omega)]
        exact k4
      · show sb.1 187 1 = nI ((aB A).1 + 20)
        rw [cb, em]
      · have hi' : i < (aB A).1 + 20 := hi
        rw [← em] at hi'
        show sb.1 188 i = nI (if i < (aB A).1 then (aB A).2 i else fdG a b c d e (i - (aB A).1))
        rw [← em, b5]
        by_cases q : i < m
        · rw [if_pos q, g3 i q]
          exact k5.2 i (by rw [← em]; exact q)
        · rw [if_neg q]
          have := g4 (i - m) (by omega)
          rw [show m + (i - m) = i by omega] at this
          exact this
      · show mFt sb (aF A)
        unfold mFt
        rw [jb 4 (by omega), jb 5 (by omega)]
        exact k6
      · show mSn sb (aE A)
        unfold mSn
        rw [jb 84 (by omega), jb 85 (by omega), ob 233 (by omega) (by omega)]
        exact k7
  · rw [← em] at h hB
    refine ⟨sa, ?_, ft⟩
    unfold fX11_feed
    simp (disch := first | omega | assumption | (simp only [wL_1, wL_22, wI_2, wA_2, wQ_1, wQ_21] <;> first | assumption | omega)) only [LIT, LITm, nI_add, n_mul, fa_or, n_31m, n_shl0, n_le, n_lt, n_eq, Option.bind_some, B_m hn, ← ea, hm, h, ↓reduceIte]
end Fe
