/-! ===== the squire's game: the reference, laid and answered ===== -/
section Mi
variable {n a c K P k code t' s' p i u v m : Nat} {s : zS} {T : zT} {S : zD} {A : zA} {b0 b : Bool} {x y z w : Int32}
def gmW (T : zT) (a c K : Nat) (b0 : Bool) (t' s' : Nat) : Bool := wn K (ledB T a c) (fcV K t' s') t' s' (trn b0 t' s')
theorem m_lg79 {r68 : ai_H → Nat → Int32 → Int32 → Int32 → Int32 → Option (Unit × ai_H)} (hn : 239 ≤ n) (hW : WT T) (hT : mTd s.1 T) (hK : K < 2 ^ T 0 1) (hko : koH s K (T 0 1)) (hc : code < 3 ^ rk K (T 0 1)) (ha : a < 7) (hcc : c < 7) (hI : ∀ d, code < d → d < 3 ^ rk K (T 0 1) → ∀ t' s', posM K (T 0 1) d t' s' → s.1 232 d = nI (gmW T a c K b0 t' s').toNat) : ∃ r : Bool, (∀ t' s', posM K (T 0 1) code t' s' → r = gmW T a c K b0 t' s') ∧ fX11_layGame_79 n r68 bi_K (mk s) 187 (nI a) (nI c) (nI b0.toNat) (nI code) (nI 0) (nI 0) = r68 (mk (wI s 232 code (nI r.toNat))) 187 (nI a) (nI c) (nI b0.toNat) (nI code + m1) := by
  have h0 := hW.1
  have rle : rk K (T 0 1) ≤ 9 := Nat.le_trans (fb_ct_le _ _) h0.2.1
  have p9 := p3_le rle
  have cl : code < 19683 := Nat.lt_of_lt_of_le hc p9
  have K512 : K < 512 := Nat.lt_of_lt_of_le hK (p2_le hW)
  have e82 := hko.1
  obtain ⟨t', s', hp⟩ := posM_ex hc hK
  obtain ⟨mv, fcm⟩ := posM_mvs hp hK h0.2.1
  have ok := posM_ok hp K512
  have bl := Bool.toNat_le b0
  -- what is written, whatever it stands for
  suffices h : ∃ r : Bool, r = gmW T a c K b0 t' s' ∧ fX11_layGame_79 n r68 bi_K (mk s) 187 (nI a) (nI c) (nI b0.toNat) (nI code) (nI 0) (nI 0) = r68 (mk (wI s 232 code (nI r.toNat))) 187 (nI a) (nI c) (nI b0.toNat) (nI code + m1) by
    obtain ⟨r, e1, e2⟩ := h
    refine ⟨r, fun t2 s2 hp2 => ?_, e2⟩
    have one : t2 = t' ∧ s2 = s' := by
      have key : ∀ q, t2.testBit q = t'.testBit q ∧ s2.testBit q = s'.testBit q := fun q => by
        cases ek : K.testBit q with
        | false =>
          have o1 : ∀ y, sub y K → y.testBit q = false := fun y hy => by
            cases e : y.testBit q with
            | false => rfl
            | true => rw [hy q e] at ek; cases ek
          rw [o1 t2 hp2.2.1, o1 t' hp.2.1, o1 s2 hp2.2.2.1, o1 s' hp.2.2.1]
          exact ⟨rfl, rfl⟩
        | true =>
          have d1 := hp2.2.2.2 q ek
          have d2 := hp.2.2.2 q ek
          rw [d1.1] at d2
          have x1 := d1.2
          have x2 := d2.2
          have x3 := d2.1
          revert x1 x2 x3
          cases t2.testBit q <;> cases s2.testBit q <;> cases t'.testBit q <;> cases s'.testBit q <;> decide
      exact ⟨Nat.eq_of_testBit_eq fun q => (key q).1, Nat.eq_of_testBit_eq fun q => (key q).2⟩
    rw [one.1, one.2]
    exact e1
  obtain ⟨M, eM⟩ : ∃ M, M = pc9 t' + pc9 s' := ⟨_, rfl⟩
  rw [← eM] at mv fcm
  have Ml : M ≤ 9 := by omega
  obtain ⟨b, eb⟩ : ∃ b, b = trn b0 t' s' := ⟨_, rfl⟩
  have mb : (M + b0.toNat) % 2 = b.toNat := by
    rw [eb]
    unfold trn
    rw [← eM]
    by_cases g : M % 2 = 0
    · rw [if_pos g]
      omega
    · rw [if_neg g]
      cases b0 <;> simp only [Bool.not_true, Bool.not_false, Bool.toNat_true, Bool.toNat_false] <;> omega
  have hgm : gmW T a c K b0 t' s' = wn K (ledB T a c) (fcV K t' s') t' s' b := by rw [eb]; rfl
  refine lp_up (F := fun f (_ : Unit) i => fX11_layGame_79 n r68 f (mk s) 187 (nI a) (nI c) (nI b0.toNat) (nI code) (nI (fb_ct (fun i => decide (0 < dg code i)) i)) (nI i)) (N := rk K (T 0 1)) (P := fun _ _ => True) (Q := fun x => ∃ r : Bool, r = gmW T a c K b0 t' s' ∧ x = r68 (mk (wI s 232 code (nI r.toNat))) 187 (nI a) (nI c) (nI b0.toNat) (nI code + m1)) ?_ ?_ (rk K (T 0 1)) bi_K () 0 (by omega) (by unfold bi_K; omega) trivial
  · intro f _ i hi _
    left
    refine ⟨(), ?_, trivial⟩
    have dd := m_digit (n := n) (h := mk s) (c := code) (i := i) (by omega) (by omega)
    have dl := dg_lt3 (c := code) (q := i)
    have fl := fb_ct_le (fun i => decide (0 < dg code i)) i
    show fX11_layGame_79b n r68 (fX11_layGame_79 n r68 f) (mk s) 187 (nI a) (nI c) (nI b0.toNat) (nI code) (nI (fb_ct (fun i => decide (0 < dg code i)) i)) (nI i) = fX11_layGame_79 n r68 f (mk s) 187 (nI a) (nI c) (nI b0.toNat) (nI code) (nI (fb_ct (fun i => decide (0 < dg code i)) (i + 1))) (nI (i + 1))
    unfold fX11_layGame_79b fX11_layGame_105
    rw [fb_ct_succ]
    by_cases g : 0 < dg code i
    · rw [decide_eq_true g, if_pos rfl]
      simp (disch := first | omega | assumption | (simp only [wL_1, wL_22, wI_2, wA_2, wQ_1, wQ_21] <;> first | assumption | omega)) only [LIT, LITm, nI_add, n_mul, fa_or, n_31m, n_shl0, n_le, n_lt, n_eq, Option.bind_some, B_m hn, e82, dd, show ¬ dg code i ≤ 0 by omega, show ¬ rk K (T 0 1) ≤ i by omega, ↓reduceIte]
    · rw [decide_eq_false g, if_neg Bool.false_ne_true]
      simp (disch := first | omega | assumption | (simp only [wL_1, wL_22, wI_2, wA_2, wQ_1, wQ_21] <;> first | assumption | omega)) only [LIT, LITm, nI_add, n_mul, fa_or, n_31m, n_shl0, n_le, n_lt, n_eq, Option.bind_some, B_m hn, e82, dd, show dg code i ≤ 0 by omega, show ¬ rk K (T 0 1) ≤ i by omega, ↓reduceIte]
  · intro f _ _
    rw [mv]
    show ∃ r : Bool, _ ∧ fX11_layGame_79b n r68 (fX11_layGame_79 n r68 f) (mk s) 187 (nI a) (nI c) (nI b0.toNat) (nI code) (nI M) (nI (rk K (T 0 1))) = _
    unfold fX11_layGame_79b fX11_layGame_191
    by_cases q : M = rk K (T 0 1)
    · have f0 : fcV K t' s' = 0 := by omega
      have il := m_isLed hn hW hT hK hko hp ha hcc
      refine ⟨ledB T a c t', by rw [hgm, f0]; rfl, ?_⟩
      rw [← q]
      have e82' : s.1 187 82 = nI M := by rw [e82, q]
      have lb := Bool.toNat_le (ledB T a c t')
      simp (disch := first | omega | assumption | (simp only [wL_1, wL_22, wI_2, wA_2, wQ_1, wQ_21] <;> first | assumption | omega)) only [LIT, LITm, nI_add, n_mul, fa_or, n_31m, n_shl0, n_le, n_lt, n_eq, Option.bind_some, B_m hn, B_mc hn, e82', n_rI, il, nar_b lb, not_true_eq_false, Nat.le_refl, ↓reduceIte]
    · obtain ⟨m', em⟩ : ∃ m', fcV K t' s' = m' + 1 := ⟨fcV K t' s' - 1, by omega⟩
      obtain ⟨val, ev⟩ : ∃ val : Nat → Bool, ∀ p, K.testBit p = true → p < T 0 1 → val (rk K p) = wn K (ledB T a c) m' (mvT b t' p) (mvS b s' p) (!b) := by
        refine ⟨fun i => anB (fun p => K.testBit p && (decide (rk K p = i) && wn K (ledB T a c) m' (mvT b t' p) (mvS b s' p) (!b))) (T 0 1), fun p hk hP => ?_⟩
        cases e : wn K (ledB T a c) m' (mvT b t' p) (mvS b s' p) (!b) with
        | true =>
          refine anB_iff.mpr ⟨p, hP, ?_⟩
          rw [hk, decide_eq_true rfl, e]
          rfl
        | false =>
          refine bF (fun g => ?_)
          obtain ⟨p', g1, g2⟩ := anB_iff.mp g
          obtain ⟨g3, g4⟩ := (Bool.and_eq_true _ _).mp g2
          obtain ⟨g5, g6⟩ := (Bool.and_eq_true _ _).mp g4
          have := rk_inj g3 hk (of_decide_eq_true g5)
          rw [this, e] at g6
          cases g6
      have free : ∀ p, K.testBit p = true → (dg code (rk K p) = 0 ↔ frB' K t' s' p = true) := fun p hk => by
        rw [(hp.2.2.2 p hk).1]
        unfold frB'
        rw [hk]
        cases t'.testBit p <;> cases s'.testBit p <;> simp
      obtain ⟨o, o1, o2, o3⟩ := m_winsBy (n := n) (b := b) (s := s) (val := val) hn rle hc e82 (fun i hi hd => by
        obtain ⟨p, p1, p2, p3⟩ := rk_of hi
        rw [← p3] at hd ⊢
        have hfr := (free p p2).mp hd
        have pm := posM_mv (b := b) hp p2 p1 hd
        have fm := fc_mv (b := b) (show p < 9 by omega) hfr
        have tm := trn_mv (b := b) (b0 := b0) (show p < 9 by omega) hfr
        have pos : 0 < (b.toNat + 1) * 3 ^ rk K p := Nat.mul_pos (by omega) (Nat.pow_pos (by decide))
        have hcell := hI (code + (b.toNat + 1) * 3 ^ rk K p) (by omega) pm.1 _ _ pm
        rw [hcell]
        unfold gmW
        rw [tm, ← eb, show fcV K (mvT b t' p) (mvS b s' p) = m' by omega, ev p p2 p1])
      have anv : anB (fun p => frB' K t' s' p && (wn K (ledB T a c) m' (mvT b t' p) (mvS b s' p) (!b) == b)) 9 = o.isSome := by
        cases o with
        | none =>
          refine bF (fun g => ?_)
          obtain ⟨p, g1, g2⟩ := anB_iff.mp g
          obtain ⟨g3, g4⟩ := (Bool.and_eq_true _ _).mp g2
          have hk : K.testBit p = true := by unfold frB' at g3; exact ((Bool.and_eq_true _ _).mp g3).1
          have hP := tb_P hK hk
          refine o1 rfl (rk K p) (rk_lt hk hP) ((free p hk).mpr g3) ?_
          rw [ev p hk hP]
          exact eq_of_beq g4
        | some i =>
          obtain ⟨i1, i2, i3, -⟩ := o2 i rfl
          obtain ⟨p, p1, p2, p3⟩ := rk_of i1
          rw [← p3] at i2 i3
          refine anB_iff.mpr ⟨p, by omega, ?_⟩
          rw [(free p p2).mp i2, ← ev p p2 p1, i3, Bool.true_and]
          cases b <;> rfl
      refine ⟨if o.isSome = true then b else !b, by rw [hgm, em, ← anv]; rfl, ?_⟩
      unfold fX11_layGame_171 fX11_layGame_182 fX11_layGame_190 fX11_layGame_191
      have rm : rI (nI M + nI b0.toNat) (nI 2) = some (nI b.toNat) := by rw [nI_add, n_rI (by omega) (by omega) (by omega), mb]
      cases o with
      | none =>
        have o3' : fX11_winsBy n (mk s) 187 (nI code) (nI b.toNat) = some (m1, mk s) := o3
        cases b with
        | true =>
          have rm' : rI (nI M + nI b0.toNat) (nI 2) = some (nI 1) := rm
          have o3'' : fX11_winsBy n (mk s) 187 (nI code) (nI 1) = some (m1, mk s) := o3'
          rw [nI_add] at rm'
          simp (disch := first | omega | assumption | (simp only [wL_1, wL_22, wI_2, wA_2, wQ_1, wQ_21] <;> first | assumption | omega)) only [LIT, LITm, nI_add, n_mul, fa_or, n_31m, n_shl0, n_le, n_lt, n_eq, Option.bind_some, B_m hn, B_mc hn, e82, rm', q, o3'', n_m1lt, nar_b (show 0 ≤ 1 by omega), Option.isSome_none, Bool.not_true, Bool.toNat_false, Bool.false_eq_true, Nat.reduceEqDiff, Nat.reduceLeDiff, if_true, if_false, not_true_eq_false, not_false_eq_true, Nat.le_refl, ↓reduceIte]
        | false =>
          have rm' : rI (nI M + nI b0.toNat) (nI 2) = some (nI 0) := rm
          have o3'' : fX11_winsBy n (mk s) 187 (nI code) (nI 0) = some (m1, mk s) := o3'
          rw [nI_add] at rm'
          simp (disch := first | omega | assumption | (simp only [wL_1, wL_22, wI_2, wA_2, wQ_1, wQ_21] <;> first | assumption | omega)) only [LIT, LITm, nI_add, n_mul, fa_or, n_31m, n_shl0, n_le, n_lt, n_eq, Option.bind_some, B_m hn, B_mc hn, e82, rm', q, o3'', n_m1lt, nar_b (show 1 ≤ 1 by omega), Option.isSome_none, Bool.not_false, Bool.toNat_true, Bool.false_eq_true, Nat.reduceEqDiff, Nat.reduceLeDiff, if_true, if_false, not_true_eq_false, not_false_eq_true, Nat.le_refl, ↓reduceIte]
      | some i =>
        have i1 := (o2 i rfl).1
        have nlt : (nI i < nI 0) = False := n_lt0 (by omega)
        have o3' : fX11_winsBy n (mk s) 187 (nI code) (nI b.toNat) = some (nI i, mk s) := o3
        cases b with
        | true =>
          have rm' : rI (nI M + nI b0.toNat) (nI 2) = some (nI 1) := rm
          have o3'' : fX11_winsBy n (mk s) 187 (nI code) (nI 1) = some (nI i, mk s) := o3'
          rw [nI_add] at rm'
          simp (disch := first | omega | assumption | (simp only [wL_1, wL_22, wI_2, wA_2, wQ_1, wQ_21] <;> first | assumption | omega)) only [LIT, LITm, nI_add, n_mul, fa_or, n_31m, n_shl0, n_le, n_lt, n_eq, Option.bind_some, B_m hn, B_mc hn, e82, rm', q, o3'', nlt, nar_b (show 1 ≤ 1 by omega), Option.isSome_some, Bool.toNat_true, Nat.reduceEqDiff, Nat.reduceLeDiff, if_true, if_false, not_true_eq_false, not_false_eq_true, Nat.le_refl, ↓reduceIte]
        | false =>
          have rm' : rI (nI M + nI b0.toNat) (nI 2) = some (nI 0) := rm
          have o3'' : fX11_winsBy n (mk s) 187 (nI code) (nI 0) = some (nI i, mk s) := o3'
          rw [nI_add] at rm'
          simp (disch := first | omega | assumption | (simp only [wL_1, wL_22, wI_2, wA_2, wQ_1, wQ_21] <;> first | assumption | omega)) only [LIT, LITm, nI_add, n_mul, fa_or, n_31m, n_shl0, n_le, n_lt, n_eq, Option.bind_some, B_m hn, B_mc hn, e82, rm', q, o3'', nlt, nar_b (show 0 ≤ 1 by omega), Option.isSome_some, Bool.toNat_false, Nat.reduceEqDiff, Nat.reduceLeDiff, if_true, if_false, not_true_eq_false, not_false_eq_true, Nat.le_refl, ↓reduceIte]
theorem m_layGame (hn : 239 ≤ n) (hW : WT T) (hT : mTd s.1 T) (hS : mSd s 0 T O00 S) (hD : wD T S) (ha : a < 7) (hcc : c < 7) : ∃ s1 : zS, fX11_layGame n (mk s) 187 (nI a) (nI c) (nI b0.toNat) = some ((), mk s1) ∧ frT s s1 ∧ koH s1 S.2.2.2.1 (T 0 1) ∧ ∀ d, d < 3 ^ rk S.2.2.2.1 (T 0 1) → ∀ t' s', posM S.2.2.2.1 (T 0 1) d t' s' → s1.1 232 d = nI (gmW T a c S.2.2.2.1 b0 t' s').toNat := by
  have h0 := hW.1
  have hK := hD.2.1
  obtain ⟨K, eK⟩ : ∃ K, K = S.2.2.2.1 := ⟨_, rfl⟩
  rw [← eK] at hK
  have rle : rk K (T 0 1) ≤ 9 := Nat.le_trans (fb_ct_le _ _) h0.2.1
  have p9 := p3_le rle
  have pp : 0 < 3 ^ rk K (T 0 1) := Nat.pow_pos (by decide)
  have fr0 : frT s (wI s 187 82 (nI 0)) := frT_w (by unfold scM; omega)
  unfold fX11_layGame
  simp (disch := first | omega | assumption | (simp only [wL_1, wL_22, wI_2, wA_2, wQ_1, wQ_21] <;> first | assumption | omega)) only [LIT, LITm, nI_add, n_mul, fa_or, n_31m, n_shl0, n_le, n_lt, n_eq, Option.bind_some, B_m hn]
  rw [← eK]
  refine lp_up (F := fun f (s1 : zS) i => fX11_layGame_8 n f (mk s1) 187 (nI a) (nI c) (nI b0.toNat) (nI i)) (N := T 0 1) (P := fun i s1 => frT s s1 ∧ s1.1 187 82 = nI (rk K i) ∧ ∀ p, p < i → K.testBit p = true → s1.1 231 (rk K p) = nI p) (Q := fun r => ∃ s1 : zS, r = some ((), mk s1) ∧ frT s s1 ∧ koH s1 K (T 0 1) ∧ ∀ d, d < 3 ^ rk K (T 0 1) → ∀ t' s', posM K (T 0 1) d t' s' → s1.1 232 d = nI (gmW T a c K b0 t' s').toNat) ?_ ?_ (T 0 1) bi_K (wI s 187 82 (nI 0)) 0 (by omega) (by unfold bi_K; omega) ⟨fr0, by rw [wI_at, upd_at]; rfl, fun p h => absurd h (Nat.not_lt_zero p)⟩
  · rintro f s1 i hi ⟨g1, g2, g3⟩
    left
    have hT1 : mTd s1.1 T := mTd_T g1.1 hT
    have hS1 := mSd_T hW g1 hS
    have p13 : s1.1 187 13 = nI (T 0 1) := hT1.1.2.1
    have k9 : s1.1 222 i = nI (K.testBit i).toNat := by
      have := (hS1.2.1 i hi).2.1
      rw [Nat.mul_zero, Nat.zero_add] at this
      rw [eK]
      exact this
    have rl : rk K i ≤ i := fb_ct_le _ _
    show ∃ s', fX11_layGame_8b n (fX11_layGame_8 n f) (mk s1) 187 (nI a) (nI c) (nI b0.toNat) (nI i) = _ ∧ _
    unfold fX11_layGame_8b fX11_layGame_51
    cases ek : K.testBit i with
    | false =>
      rw [ek] at k9
      refine ⟨s1, ?_, g1, ?_, fun p hp hk => ?_⟩
      · simp (disch := first | omega | assumption | (simp only [wL_1, wL_22, wI_2, wA_2, wQ_1, wQ_21] <;> first | assumption | omega)) only [LIT, LITm, nI_add, n_mul, fa_or, n_31m, n_shl0, n_le, n_lt, n_eq, Option.bind_some, B_m hn, B_mb hn, B_mc hn, p13, k9, Bool.toNat_false, not_true_eq_false, show ¬ T 0 1 ≤ i by omega, ↓reduceIte]
      · rw [g2, rk_s, ek, if_neg Bool.false_ne_true, Nat.add_zero]
      · by_cases q : p = i
        · rw [q, ek] at hk; cases hk
        · exact g3 p (by omega) hk
    | true =>
      rw [ek] at k9
      refine ⟨wI (wI s1 231 (rk K i) (nI i)) 187 82 (nI (rk K i + 1)), ?_, frT_t g1 (frT_t (frT_w (by unfold scM; omega)) (frT_w (by unfold scM; omega))), ?_, fun p hp hk => ?_⟩
      · simp (disch := first | omega | assumption | (simp only [wL_1, wL_22, wI_2, wA_2, wQ_1, wQ_21] <;> first | assumption | omega)) only [LIT, LITm, nI_add, n_mul, fa_or, n_31m, n_shl0, n_le, n_lt, n_eq, Option.bind_some, B_m hn, B_mb hn, B_mc hn, wI_ne, p13, k9, g2, Bool.toNat_true, Nat.reduceEqDiff, Nat.reduceLeDiff, not_false_eq_true, show ¬ T 0 1 ≤ i by omega, ↓reduceIte]
      · rw [wI_at, upd_at, rk_s, ek, if_pos rfl]
      · rw [wI_ne (by omega), wI_at]
        by_cases q : p = i
        · rw [q, upd_at]
        · rw [upd_ne (fun e => q (rk_inj hk ek e))]
          exact g3 p (by omega) hk
  · rintro f s1 ⟨g1, g2, g3⟩
    have hT1 : mTd s1.1 T := mTd_T g1.1 hT
    have p13 : s1.1 187 13 = nI (T 0 1) := hT1.1.2.1
    have e0 : fX11_layGame_8 n (f + 1) (mk s1) 187 (nI a) (nI c) (nI b0.toNat) (nI (T 0 1)) = fX11_layGame_68 n bi_K (mk s1) 187 (nI a) (nI c) (nI b0.toNat) (idV (3 ^ rk K (T 0 1)) 0) := by
      show fX11_layGame_8b n (fX11_layGame_8 n f) (mk s1) 187 (nI a) (nI c) (nI b0.toNat) (nI (T 0 1)) = _
      unfold fX11_layGame_8b
      have pw := m_power (n := n) (h := mk s1) rle
      simp (disch := first | omega | assumption | (simp only [wL_1, wL_22, wI_2, wA_2, wQ_1, wQ_21] <;> first | assumption | omega)) only [LIT, LITm, nI_add, n_mul, fa_or, n_31m, n_shl0, n_le, n_lt, n_eq, Option.bind_some, B_m hn, p13, g2, pw, id_0, Nat.le_refl, ↓reduceIte]
    show ∃ s2 : zS, fX11_layGame_8 n (f + 1) (mk s1) 187 (nI a) (nI c) (nI b0.toNat) (nI (T 0 1)) = _ ∧ _
    rw [e0]
    refine lp_up (F := fun f (s2 : zS) j => fX11_layGame_68 n f (mk s2) 187 (nI a) (nI c) (nI b0.toNat) (idV (3 ^ rk K (T 0 1)) j)) (N := 3 ^ rk K (T 0 1)) (P := fun j s2 => frT s s2 ∧ koH s2 K (T 0 1) ∧ ∀ d, 3 ^ rk K (T 0 1) - j ≤ d → d < 3 ^ rk K (T 0 1) → ∀ t' s', posM K (T 0 1) d t' s' → s2.1 232 d = nI (gmW T a c K b0 t' s').toNat) (Q := fun r => ∃ s1 : zS, r = some ((), mk s1) ∧ frT s s1 ∧ koH s1 K (T 0 1) ∧ ∀ d, d < 3 ^ rk K (T 0 1) → ∀ t' s', posM K (T 0 1) d t' s' → s1.1 232 d = nI (gmW T a c K b0 t' s').toNat) ?_ ?_ (3 ^ rk K (T 0 1)) bi_K s1 0 (by omega) (by unfold bi_K; omega) ⟨g1, ⟨g2, g3⟩, fun d h1 h2 => by omega⟩
    · rintro f s2 j hj ⟨q1, q2, q3⟩
      left
      obtain ⟨code, ec⟩ : ∃ code, code = 3 ^ rk K (T 0 1) - 1 - j := ⟨_, rfl⟩
      have hT2 : mTd s2.1 T := mTd_T q1.1 hT
      have is := id_s hj
      rw [← ec] at is
      obtain ⟨r, r1, r2⟩ := m_lg79 (r68 := fX11_layGame_68 n f) (b0 := b0) hn hW hT2 hK q2 (code := code) (by omega) ha hcc (fun d h1 h2 => q3 d (by omega) h2)
      have lt0 : (nI code < nI 0) = False := n_lt0 (by omega)
      refine ⟨wI s2 232 code (nI r.toNat), ?_, frT_t q1 (frT_w (by unfold scM; omega)), ⟨by rw [wI_ne (by omega)]; exact q2.1, fun p hp hk => by rw [wI_ne (by omega)]; exact q2.2 p hp hk⟩, fun d h1 h2 t' s' hp => ?_⟩
      · have e1 : fX11_layGame_68 n (f + 1) (mk s2) 187 (nI a) (nI c) (nI b0.toNat) (idV (3 ^ rk K (T 0 1)) j) = fX11_layGame_68b n (fX11_layGame_68 n f) (mk s2) 187 (nI a) (nI c) (nI b0.toNat) (nI code) := by
          unfold idV
          rw [if_pos hj, ← ec]
          rfl
        show fX11_layGame_68 n (f + 1) (mk s2) 187 (nI a) (nI c) (nI b0.toNat) (idV (3 ^ rk K (T 0 1)) j) = _
        rw [e1, ← is, ← r2]
        unfold fX11_layGame_68b
        simp (disch := first | omega | assumption | (simp only [wL_1, wL_22, wI_2, wA_2, wQ_1, wQ_21] <;> first | assumption | omega)) only [LIT, LITm, nI_add, n_mul, fa_or, n_31m, n_shl0, n_le, n_lt, n_eq, Option.bind_some, lt0, if_false, ↓reduceIte]
      · rw [wI_at]
        by_cases q : d = code
        · rw [q, upd_at, r1 t' s' (by rw [← q]; exact hp)]
        · rw [upd_ne q]
          exact q3 d (by omega) h2 t' s' hp
    · rintro f s2 ⟨q1, q2, q3⟩
      refine ⟨s2, ?_, q1, q2, fun d hd => q3 d (by omega) hd⟩
      show fX11_layGame_68b n (fX11_layGame_68 n f) (mk s2) 187 (nI a) (nI c) (nI b0.toNat) (idV (3 ^ rk K (T 0 1)) (3 ^ rk K (T 0 1))) = _
      unfold fX11_layGame_68b idV
      rw [if_neg (Nat.lt_irrefl _)]
      simp (disch := first | omega | assumption | (simp only [wL_1, wL_22, wI_2, wA_2, wQ_1, wQ_21] <;> first | assumption | omega)) only [LIT, LITm, nI_add, n_mul, fa_or, n_31m, n_shl0, n_le, n_lt, n_eq, Option.bind_some, n_m1lt, if_true, ↓reduceIte]
theorem fsV_p {f : Nat → Bool} : ∀ k i, i ≤ p → p < i + k → f p = true → (∀ q, i ≤ q → q < p → f q = false) → fsV f k i = nI p
  | 0, i, h1, h2, _, _ => by omega
  | k + 1, i, h1, h2, h3, h4 => by
    show (if f i = true then nI i else fsV f k (i + 1)) = nI p
    by_cases q : i = p
    · rw [q, if_pos h3]
    · rw [h4 i (Nat.le_refl _) (by omega), if_neg Bool.false_ne_true]
      exact fsV_p k (i + 1) (by omega) (by omega) h3 (fun q' g1 g2 => h4 q' (by omega) g2)
theorem fsV_n {f : Nat → Bool} : ∀ k i, (∀ q, i ≤ q → q < i + k → f q = false) → fsV f k i = m2
  | 0, i, _ => rfl
  | k + 1, i, h => by
    show (if f i = true then nI i else fsV f k (i + 1)) = m2
    rw [h i (Nat.le_refl _) (by omega), if_neg Bool.false_ne_true]
    exact fsV_n k (i + 1) (fun q g1 g2 => h q (by omega) (by omega))
/-- the answer of the game -/
def gamV (T : zT) (S : zD) (a c : Nat) (b e : Bool) : Int32 := if e = true then fsV (gmB S.2.2.2.1 (ledB T a c) b) 9 0 else nI (wn S.2.2.2.1 (ledB T a c) (fcV S.2.2.2.1 0 0) 0 0 b).toNat
def gamOk (T : zT) (x y z w : Int32) : Prop := inR x (T 0 0) = true ∧ inR y (T 0 0) = true ∧ x ≠ y ∧ wiV 0 z 1 = true ∧ wiV 0 w 1 = true
theorem posM_0 (hK : K < 2 ^ P) : posM K P 0 0 0 := ⟨Nat.pow_pos (by decide), fun i h => (by rw [Nat.zero_testBit] at h; cases h), fun i h => (by rw [Nat.zero_testBit] at h; cases h), fun p _ => ⟨by
  rw [Nat.zero_testBit, if_neg Bool.false_ne_true, if_neg Bool.false_ne_true]
  unfold dg
  rw [Nat.zero_div], fun h => by rw [Nat.zero_testBit] at h; cases h.1⟩⟩
theorem m_game (hn : 239 ≤ n) (hK : mK s A) (hA : wfA A) : (∀ a c (b e : Bool), a < aT A 0 0 → c < aT A 0 0 → a ≠ c → ∃ s' : zS, fX11_game n (mk s) 187 (nI a) (nI c) (nI b.toNat) (nI e.toNat) = some (gamV (aT A) (aS A) a c b e, mk s') ∧ frT s s') ∧ (¬ gamOk (aT A) x y z w → ∃ s' : zS, fX11_game n (mk s) 187 x y z w = some (m1, mk s') ∧ frT s s') := by
  have hW := hA.1
  have h0 := hW.1
  have ft := m_th s
  have hKt := mK_T hW hK ft
  obtain ⟨sa, ea⟩ : ∃ sa : zS, sa = wI s 187 2 (nI 0) := ⟨_, rfl⟩
  rw [← ea] at hKt ft
  obtain ⟨k1, k2, -⟩ := hKt
  have hP := fun y => m_isPlace hn k1 (x := y)
  refine ⟨fun a c b e ha hc ne => ?_, fun h => ?_⟩
  · obtain ⟨s1, e1, f1, ko, hI⟩ := m_layGame (b0 := b) (a := a) (c := c) hn hW k1 k2 hA.2.1 (by omega) (by omega)
    have hKp := hA.2.1.2.1
    obtain ⟨K, eK⟩ : ∃ K, K = (aS A).2.2.2.1 := ⟨_, rfl⟩
    rw [← eK] at ko hI hKp
    have rle : rk K (aT A 0 1) ≤ 9 := Nat.le_trans (fb_ct_le _ _) h0.2.1
    have p9 := p3_le rle
    have pp : 0 < 3 ^ rk K (aT A 0 1) := Nat.pow_pos (by decide)
    have nab : (nI a = nI c) = False := by rw [n_eq (by omega) (by omega)]; simp [ne]
    refine ⟨s1, ?_, frT_t ft f1⟩
    unfold fX11_game gamV
    rw [← eK]
    have bl := Bool.toNat_le b
    have el := Bool.toNat_le e
    cases e with
    | false =>
      have c0 := hI 0 pp 0 0 (posM_0 hKp)
      unfold gmW at c0
      rw [trn_0] at c0
      rw [if_neg Bool.false_ne_true]
      cases er : wn K (ledB (aT A) a c) (fcV K 0 0) 0 0 b with
      | true =>
        rw [er] at c0
        simp (disch := first | omega | assumption | (simp only [wL_1, wL_22, wI_2, wA_2, wQ_1, wQ_21] <;> first | assumption | omega)) only [LIT, LITm, nI_add, n_mul, fa_or, n_31m, n_shl0, n_le, n_lt, n_eq, Option.bind_some, B_m hn, B_mc hn, ← ea, hP, inR_n ha (by omega), inR_n hc (by omega), nab, m_within, wiV_n, e1, c0, Bool.toNat_true, Bool.toNat_false, Nat.reduceEqDiff, Nat.reduceLeDiff, if_false, not_true_eq_false, not_false_eq_true, ↓reduceIte]
      | false =>
        rw [er] at c0
        simp (disch := first | omega | assumption | (simp only [wL_1, wL_22, wI_2, wA_2, wQ_1, wQ_21] <;> first | assumption | omega)) only [LIT, LITm, nI_add, n_mul, fa_or, n_31m, n_shl0, n_le, n_lt, n_eq, Option.bind_some, B_m hn, B_mc hn, ← ea, hP, inR_n ha (by omega), inR_n hc (by omega), nab, m_within, wiV_n, e1, c0, Bool.toNat_true, Bool.toNat_false, Nat.reduceEqDiff, Nat.reduceLeDiff, if_false, not_true_eq_false, not_false_eq_true, ↓reduceIte]
    | true =>
      rw [if_pos rfl]
      have d0 : ∀ i, dg 0 i = 0 := fun i => by unfold dg; rw [Nat.zero_div]
      obtain ⟨val, ev⟩ : ∃ val : Nat → Bool, ∀ p, K.testBit p = true → p < aT A 0 1 → val (rk K p) = wn K (ledB (aT A) a c) (fcV K (mvT b 0 p) (mvS b 0 p)) (mvT b 0 p) (mvS b 0 p) (!b) := by
        refine ⟨fun i => anB (fun p => K.testBit p && (decide (rk K p = i) && wn K (ledB (aT A) a c) (fcV K (mvT b 0 p) (mvS b 0 p)) (mvT b 0 p) (mvS b 0 p) (!b))) (aT A 0 1), fun p hk hP => ?_⟩
        cases e : wn K (ledB (aT A) a c) (fcV K (mvT b 0 p) (mvS b 0 p)) (mvT b 0 p) (mvS b 0 p) (!b) with
        | true =>
          refine anB_iff.mpr ⟨p, hP, ?_⟩
          rw [hk, decide_eq_true rfl, e]
          rfl
        | false =>
          refine bF (fun g => ?_)
          obtain ⟨p', g1, g2⟩ := anB_iff.mp g
          obtain ⟨g3, g4⟩ := (Bool.and_eq_true _ _).mp g2
          obtain ⟨g5, g6⟩ := (Bool.and_eq_true _ _).mp g4
          have := rk_inj g3 hk (of_decide_eq_true g5)
          rw [this, e] at g6
          cases g6
      obtain ⟨o, o1, o2, o3⟩ := m_winsBy (n := n) (b := b) (s := s1) (val := val) (code := 0) hn rle pp ko.1 (fun i hi hd => by
        obtain ⟨p, p1, p2, p3⟩ := rk_of hi
        rw [← p3]
        have hfr : frB' K 0 0 p = true := by rw [fr_0]; exact p2
        have pm := posM_mv (b := b) (posM_0 hKp) p2 p1 (d0 _)
        have tm := trn_mv (b := b) (b0 := b) (show p < 9 by omega) hfr
        rw [trn_0] at tm
        have hcell := hI _ pm.1 _ _ pm
        rw [hcell]
        unfold gmW
        rw [tm, ev p p2 p1])
      have gB : ∀ p, gmB K (ledB (aT A) a c) b p = true ↔ K.testBit p = true ∧ val (rk K p) = b := fun p => by
        unfold gmB
        rw [Bool.and_eq_true]
        constructor
        · rintro ⟨g1, g2⟩
          refine ⟨g1, ?_⟩
          rw [ev p g1 (tb_P hKp g1)]
          exact eq_of_beq g2
        · rintro ⟨g1, g2⟩
          refine ⟨g1, ?_⟩
          rw [← ev p g1 (tb_P hKp g1), g2]
          cases b <;> rfl
      cases o with
      | none =>
        have fs : fsV (gmB K (ledB (aT A) a c) b) 9 0 = m2 := fsV_n 9 0 (fun q _ _ => bF (fun g => by
          obtain ⟨g1, g2⟩ := (gB q).mp g
          exact o1 rfl _ (rk_lt g1 (tb_P hKp g1)) (d0 _) g2))
        rw [fs]
        have o3' : fX11_winsBy n (mk s1) 187 (nI 0) (nI b.toNat) = some (m1, mk s1) := o3
        simp (disch := first | omega | assumption | (simp only [wL_1, wL_22, wI_2, wA_2, wQ_1, wQ_21] <;> first | assumption | omega)) only [LIT, LITm, nI_add, n_mul, fa_or, n_31m, n_shl0, n_le, n_lt, n_eq, Option.bind_some, B_m hn, B_mc hn, ← ea, hP, inR_n ha (by omega), inR_n hc (by omega), nab, m_within, wiV_n, e1, o3', n_m1le0, Bool.toNat_true, Bool.toNat_false, Nat.reduceEqDiff, Nat.reduceLeDiff, if_false, not_true_eq_false, not_false_eq_true, ↓reduceIte]
      | some i =>
        obtain ⟨i1, -, i3, i4⟩ := o2 i rfl
        obtain ⟨p, p1, p2, p3⟩ := rk_of i1
        rw [← p3] at i3 i4
        have fs : fsV (gmB K (ledB (aT A) a c) b) 9 0 = nI p := fsV_p 9 0 (by omega) (by omega) ((gB p).mpr ⟨p2, i3⟩) (fun q _ hq => bF (fun g => by
          obtain ⟨g1, g2⟩ := (gB q).mp g
          exact i4 _ (rk_lt g1 hq) (d0 _) g2))
        rw [fs]
        have kp : s1.1 231 i = nI p := by rw [← p3]; exact ko.2 p p1 p2
        have o3' : fX11_winsBy n (mk s1) 187 (nI 0) (nI b.toNat) = some (nI i, mk s1) := o3
        simp (disch := first | omega | assumption | (simp only [wL_1, wL_22, wI_2, wA_2, wQ_1, wQ_21] <;> first | assumption | omega)) only [LIT, LITm, nI_add, n_mul, fa_or, n_31m, n_shl0, n_le, n_lt, n_eq, Option.bind_some, B_m hn, B_mc hn, ← ea, hP, inR_n ha (by omega), inR_n hc (by omega), nab, m_within, wiV_n, e1, o3', kp, Nat.zero_le, Bool.toNat_true, Bool.toNat_false, Nat.reduceEqDiff, Nat.reduceLeDiff, if_false, not_true_eq_false, not_false_eq_true, ↓reduceIte]
  · refine ⟨sa, ?_, ft⟩
    unfold fX11_game
    cases g : inR x (aT A 0 0) with
    | false => simp (disch := first | omega | assumption | (simp only [wL_1, wL_22, wI_2, wA_2, wQ_1, wQ_21] <;> first | assumption | omega)) only [LIT, LITm, nI_add, n_mul, fa_or, n_31m, n_shl0, n_le, n_lt, n_eq, Option.bind_some, B_m hn, ← ea, hP, g, Bool.toNat_false, ↓reduceIte]
    | true =>
      cases g1 : inR y (aT A 0 0) with
      | false => simp (disch := first | omega | assumption | (simp only [wL_1, wL_22, wI_2, wA_2, wQ_1, wQ_21] <;> first | assumption | omega)) only [LIT, LITm, nI_add, n_mul, fa_or, n_31m, n_shl0, n_le, n_lt, n_eq, Option.bind_some, B_m hn, ← ea, hP, g, g1, Bool.toNat_true, Bool.toNat_false, Nat.reduceEqDiff, Nat.reduceLeDiff, ↓reduceIte]
      | true =>
        by_cases g2 : x = y
        · simp (disch := first | omega | assumption | (simp only [wL_1, wL_22, wI_2, wA_2, wQ_1, wQ_21] <;> first | assumption | omega)) only [LIT, LITm, nI_add, n_mul, fa_or, n_31m, n_shl0, n_le, n_lt, n_eq, Option.bind_some, B_m hn, ← ea, hP, g, g1, g2, Bool.toNat_true, Nat.reduceEqDiff, Nat.reduceLeDiff, ↓reduceIte]
        · cases g3 : wiV 0 z 1 with
          | false => simp (disch := first | omega | assumption | (simp only [wL_1, wL_22, wI_2, wA_2, wQ_1, wQ_21] <;> first | assumption | omega)) only [LIT, LITm, nI_add, n_mul, fa_or, n_31m, n_shl0, n_le, n_lt, n_eq, Option.bind_some, B_m hn, ← ea, hP, g, g1, g2, m_within, g3, Bool.toNat_true, Bool.toNat_false, Nat.reduceEqDiff, Nat.reduceLeDiff, ↓reduceIte]
          | true =>
            have g4 : wiV 0 w 1 = false := bF (fun q => h ⟨g, g1, g2, g3, q⟩)
            simp (disch := first | omega | assumption | (simp only [wL_1, wL_22, wI_2, wA_2, wQ_1, wQ_21] <;> first | assumption | omega)) only [LIT, LITm, nI_add, n_mul, fa_or, n_31m, n_shl0, n_le, n_lt, n_eq, Option.bind_some, B_m hn, ← ea, hP, g, g1, g2, m_within, g3, g4, Bool.toNat_true, Bool.toNat_false, Nat.reduceEqDiff, Nat.reduceLeDiff, not_true_eq_false, ↓reduceIte]
end Mi
