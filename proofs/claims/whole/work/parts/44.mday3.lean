/-! ===== a whole day, by the reference ===== -/
theorem n_nxL (m : Nat) : (lN m * (1103515245 : Int64) + (12345 : Int64)) &&& (2147483647 : Int64) = lN (nxV m) := by
  show (lN m * lN 1103515245 + lN 12345) &&& lN (2 ^ 31 - 1) = _
  rw [lN_mul, lN_add, fb_maskL]
  rfl
theorem n_dJ {a d : Nat} (ha : a < 2147483648) (h0 : 0 < d) (hd : d < 2147483648) : dJ (lN a) (lN d) = some (lN (a / d)) := by
  unfold dJ
  rw [if_neg (fun h => by have := (lN_eq (b := 0) (by omega) (by omega)).mp h; omega), pk_lDiv (by omega) h0 (by omega)]
theorem n_rJ {a d : Nat} (ha : a < 2147483648) (h0 : 0 < d) (hd : d < 2147483648) : rJ (lN a) (lN d) = some (lN (a % d)) := by
  unfold rJ
  rw [if_neg (fun h => by have := (lN_eq (b := 0) (by omega) (by omega)).mp h; omega), pk_lRem (by omega) h0 (by omega)]
section Mx
variable {n b p w : Nat} {s : zS} {T : zT} {O : zO} {S : zD}
theorem canV_c {c : Nat} (h : canV T O S w p = some c) : c = cstV T S p (O.2.2.2.2.2 w) (S.2.2.1 1 w) := by
  unfold canV at h
  split at h
  · exact (Option.some.inj h).symm
  · cases h
theorem m_goes (hn : 239 ≤ n) (hW : WT T) (hT : mTd s.1 T) (hO : mOd s.1 T O) (hS : mSd s b T O S) (hwO : wO T O) (hD : wD T S) (hb : b ≤ 1) (hp : p < T 0 1) (hw : w < T 0 2) {c : Nat} (hc : canV T O S w p = some c) : ∃ s' : zS, fX11_goes n (mk s) 187 (nI b) (nI p) (nI w) = some ((), mk s') ∧ frY b O s s' ∧ mSd s' b T O (goV T S w p c) := by
  have hp' := WT_p hW hp
  have hw' := WT_w hW hw
  have h0 := hW.1
  have a2 := hD.2.2.1 w hw
  have a3 := hD.2.2.2 p hp
  have hcl := canV_le hc
  have hcc := canV_c hc
  obtain ⟨sa, ea, fa⟩ := m_cost hn hW hT hO hS hwO hD hb hp hw
  rw [← hcc] at ea
  have hSa := mSd_Q fa hS
  have hTa := mTd_Q fa hT
  have r17 := (hS.2.2 w hw).2
  obtain ⟨⟨s1, s2, s3, s4⟩, s5, s6⟩ := hSa
  obtain ⟨q1, q2, q3⟩ := s5 p hp
  obtain ⟨q4, q5⟩ := s6 w hw
  have t3 := (MTp T).2.2.2.2.2.2.2.2.2.1 sa p hTa hp
  have t4 := (MTp T).2.2.2.2.2.2.2.2.2.2.1 sa p hTa hp
  refine ⟨wI (wI (wI (wI (wI sa 220 (4 * b + w) (nI (S.2.2.1 1 w - c))) 219 (4 * b + w) (nI (if S.2.2.1 0 w = T 3 p then T 4 p else T 3 p))) 221 (9 * b + p) (nI 0)) 223 (9 * b + p) (nI (if S.2.2.1 2 p < 999 then S.2.2.1 2 p + 1 else 999))) 224 b (S.1 1 + nI 1), ?_, ?_, ?_⟩
  · unfold fX11_goes fX11_goes_63 fX11_goes_122
    by_cases h : S.2.2.1 0 w = T 3 p
    · by_cases g : S.2.2.1 2 p < 999
      · simp (disch := first | omega | assumption | (simp only [wL_1, wL_22, wI_2, wA_2, wQ_1, wQ_21] <;> first | assumption | omega)) only [LIT, LITm, nI_add, n_mul, fa_or, n_31m, n_shl0, n_le, n_lt, n_eq, Option.bind_some, B_m hn, B_ma hn, B_mb hn, ea, r17, q3, q4, q5, s2, t3, t4, n_sub, wI_ne, h, g, show ¬ 999 ≤ S.2.2.1 2 p by omega, not_true_eq_false, ↓reduceIte]
      · simp (disch := first | omega | assumption | (simp only [wL_1, wL_22, wI_2, wA_2, wQ_1, wQ_21] <;> first | assumption | omega)) only [LIT, LITm, nI_add, n_mul, fa_or, n_31m, n_shl0, n_le, n_lt, n_eq, Option.bind_some, B_m hn, B_ma hn, B_mb hn, ea, r17, q3, q4, q5, s2, t3, t4, n_sub, wI_ne, h, g, show 999 ≤ S.2.2.1 2 p by omega, not_true_eq_false, ↓reduceIte]
    · by_cases g : S.2.2.1 2 p < 999
      · simp (disch := first | omega | assumption | (simp only [wL_1, wL_22, wI_2, wA_2, wQ_1, wQ_21] <;> first | assumption | omega)) only [LIT, LITm, nI_add, n_mul, fa_or, n_31m, n_shl0, n_le, n_lt, n_eq, Option.bind_some, B_m hn, B_ma hn, B_mb hn, ea, r17, q3, q4, q5, s2, t3, t4, n_sub, wI_ne, h, g, show ¬ 999 ≤ S.2.2.1 2 p by omega, not_false_eq_true, ↓reduceIte]
      · simp (disch := first | omega | assumption | (simp only [wL_1, wL_22, wI_2, wA_2, wQ_1, wQ_21] <;> first | assumption | omega)) only [LIT, LITm, nI_add, n_mul, fa_or, n_31m, n_shl0, n_le, n_lt, n_eq, Option.bind_some, B_m hn, B_ma hn, B_mb hn, ea, r17, q3, q4, q5, s2, t3, t4, n_sub, wI_ne, h, g, show 999 ≤ S.2.2.1 2 p by omega, not_false_eq_true, ↓reduceIte]
  · refine frY_t (frQ_Y fa) (frY_t (frY_w (by unfold hfM; omega)) (frY_t (frY_w (by unfold hfM; omega)) (frY_t (frY_w (by unfold hfM; omega)) (frY_t (frY_w (by unfold hfM; omega)) (frY_w (by unfold hfM; omega))))))
  · refine ⟨⟨?_, ?_, fun g => ?_, fun g => ?_⟩, fun q hq => ⟨?_, ?_, ?_⟩, fun v hv => ⟨?_, ?_⟩⟩
    · simp (disch := omega) only [goV, wI_ne, upd_ne, s1]
    · simp (disch := omega) only [goV, wI_at, upd_at]
      rfl
    · simp (disch := omega) only [goV, wI_ne, upd_ne, s3 g]
    · exact s4 g
    · by_cases e : q = p
      · subst e
        simp (disch := omega) only [goV, wI_at, wI_ne, upd_at]
        rfl
      · simp (disch := omega) only [goV, wI_at, wI_ne, upd_ne, (s5 q hq).1]
    · simp (disch := omega) only [goV, wI_ne, (s5 q hq).2.1]
    · by_cases e : q = p
      · subst e
        simp (disch := omega) only [goV, wI_at, wI_ne, upd_at, up2_g, and_self, ↓reduceIte]
      · simp (disch := omega) only [goV, wI_at, wI_ne, upd_ne, (s5 q hq).2.2, up2_g, e, and_false, false_and, Nat.reduceEqDiff, Nat.reduceLeDiff, ↓reduceIte]
    · by_cases e : v = w
      · subst e
        simp (disch := omega) only [goV, wI_at, wI_ne, upd_at, up2_g, and_self, false_and, Nat.reduceEqDiff, Nat.reduceLeDiff, ↓reduceIte]
      · simp (disch := omega) only [goV, wI_at, wI_ne, upd_ne, (s6 v hv).1, up2_g, e, and_false, false_and, Nat.reduceEqDiff, Nat.reduceLeDiff, ↓reduceIte]
    · by_cases e : v = w
      · subst e
        simp (disch := omega) only [goV, wI_at, wI_ne, upd_at, up2_g, and_self, false_and, Nat.reduceEqDiff, Nat.reduceLeDiff, ↓reduceIte]
      · simp (disch := omega) only [goV, wI_at, wI_ne, upd_ne, (s6 v hv).2, up2_g, e, and_false, false_and, Nat.reduceEqDiff, Nat.reduceLeDiff, ↓reduceIte]
theorem m_snow (hn : 239 ≤ n) (hW : WT T) (hT : mTd s.1 T) (hO : mOd s.1 T O) (hS : mSd s b T O S) (hwO : wO T O) {bb : Bool} {m : Nat} (e : snV T O S.2.2.2.2 = (bb, m)) : ∃ s' : zS, fX11_isSnow n (mk s) 187 = some (nI bb.toNat, mk s') ∧ frY b O s s' ∧ mSd s' b T O (S.1, S.2.1, S.2.2.1, S.2.2.2.1, m) := by
  have h7 := hW.2.1.2.2.2.1
  have hO1 := hwO.1
  obtain ⟨⟨o1, o2, -, -⟩, -, -⟩ := hO
  have hS' := hS
  obtain ⟨⟨s1, s2, s3, s4⟩, s5, s6⟩ := hS
  have t7 := (MTp T).2.2.2.2.2.2.2.1 s hT
  unfold snV at e
  by_cases g1 : O.1 = 2
  · rw [if_pos (Or.inl g1)] at e
    cases e
    rw [decide_eq_true g1] at o2
    refine ⟨s, ?_, frY_r, hS'⟩
    unfold fX11_isSnow
    rw [bnd_s (v := ()) (by simp only [B_m hn]), bnd_s (v := nI 1) (by simp only [B_m hn, o2, Bool.toNat_true]), if_pos (by decide)]
    rfl
  · rw [decide_eq_false g1] at o2
    by_cases g2 : T 0 7 = 0
    · rw [if_pos (Or.inr g2)] at e
      cases e
      refine ⟨s, ?_, frY_r, hS'⟩
      unfold fX11_isSnow
      rw [bnd_s (v := ()) (by simp only [B_m hn]), bnd_s (v := nI 0) (by simp only [B_m hn, o2, Bool.toNat_false]), if_neg (by decide), bnd_s (v := 191) (by simp only [B_m hn]), bnd_s (v := nI (T 0 7)) (by simp (disch := first | omega | assumption | (simp only [wL_1, wL_22, wI_2, wA_2, wQ_1, wQ_21] <;> first | assumption | omega)) only [LIT, B_ma hn, t7]), if_neg (by rw [g2]; decide)]
      rfl
    · rw [if_neg (fun h => h.elim g1 g2)] at e
      have d0 : ¬ nI (T 0 7) = 0 := fun h => g2 ((nI_eq (b := 0) (by omega) (by omega)).mp h)
      by_cases g4 : T 0 7 = 100
      · rw [if_pos (Or.inr g4)] at e
        cases e
        refine ⟨s, ?_, frY_r, hS'⟩
        unfold fX11_isSnow
        rw [bnd_s (v := ()) (by simp only [B_m hn]), bnd_s (v := nI 0) (by simp only [B_m hn, o2, Bool.toNat_false]), if_neg (by decide), bnd_s (v := 191) (by simp only [B_m hn]), bnd_s (v := nI (T 0 7)) (by simp (disch := first | omega | assumption | (simp only [wL_1, wL_22, wI_2, wA_2, wQ_1, wQ_21] <;> first | assumption | omega)) only [LIT, B_ma hn, t7]), if_pos d0, bnd_s (v := 191) (by simp only [B_m hn]), bnd_s (v := nI (T 0 7)) (by simp (disch := first | omega | assumption | (simp only [wL_1, wL_22, wI_2, wA_2, wQ_1, wQ_21] <;> first | assumption | omega)) only [LIT, B_ma hn, t7]), if_neg (by rw [g4]; decide), g4]
        rfl
      · have d100 : ¬ nI (T 0 7) = (100 : Int32) := fun h => g4 ((nI_eq (b := 100) (by omega) (by omega)).mp h)
        by_cases g3 : O.1 = 1
        · rw [if_pos (Or.inl g3)] at e
          cases e
          rw [decide_eq_false (by omega)] at o1
          refine ⟨s, ?_, frY_r, hS'⟩
          unfold fX11_isSnow
          rw [bnd_s (v := ()) (by simp only [B_m hn]), bnd_s (v := nI 0) (by simp only [B_m hn, o2, Bool.toNat_false]), if_neg (by decide), bnd_s (v := 191) (by simp only [B_m hn]), bnd_s (v := nI (T 0 7)) (by simp (disch := first | omega | assumption | (simp only [wL_1, wL_22, wI_2, wA_2, wQ_1, wQ_21] <;> first | assumption | omega)) only [LIT, B_ma hn, t7]), if_pos d0, bnd_s (v := 191) (by simp only [B_m hn]), bnd_s (v := nI (T 0 7)) (by simp (disch := first | omega | assumption | (simp only [wL_1, wL_22, wI_2, wA_2, wQ_1, wQ_21] <;> first | assumption | omega)) only [LIT, B_ma hn, t7]), if_pos d100, bnd_s (v := nI 0) (by simp only [B_m hn, o1, Bool.toNat_false]), if_pos (by decide), bnd_s (v := 191) (by simp only [B_m hn]), bnd_s (v := nI (T 0 7)) (by simp (disch := first | omega | assumption | (simp only [wL_1, wL_22, wI_2, wA_2, wQ_1, wQ_21] <;> first | assumption | omega)) only [LIT, B_ma hn, t7])]
          exact c_snow36 (n := n) h7
        · rw [if_neg (fun h => h.elim g3 g4)] at e
          have g0 : O.1 = 0 := by omega
          rw [decide_eq_true g0] at o1
          have nx := n_nxL S.2.2.2.2
          have hx := nxV_lt S.2.2.2.2
          obtain ⟨hb, hm⟩ := Prod.mk.inj e
          rw [hm] at nx hx hb
          clear e hm
          have hx2 : m / 65536 < 2147483648 := by omega
          have hx3 : m / 65536 % 100 < 2147483648 := by omega
          have hdJ : dJ (lN m) (65536 : Int64) = some (lN (m / 65536)) := n_dJ (d := 65536) hx (by omega) (by omega)
          have hrJ : rJ (lN (m / 65536)) (100 : Int32).toInt64 = some (lN (m / 65536 % 100)) := n_rJ (d := 100) hx2 (by omega) (by omega)
          have hnum : fX11_number1 n (mk s) 187 (100 : Int32) = some (nI (m / 65536 % 100), mk (wL s 187 68 (lN m))) := by
            unfold fX11_number1
            rw [bnd_s (v := ()) (by simp only [B_m hn]), bnd_s (v := lN S.2.2.2.2) (by simp only [B_m hn, s4 g0]), nx, bnd_s (v := mk (wL s 187 68 (lN m))) (by simp only [B_m hn]), bnd_s (v := lN m) (by simp only [B_m hn, wL_at, updL_at]), hdJ, Option.bind_some, hrJ, Option.bind_some, lN_i]
          have t7' := (MTp T).2.2.2.2.2.2.2.1 (wL s 187 68 (lN m)) hT
          refine ⟨wL s 187 68 (lN m), ?_, ⟨rfl, fun _ _ _ _ => rfl, fun a j h1 h2 h3 => ?_, fun h => absurd g0 h⟩, ⟨s1, s2, s3, fun _ => ?_⟩, s5, s6⟩
          · unfold fX11_isSnow
            rw [bnd_s (v := ()) (by simp only [B_m hn]), bnd_s (v := nI 0) (by simp only [B_m hn, o2, Bool.toNat_false]), if_neg (by decide), bnd_s (v := 191) (by simp only [B_m hn]), bnd_s (v := nI (T 0 7)) (by simp (disch := first | omega | assumption | (simp only [wL_1, wL_22, wI_2, wA_2, wQ_1, wQ_21] <;> first | assumption | omega)) only [LIT, B_ma hn, t7]), if_pos d0, bnd_s (v := 191) (by simp only [B_m hn]), bnd_s (v := nI (T 0 7)) (by simp (disch := first | omega | assumption | (simp only [wL_1, wL_22, wI_2, wA_2, wQ_1, wQ_21] <;> first | assumption | omega)) only [LIT, B_ma hn, t7]), if_pos d100, bnd_s (v := nI 1) (by simp only [B_m hn, o1, Bool.toNat_true]), if_neg (by decide), hnum, Option.bind_some, bnd_s (v := 191) (by simp only [B_m hn]), bnd_s (v := nI (T 0 7)) (by simp (disch := first | omega | assumption | (simp only [wL_1, wL_22, wI_2, wA_2, wQ_1, wQ_21] <;> first | assumption | omega)) only [LIT, B_ma hn, t7'])]
            by_cases g5 : T 0 7 ≤ m / 65536 % 100
            · rw [if_pos ((nI_leI (by omega) hx3).mpr g5), ← hb, decide_eq_false (by omega)]
              rfl
            · rw [if_neg (fun h => g5 ((nI_leI (by omega) hx3).mp h)), ← hb, decide_eq_true (by omega)]
              rfl
          · rw [wL_g, if_neg h3]
          · rw [wL_at, updL_at]
theorem m_term (hn : 239 ≤ n) (hW : WT T) (hT : mTd s.1 T) (hO : mOd s.1 T O) (hS : mSd s b T O S) (hD : wD T S) (hb : b ≤ 1) (hp : p < T 0 1) : ∃ s' : zS, fX11_termOf n (mk s) 187 (nI b) (nI p) = some (nI (termV T O S p), mk s') ∧ frQ s s' := by
  have hp' := WT_p hW hp
  have h6 := hW.2.1
  have k := m_told hT (show 0 < 3 by omega)
  unfold termV fX11_termOf
  rcases hO.2.1 with ⟨h1, h2, h3⟩ | ⟨h1, h2, h3⟩
  · refine ⟨s, ?_, frQ_r⟩
    rw [h2, h3, if_neg (by decide)]
    simp (disch := first | omega | assumption | (simp only [wL_1, wL_22, wI_2, wA_2, wQ_1, wQ_21] <;> first | assumption | omega)) only [LIT, LITm, nI_add, n_mul, fa_or, n_31m, n_shl0, n_le, n_lt, n_eq, Option.bind_some, B_m hn, h1, Nat.reduceEqDiff, Nat.reduceLeDiff, ↓reduceIte]
  · rw [h2, h3]
    by_cases h : T 18 0 = 0
    · rw [decide_eq_false (fun g => g h)] at k ⊢
      refine ⟨s, ?_, frQ_r⟩
      rw [if_neg (by decide)]
      simp (disch := first | omega | assumption | (simp only [wL_1, wL_22, wI_2, wA_2, wQ_1, wQ_21] <;> first | assumption | omega)) only [LIT, LITm, nI_add, n_mul, fa_or, n_31m, n_shl0, n_le, n_lt, n_eq, Option.bind_some, B_m hn, B_ma hn, MTp T, h1, k, Bool.toNat_false, not_true_eq_false, ↓reduceIte]
    · rw [decide_eq_true h] at k ⊢
      rw [if_pos rfl]
      obtain ⟨sa, ea, ha, fa, hN⟩ := m_layPath hn hW hT hS hD hb hp
      have hTa : mTd sa.1 T := by rw [ha]; exact hT
      obtain ⟨sb, eb, fb, hE⟩ := m_lawOf hn hW hTa (show 0 < 3 by omega) h hN (nmV_b hW hD hp (lg := 0) (lf := 0) (by omega) (by omega))
      have hTb := mTd_Q fb hTa
      refine ⟨sb, ?_, frQ_t fa fb⟩
      cases hv : lawV T 0 (nmV T S p 0 0) with
      | none =>
        rw [hv] at eb hE
        simp (disch := first | omega | assumption | (simp only [wL_1, wL_22, wI_2, wA_2, wQ_1, wQ_21] <;> first | assumption | omega)) only [LIT, LITm, nI_add, n_mul, fa_or, n_31m, n_shl0, n_le, n_lt, n_eq, Option.bind_some, B_m hn, B_ma hn, MTp T, h1, k, ea, eb, hE, Option.isSome_none, Bool.not_false, Bool.toNat_true, Nat.reduceEqDiff, Nat.reduceLeDiff, not_false_eq_true, ↓reduceIte, Option.elim_none]
      | some v =>
        rw [hv] at eb hE
        have hc := clV_m (l := 1) (m := 9999) (v := v) (r := none) (by omega) (by omega)
        have e99 : (9999 : Int64) = lN 9999 := rfl
        have e0 : (1 : Int64) = lN 1 := rfl
        rw [← e99, ← e0] at hc
        simp (disch := first | omega | assumption | (simp only [wL_1, wL_22, wI_2, wA_2, wQ_1, wQ_21] <;> first | assumption | omega)) only [LIT, LITm, nI_add, n_mul, fa_or, n_31m, n_shl0, n_le, n_lt, n_eq, Option.bind_some, B_m hn, B_ma hn, MTp T, h1, k, ea, eb, hE, CMP, Option.isSome_some, Bool.not_true, Bool.toNat_false, Bool.toNat_true, Nat.reduceEqDiff, Nat.reduceLeDiff, not_false_eq_true, ↓reduceIte, Option.elim_some, Option.getD_some]
        by_cases c1 : (1 : Int64) ≤ v
        · rw [if_pos c1] at hc ⊢
          by_cases c2 : v ≤ (9999 : Int64)
          · rw [if_pos c2] at hc ⊢
            rw [Option.some.inj hc]
          · rw [if_neg c2] at hc ⊢
            rw [Option.some.inj hc]
        · rw [if_neg c1] at hc ⊢
          rw [Option.some.inj hc]
theorem termV_le (hwO : wO T O) : termV T O S p ≤ 9999 := by
  unfold termV
  have := hwO.2.2.1
  split
  · cases lawV T 0 (nmV T S p 0 0) with
    | none => show O.2.2.2.1 ≤ 9999; omega
    | some v => exact (clV_le (l := 1) (m := 9999) (by omega)).2
  · omega
/-- refused once more -/
theorem m_refd (hS : mSd s b T O S) : frY b O s (wI s 225 b (s.1 225 b + nI 1)) ∧ mSd (wI s 225 b (s.1 225 b + nI 1)) b T O (upd S.1 2 (S.1 2 + 1), S.2) := by
  obtain ⟨⟨s1, s2, s3, s4⟩, s5, s6⟩ := hS
  refine ⟨frY_w (by unfold hfM; omega), ⟨?_, ?_, fun g => ?_, s4⟩, fun q hq => ?_, fun v hv => ?_⟩
  · simp (disch := omega) only [wI_ne, upd_ne, s1]
  · simp (disch := omega) only [wI_ne, upd_ne, s2]
  · simp (disch := omega) only [wI_at, upd_at, s3 g]
    rfl
  · simp (disch := omega) only [wI_ne]
    exact s5 q hq
  · simp (disch := omega) only [wI_ne]
    exact s6 v hv
theorem m_day (hn : 239 ≤ n) (hW : WT T) (hT : mTd s.1 T) (hO : mOd s.1 T O) (hS : mSd s b T O S) (hwO : wO T O) (hD : wD T S) (hb : b ≤ 1) : ∃ s' : zS, fX11_dayGoes n (mk s) 187 (nI b) = some ((), mk s') ∧ frY b O s s' ∧ mSd s' b T O (dayV T O S) := by
  have h0 := hW.1
  have hlt := snV_lt (T := T) (O := O) hD.1
  unfold dayV
  obtain ⟨sn, m, e⟩ : ∃ (sn : Bool) (m : Nat), snV T O S.2.2.2.2 = (sn, m) := ⟨_, _, pr_eta _⟩
  obtain ⟨sa, ea, fA, hSa⟩ := m_snow hn hW hT hO hS hwO e
  rw [e] at hlt ⊢
  have hDa : wD T (S.1, S.2.1, S.2.2.1, S.2.2.2.1, m) := ⟨hlt, hD.2⟩
  unfold fX11_dayGoes
  simp (disch := first | omega | assumption | (simp only [wL_1, wL_22, wI_2, wA_2, wQ_1, wQ_21] <;> first | assumption | omega)) only [LIT, LITm, nI_add, n_mul, fa_or, n_31m, n_shl0, n_le, n_lt, n_eq, Option.bind_some, B_m hn, ea]
  have fin : ∀ (sx : zS) (S2 : zD), frY b O s sx → mSd sx b T O S2 → wD T S2 → ∃ s' : zS, fX11_dayGoes_188 n bi_K (mk sx) 187 (nI b) (nI 0) = some ((), mk s') ∧ frY b O s s' ∧ mSd s' b T O (upd (lpF (lfV T) (T 0 2) S2).1 0 ((lpF (lfV T) (T 0 2) S2).1 0 + 1), (lpF (lfV T) (T 0 2) S2).2) := by
    intro sx S2 fX hSx hDx
    refine lp_up (F := fun k (s1 : zS) i => fX11_dayGoes_188 n k (mk s1) 187 (nI b) (nI i)) (N := T 0 2) (P := fun i s1 => frY b O s s1 ∧ mSd s1 b T O (lpF (lfV T) i S2)) (Q := fun r => ∃ s' : zS, r = some ((), mk s') ∧ frY b O s s' ∧ mSd s' b T O (upd (lpF (lfV T) (T 0 2) S2).1 0 ((lpF (lfV T) (T 0 2) S2).1 0 + 1), (lpF (lfV T) (T 0 2) S2).2)) ?_ ?_ (T 0 2) bi_K sx 0 (by omega) (by unfold bi_K; omega) ⟨fX, hSx⟩
    · intro k sy i hi hP
      obtain ⟨fY, hSy⟩ := hP
      have hTy := mTd_Y fY hT
      have hw' := WT_w hW hi
      left
      refine ⟨wI sy 220 (4 * b + i) (nI (T 11 i)), ?_, frY_t fY (frY_w (by unfold hfM; omega)), ?_⟩
      · simp (disch := first | omega | assumption | (simp only [wL_1, wL_22, wI_2, wA_2, wQ_1, wQ_21] <;> first | assumption | omega)) only [fX11_dayGoes_188, fX11_dayGoes_188b, LIT, LITm, nI_add, n_mul, fa_or, n_31m, n_shl0, n_le, n_lt, n_eq, Option.bind_some, B_m hn, B_ma hn, B_mb hn, MTp T, show ¬ T 0 2 ≤ i by omega, ↓reduceIte]
      · show mSd _ b T O (lfV T i (lpF (lfV T) i S2))
        revert hSy
        generalize lpF (lfV T) i S2 = S3
        intro hSy
        obtain ⟨⟨s1, s2, s3, s4⟩, s5, s6⟩ := hSy
        refine ⟨⟨?_, ?_, fun g => ?_, s4⟩, fun q hq => ⟨?_, ?_, ?_⟩, fun v hv => ⟨?_, ?_⟩⟩
        · simp (disch := omega) only [wI_ne, s1, lfV]
        · simp (disch := omega) only [wI_ne, s2, lfV]
        · simp (disch := omega) only [wI_ne, s3 g, lfV]
        · simp (disch := omega) only [wI_ne, (s5 q hq).1, lfV]
        · simp (disch := omega) only [wI_ne, (s5 q hq).2.1, lfV]
        · simp (disch := omega) only [wI_ne, (s5 q hq).2.2, lfV, up2_g, Nat.reduceEqDiff, Nat.reduceLeDiff, false_and, ↓reduceIte]
        · simp (disch := omega) only [wI_ne, (s6 v hv).1, lfV, up2_g, Nat.reduceEqDiff, Nat.reduceLeDiff, false_and, ↓reduceIte]
        · by_cases e : v = i
          · subst e
            simp (disch := omega) only [wI_at, upd_at, lfV, up2_g, and_self, ↓reduceIte]
          · simp (disch := omega) only [wI_at, upd_ne, (s6 v hv).2, lfV, up2_g, e, and_false, ↓reduceIte]
    · intro k sy hP
      obtain ⟨fY, hSy⟩ := hP
      have hTy := mTd_Y fY hT
      revert hSy
      generalize lpF (lfV T) (T 0 2) S2 = S3
      intro hSy
      obtain ⟨⟨s1, s2, s3, s4⟩, s5, s6⟩ := hSy
      refine ⟨wI sy 226 b (S3.1 0 + nI 1), ?_, frY_t fY (frY_w (by unfold hfM; omega)), ⟨?_, ?_, fun g => ?_, s4⟩, fun q hq => ?_, fun v hv => ?_⟩
      · simp (disch := first | omega | assumption | (simp only [wL_1, wL_22, wI_2, wA_2, wQ_1, wQ_21] <;> first | assumption | omega)) only [fX11_dayGoes_188, fX11_dayGoes_188b, LIT, LITm, nI_add, n_mul, fa_or, n_31m, n_shl0, n_le, n_lt, n_eq, Option.bind_some, B_m hn, B_ma hn, B_mc hn, MTp T, s1, Nat.le_refl, ↓reduceIte]
      · simp (disch := omega) only [wI_at, upd_at]
        rfl
      · simp (disch := omega) only [wI_ne, upd_ne, s2]
      · simp (disch := omega) only [wI_ne, upd_ne, s3 g]
      · simp (disch := omega) only [wI_ne]
        exact s5 q hq
      · simp (disch := omega) only [wI_ne]
        exact s6 v hv
  have mid : ∀ (sx : zS) (S1 : zD), frY b O s sx → mSd sx b T O S1 → wD T S1 → ∃ s' : zS, fX11_dayGoes_108 n bi_K (mk sx) 187 (nI b) (nI 0) = some ((), mk s') ∧ frY b O s s' ∧ mSd s' b T O (upd (lpF (lfV T) (T 0 2) (lpF (grV T O) (T 0 1) S1)).1 0 ((lpF (lfV T) (T 0 2) (lpF (grV T O) (T 0 1) S1)).1 0 + 1), (lpF (lfV T) (T 0 2) (lpF (grV T O) (T 0 1) S1)).2) := by
    intro sx S1 fX hSx hDx
    refine lp_up (F := fun k (s1 : zS) i => fX11_dayGoes_108 n k (mk s1) 187 (nI b) (nI i)) (N := T 0 1) (P := fun i s1 => frY b O s s1 ∧ mSd s1 b T O (lpF (grV T O) i S1)) (Q := fun r => ∃ s' : zS, r = some ((), mk s') ∧ frY b O s s' ∧ mSd s' b T O (upd (lpF (lfV T) (T 0 2) (lpF (grV T O) (T 0 1) S1)).1 0 ((lpF (lfV T) (T 0 2) (lpF (grV T O) (T 0 1) S1)).1 0 + 1), (lpF (lfV T) (T 0 2) (lpF (grV T O) (T 0 1) S1)).2)) ?_ ?_ (T 0 1) bi_K sx 0 (by omega) (by unfold bi_K; omega) ⟨fX, hSx⟩
    · intro k sy i hi hP
      obtain ⟨fY, hSy⟩ := hP
      have hTy := mTd_Y fY hT
      have hOy := mOd_Y fY hO
      have hp' := WT_p hW hi
      have hDy : wD T (lpF (grV T O) i S1) := lpF_i (P := wD T) (fun k s hk hs => grV_w hs) hDx
      show (∃ s', _ = _ ∧ _ ∧ mSd _ b T O (grV T O i (lpF (grV T O) i S1))) ∨ _
      revert hSy hDy
      generalize lpF (grV T O) i S1 = S3
      intro hSy hDy
      have hSy' := hSy
      obtain ⟨⟨s1, s2, s3, s4⟩, s5, s6⟩ := hSy
      obtain ⟨q1, q2, q3⟩ := s5 i hi
      left
      cases g : S3.2.2.2.1.testBit i with
      | false =>
        rw [g] at q2
        refine ⟨sy, ?_, fY, ?_⟩
        · simp (disch := first | omega | assumption | (simp only [wL_1, wL_22, wI_2, wA_2, wQ_1, wQ_21] <;> first | assumption | omega)) only [fX11_dayGoes_108, fX11_dayGoes_108b, fX11_dayGoes_180, LIT, LITm, nI_add, n_mul, fa_or, n_31m, n_shl0, n_le, n_lt, n_eq, Option.bind_some, B_m hn, B_mb hn, MTp T, q2, Bool.toNat_false, not_true_eq_false, show ¬ T 0 1 ≤ i by omega, ↓reduceIte]
        · unfold grV
          rw [if_neg (by rw [g]; decide)]
          exact hSy'
      | true =>
        rw [g] at q2
        obtain ⟨S4, eS4⟩ : ∃ S4 : zD, S4 = (S3.1, upd S3.2.1 i (S3.2.1 i + 1), S3.2.2) := ⟨_, rfl⟩
        have hS4 : mSd (wI sy 221 (9 * b + i) (S3.2.1 i + nI 1)) b T O S4 := by
          rw [eS4]
          refine ⟨⟨?_, ?_, fun g => ?_, s4⟩, fun q hq => ⟨?_, ?_, ?_⟩, fun v hv => ?_⟩
          · simp (disch := omega) only [wI_ne, s1]
          · simp (disch := omega) only [wI_ne, s2]
          · simp (disch := omega) only [wI_ne, s3 g]
          · by_cases e : q = i
            · subst e
              simp only [wI_at, upd_at]
              rfl
            · simp (disch := omega) only [wI_at, upd_ne, (s5 q hq).1]
          · simp (disch := omega) only [wI_ne, (s5 q hq).2.1]
          · simp (disch := omega) only [wI_ne, (s5 q hq).2.2]
          · simp (disch := omega) only [wI_ne]
            exact s6 v hv
        have fW : frY b O sy (wI sy 221 (9 * b + i) (S3.2.1 i + nI 1)) := frY_w (by unfold hfM; omega)
        have hD4 : wD T S4 := by rw [eS4]; exact hDy
        have hTw := mTd_Y fW hTy
        have hOw := mOd_Y fW hOy
        obtain ⟨sz, ez, fz⟩ := m_term hn hW hTw hOw hS4 hD4 hb hi
        have hSz := mSd_Q fz hS4
        have hG : grV T O i S3 = if (S3.2.1 i + 1).toInt < termV T O S4 i then S4 else (S4.1, S4.2.1, S4.2.2.1, nd S4.2.2.2.1 (2 ^ i), S4.2.2.2.2) := by
          unfold grV
          rw [if_pos g, eS4]
        have hle := termV_le (S := S4) (p := i) hwO
        rw [hG]
        have fYZ := frY_t fY (frY_t fW (frQ_Y fz))
        by_cases c : (S3.2.1 i + 1).toInt < termV T O S4 i
        · have c' : S3.2.1 i + nI 1 < nI (termV T O S4 i) := by
            rw [fa_lt, nI_toInt (by omega)]
            exact c
          rw [if_pos c]
          refine ⟨sz, ?_, fYZ, hSz⟩
          simp (disch := first | omega | assumption | (simp only [wL_1, wL_22, wI_2, wA_2, wQ_1, wQ_21] <;> first | assumption | omega)) only [fX11_dayGoes_108, fX11_dayGoes_108b, fX11_dayGoes_180, LIT, LITm, nI_add, n_mul, fa_or, n_31m, n_shl0, n_le, n_lt, n_eq, Option.bind_some, B_m hn, B_mb hn, MTp T, q1, q2, wI_at, upd_at, ez, c', Bool.toNat_true, Nat.reduceEqDiff, Nat.reduceLeDiff, not_false_eq_true, show ¬ T 0 1 ≤ i by omega, ↓reduceIte]
        · have c' : ¬ S3.2.1 i + nI 1 < nI (termV T O S4 i) := by
            rw [fa_lt, nI_toInt (by omega)]
            exact c
          rw [if_neg c]
          refine ⟨wI sz 222 (9 * b + i) (nI 0), ?_, frY_t fYZ (frY_w (by unfold hfM; omega)), ?_⟩
          · simp (disch := first | omega | assumption | (simp only [wL_1, wL_22, wI_2, wA_2, wQ_1, wQ_21] <;> first | assumption | omega)) only [fX11_dayGoes_108, fX11_dayGoes_108b, fX11_dayGoes_180, LIT, LITm, nI_add, n_mul, fa_or, n_31m, n_shl0, n_le, n_lt, n_eq, Option.bind_some, B_m hn, B_mb hn, MTp T, q1, q2, wI_at, upd_at, ez, c', nar_b, Bool.toNat_true, Nat.reduceEqDiff, Nat.reduceLeDiff, not_false_eq_true, show ¬ T 0 1 ≤ i by omega, ↓reduceIte]
          · obtain ⟨⟨z1, z2, z3, z4⟩, z5, z6⟩ := hSz
            refine ⟨⟨?_, ?_, fun g => ?_, z4⟩, fun q hq => ⟨?_, ?_, ?_⟩, fun v hv => ?_⟩
            · simp (disch := omega) only [wI_ne, z1]
            · simp (disch := omega) only [wI_ne, z2]
            · simp (disch := omega) only [wI_ne, z3 g]
            · simp (disch := omega) only [wI_ne, (z5 q hq).1]
            · by_cases e : q = i
              · subst e
                simp only [wI_at, upd_at]
                rw [nd_tb, Nat.testBit_two_pow, decide_eq_true rfl, Bool.not_true, Bool.and_false]
                rfl
              · simp (disch := omega) only [wI_at, upd_ne, (z5 q hq).2.1]
                rw [nd_tb, Nat.testBit_two_pow, decide_eq_false (fun h => e h.symm), Bool.not_false, Bool.and_true]
            · simp (disch := omega) only [wI_ne, (z5 q hq).2.2]
            · simp (disch := omega) only [wI_ne]
              exact z6 v hv
    · intro k sy hP
      obtain ⟨fY, hSy⟩ := hP
      have hTy := mTd_Y fY hT
      have hDy : wD T (lpF (grV T O) (T 0 1) S1) := lpF_i (P := wD T) (fun k s hk hs => grV_w hs) hDx
      obtain ⟨sz, ez, fZ, hSz⟩ := fin sy _ fY hSy hDy
      refine ⟨sz, ?_, fZ, hSz⟩
      simp (disch := first | omega | assumption | (simp only [wL_1, wL_22, wI_2, wA_2, wQ_1, wQ_21] <;> first | assumption | omega)) only [fX11_dayGoes_108, fX11_dayGoes_108b, LIT, LITm, nI_add, n_mul, fa_or, n_31m, n_shl0, n_le, n_lt, n_eq, Option.bind_some, B_m hn, MTp T, ez, Nat.le_refl, ↓reduceIte]
  refine lp_up (F := fun k (s1 : zS) i => fX11_dayGoes_7 n k (mk s1) 187 (nI b) (nI sn.toNat) (nI i)) (N := T 0 3) (P := fun i s1 => frY b O s s1 ∧ mSd s1 b T O (lpF (wkV T O sn) i (S.1, S.2.1, S.2.2.1, S.2.2.2.1, m))) (Q := fun r => ∃ s' : zS, r = some ((), mk s') ∧ frY b O s s' ∧ mSd s' b T O (upd (lpF (lfV T) (T 0 2) (lpF (grV T O) (T 0 1) (lpF (wkV T O sn) (T 0 3) (S.1, S.2.1, S.2.2.1, S.2.2.2.1, m)))).1 0 ((lpF (lfV T) (T 0 2) (lpF (grV T O) (T 0 1) (lpF (wkV T O sn) (T 0 3) (S.1, S.2.1, S.2.2.1, S.2.2.2.1, m)))).1 0 + 1), (lpF (lfV T) (T 0 2) (lpF (grV T O) (T 0 1) (lpF (wkV T O sn) (T 0 3) (S.1, S.2.1, S.2.2.1, S.2.2.2.1, m)))).2)) ?_ ?_ (T 0 3) bi_K sa 0 (by omega) (by unfold bi_K; omega) ⟨fA, hSa⟩
  · intro k sy i hi hP
    obtain ⟨fY, hSy⟩ := hP
    have hTy := mTd_Y fY hT
    have hOy := mOd_Y fY hO
    have hk := hW.2.2.2.2.1 i hi
    have hDy : wD T (lpF (wkV T O sn) i (S.1, S.2.1, S.2.2.1, S.2.2.2.1, m)) := lpF_i (P := wD T) (fun k s hk hs => wkV_w hW (by omega) hs) hDa
    left
    show ∃ s', _ = _ ∧ _ ∧ mSd _ b T O (wkV T O sn i (lpF (wkV T O sn) i (S.1, S.2.1, S.2.2.1, S.2.2.2.1, m)))
    revert hSy hDy
    generalize lpF (wkV T O sn) i (S.1, S.2.1, S.2.2.1, S.2.2.2.1, m) = S1
    intro hSy hDy
    have d1 := hSy.1.1
    have o7 := hOy.1.2.2.2
    by_cases c2 : nI (T 14 i) = S1.1 0
    · by_cases c3 : nI (T 12 i) = O.2.2.2.2.1
      · have hne : O.2.2.2.2.1 ≠ m1 := fun h => by
          rw [h, n_m1 (by omega)] at c3
          exact c3
        refine ⟨sy, ?_, fY, ?_⟩
        · simp (disch := first | omega | assumption | (simp only [wL_1, wL_22, wI_2, wA_2, wQ_1, wQ_21] <;> first | assumption | omega)) only [fX11_dayGoes_7, fX11_dayGoes_7b, fX11_dayGoes_90, fX11_dayGoes_100, LIT, LITm, nI_add, n_mul, fa_or, n_31m, n_shl0, n_le, n_lt, n_eq, Option.bind_some, B_m hn, B_ma hn, B_mc hn, MTp T, d1, o7, c2, c3, not_true_eq_false, show ¬ T 0 3 ≤ i by omega, ↓reduceIte]
        · have : wkV T O sn i S1 = (upd S1.1 2 (S1.1 2 + 1), S1.2) := by
            unfold wkV
            rw [if_pos c2, if_pos (Or.inr c3)]
          rw [this]
          obtain ⟨⟨s1, s2, s3, s4⟩, s5, s6⟩ := hSy
          refine ⟨⟨?_, ?_, fun g => absurd g hne, s4⟩, s5, s6⟩
          · simp (disch := omega) only [upd_ne, s1]
          · simp (disch := omega) only [upd_ne, s2]
      · cases hsn : sn with
        | true =>
          have R := m_refd hSy
          refine ⟨_, ?_, frY_t fY R.1, ?_⟩
          · simp (disch := first | omega | assumption | (simp only [wL_1, wL_22, wI_2, wA_2, wQ_1, wQ_21] <;> first | assumption | omega)) only [fX11_dayGoes_7, fX11_dayGoes_7b, fX11_dayGoes_90, fX11_dayGoes_100, LIT, LITm, nI_add, n_mul, fa_or, n_31m, n_shl0, n_le, n_lt, n_eq, Option.bind_some, B_m hn, B_ma hn, B_mb hn, B_mc hn, MTp T, d1, o7, c2, c3, Bool.toNat_true, Nat.reduceEqDiff, Nat.reduceLeDiff, not_true_eq_false, not_false_eq_true, show ¬ T 0 3 ≤ i by omega, ↓reduceIte]
          · have : wkV T O true i S1 = (upd S1.1 2 (S1.1 2 + 1), S1.2) := by
              unfold wkV
              rw [if_pos c2, if_pos (Or.inl rfl)]
            rw [this]
            exact R.2
        | false =>
          obtain ⟨sb, eb, fB⟩ := m_can hn hW hTy hOy hSy hwO hDy hb hk.2.1 hk.1
          have hSb := mSd_Q fB hSy
          have hTb := mTd_Q fB hTy
          have hOb : mOd sb.1 T O := mOd_fr hOy (fun j h1 h2 => fB.2.1 _ _ (by omega))
          cases hcv : canV T O S1 (T 12 i) (T 13 i) with
          | none =>
            rw [hcv] at eb
            have R := m_refd hSb
            refine ⟨_, ?_, frY_t fY (frY_t (frQ_Y fB) R.1), ?_⟩
            · simp (disch := first | omega | assumption | (simp only [wL_1, wL_22, wI_2, wA_2, wQ_1, wQ_21] <;> first | assumption | omega)) only [fX11_dayGoes_7, fX11_dayGoes_7b, fX11_dayGoes_90, fX11_dayGoes_100, LIT, LITm, nI_add, n_mul, fa_or, n_31m, n_shl0, n_le, n_lt, n_eq, Option.bind_some, B_m hn, B_ma hn, B_mb hn, B_mc hn, MTp T, d1, o7, c2, c3, eb, Option.isSome_none, Bool.toNat_false, not_true_eq_false, not_false_eq_true, show ¬ T 0 3 ≤ i by omega, ↓reduceIte]
            · have : wkV T O false i S1 = (upd S1.1 2 (S1.1 2 + 1), S1.2) := by
                unfold wkV
                rw [if_pos c2, if_neg (fun h => h.elim (fun h => by cases h) c3), hcv]
              rw [this]
              exact R.2
          | some c =>
            rw [hcv] at eb
            obtain ⟨sc, ec, fC, hSc⟩ := m_goes hn hW hTb hOb hSb hwO hDy hb hk.2.1 hk.1 hcv
            refine ⟨sc, ?_, frY_t fY (frY_t (frQ_Y fB) fC), ?_⟩
            · simp (disch := first | omega | assumption | (simp only [wL_1, wL_22, wI_2, wA_2, wQ_1, wQ_21] <;> first | assumption | omega)) only [fX11_dayGoes_7, fX11_dayGoes_7b, fX11_dayGoes_90, fX11_dayGoes_100, LIT, LITm, nI_add, n_mul, fa_or, n_31m, n_shl0, n_le, n_lt, n_eq, Option.bind_some, B_m hn, B_ma hn, B_mb hn, B_mc hn, MTp T, d1, o7, c2, c3, eb, ec, Option.isSome_some, Bool.toNat_false, Bool.toNat_true, Nat.reduceEqDiff, Nat.reduceLeDiff, not_true_eq_false, not_false_eq_true, show ¬ T 0 3 ≤ i by omega, ↓reduceIte]
            · have : wkV T O false i S1 = goV T S1 (T 12 i) (T 13 i) c := by
                unfold wkV
                rw [if_pos c2, if_neg (fun h => h.elim (fun h => by cases h) c3), hcv]
              rw [this]
              exact hSc
    · refine ⟨sy, ?_, fY, ?_⟩
      · simp (disch := first | omega | assumption | (simp only [wL_1, wL_22, wI_2, wA_2, wQ_1, wQ_21] <;> first | assumption | omega)) only [fX11_dayGoes_7, fX11_dayGoes_7b, fX11_dayGoes_90, fX11_dayGoes_100, LIT, LITm, nI_add, n_mul, fa_or, n_31m, n_shl0, n_le, n_lt, n_eq, Option.bind_some, B_m hn, B_ma hn, B_mc hn, MTp T, d1, c2, not_false_eq_true, show ¬ T 0 3 ≤ i by omega, ↓reduceIte]
      · have : wkV T O sn i S1 = S1 := by
          unfold wkV
          rw [if_neg c2]
        rw [this]
        exact hSy
  · intro k sy hP
    obtain ⟨fY, hSy⟩ := hP
    have hTy := mTd_Y fY hT
    have hDy : wD T (lpF (wkV T O sn) (T 0 3) (S.1, S.2.1, S.2.2.1, S.2.2.2.1, m)) := lpF_i (P := wD T) (fun k s hk hs => wkV_w hW hk hs) hDa
    obtain ⟨sz, ez, fZ, hSz⟩ := mid sy _ fY hSy hDy
    refine ⟨sz, ?_, fZ, hSz⟩
    simp (disch := first | omega | assumption | (simp only [wL_1, wL_22, wI_2, wA_2, wQ_1, wQ_21] <;> first | assumption | omega)) only [fX11_dayGoes_7, fX11_dayGoes_7b, LIT, LITm, nI_add, n_mul, fa_or, n_31m, n_shl0, n_le, n_lt, n_eq, Option.bind_some, B_m hn, MTp T, ez, Nat.le_refl, ↓reduceIte]
end Mx
