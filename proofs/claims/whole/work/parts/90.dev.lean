/-! FILE 40.days2 -/
/-! ===== the days, by the class: walks, grass, a whole day ===== -/
theorem n_dI {a d : Nat} (ha : a < 2147483648) (h0 : 0 < d) (hd : d < 2147483648) : dI (nI a) (nI d) = some (nI (a / d)) := by
  unfold dI
  rw [if_neg (nI_ne0 h0 hd), pk_div ha h0 hd]
theorem n_rI {a d : Nat} (ha : a < 2147483648) (h0 : 0 < d) (hd : d < 2147483648) : rI (nI a) (nI d) = some (nI (a % d)) := by
  unfold rI
  rw [if_neg (nI_ne0 h0 hd), pk_rem ha h0 hd]
theorem n_nx (m : Nat) : (nI m * (1103515245 : Int32) + (12345 : Int32)) &&& (2147483647 : Int32) = nI (nxV m) := by
  show (nI m * nI 1103515245 + nI 12345) &&& nI (2 ^ 31 - 1) = _
  rw [n_mul, nI_add, fa_mask]
  rfl
theorem canV_le {T : zT} {O : zO} {S : zD} {w p c : Nat} (h : canV T O S w p = some c) : c ≤ S.2.2.1 1 w := by
  unfold canV at h
  split at h
  · rename_i g
    cases h
    exact g.2.2.2.2
  · cases h
theorem lpF_id {σ : Type} {f : Nat → σ → σ} {s : σ} {i : Nat} : ∀ {m : Nat}, i ≤ m → (∀ k, i ≤ k → k < m → f k (lpF f i s) = lpF f i s) → lpF f m s = lpF f i s := by
  intro m
  induction m with
  | zero => intro h _; rw [show i = 0 by omega]
  | succ m ih =>
    intro h hs
    by_cases e : i = m + 1
    · rw [e]
    · show f m (lpF f m s) = _
      rw [ih (by omega) (fun k h1 h2 => hs k h1 (by omega))]
      exact hs m (by omega) (by omega)
section De
variable {n t o p w : Nat} {s : zS} {T : zT} {O : zO} {S : zD}
theorem c_goWhole (hn : 236 ≤ n) (ht : t = 6 ∨ t = 29) (ho : isS o) (hW : WT T) (hT : cTd s.1 t T) (hO : cOd s t o T O) (hS : cSd s.1 o T S) (hD : wD T S) (hp : p < T 0 1) (hw : w < T 0 2) {c : Nat} (hc : c ≤ S.2.2.1 1 w) : ∃ s' : zS, fX0_goWhole n (mk s) 68 (nI w) (nI p) (nI c) = some ((), mk s') ∧ frD t o s s' ∧ cSd s'.1 o T (goV T S w p c) := by
  have hp' := WT_p hW hp
  have hw' := WT_w hW hw
  have a2 := hD.2.2.1 w hw
  have a3 := hD.2.2.2 p hp
  have h0 := hW.1
  have hb := is_b ho
  obtain ⟨o1, o2, o3, o4, o5, o6, o7, o8⟩ := hO
  obtain ⟨⟨s1, s2, s3, s4, s5⟩, s6, s7⟩ := hS
  have q1 := (s7 w hw).1
  have q2 := (s7 w hw).2
  have q3 := (s6 p hp).2
  have hg : (if S.2.2.1 2 p + 1 < 999 then nI (S.2.2.1 2 p + 1) else nI 999) = nI (if S.2.2.1 2 p < 999 then S.2.2.1 2 p + 1 else 999) := by
    by_cases h : S.2.2.1 2 p + 1 < 999
    · rw [if_pos h, if_pos (by omega)]
    · rw [if_neg h]
      by_cases h' : S.2.2.1 2 p < 999
      · rw [if_pos h']
        congr 1
        omega
      · rw [if_neg h']
  refine ⟨wI (wI (wI (wI (wI s (o + 4) w (nI (S.2.2.1 1 w - c))) (o + 3) w (nI (if S.2.2.1 0 w = T 3 p then T 4 p else T 3 p))) (o + 1) p (nI 0)) (o + 2) p (nI (if S.2.2.1 2 p < 999 then S.2.2.1 2 p + 1 else 999))) o 2 (S.1 1 + nI 1), ?_, ⟨fun a ha => ?_, rfl, fun _ _ => rfl⟩, ?_⟩
  · unfold fX0_goWhole fX0_goWhole_66
    by_cases h : S.2.2.1 0 w = T 3 p
    · simp (disch := first | omega | assumption | (simp only [wL_1, wL_22, wI_2, wA_2, wQ_1, wQ_21] <;> first | assumption | omega) | (repeat (first | assumption | refine cTd_wI (by omega) ?_))) only [LIT, LITm, nI_add, n_mul, fa_or, n_31m, n_shl0, n_le, n_lt, n_eq, Option.bind_some, B_dy hn, B_d2 hn ht ho, B_t hn ht, B_s hn ho, CT hn ht hW, CTp t T, q1, q2, q3, s3, n_sub, wI_ne, h, hg, not_true_eq_false, ↓reduceIte]
    · simp (disch := first | omega | assumption | (simp only [wL_1, wL_22, wI_2, wA_2, wQ_1, wQ_21] <;> first | assumption | omega) | (repeat (first | assumption | refine cTd_wI (by omega) ?_))) only [LIT, LITm, nI_add, n_mul, fa_or, n_31m, n_shl0, n_le, n_lt, n_eq, Option.bind_some, B_dy hn, B_d2 hn ht ho, B_t hn ht, B_s hn ho, CT hn ht hW, CTp t T, q1, q2, q3, s3, n_sub, wI_ne, h, hg, not_false_eq_true, ↓reduceIte]
  · simp (disch := omega) only [wI_ne]
  · refine ⟨⟨?_, ?_, ?_, ?_, ?_⟩, fun q hq => ⟨?_, ?_⟩, fun v hv => ⟨?_, ?_⟩⟩
    · simp (disch := omega) only [goV, wI_at, wI_ne, upd_ne, s1]
    · simp (disch := omega) only [goV, wI_at, wI_ne, upd_ne, s2]
    · simp (disch := omega) only [goV, wI_at, upd_at]
      rfl
    · simp (disch := omega) only [goV, wI_at, wI_ne, upd_ne, s4]
    · simp (disch := omega) only [goV, wI_at, wI_ne, upd_ne, s5]
    · by_cases e : q = p
      · subst e
        simp (disch := omega) only [goV, wI_at, wI_ne, upd_at]
        rfl
      · simp (disch := omega) only [goV, wI_at, wI_ne, upd_ne, (s6 q hq).1]
    · by_cases e : q = p
      · subst e
        simp (disch := omega) only [goV, wI_at, wI_ne, upd_at, up2_g, and_self, ↓reduceIte]
      · simp (disch := omega) only [goV, wI_at, wI_ne, upd_ne, (s6 q hq).2, up2_g, e, and_false, false_and, show ¬ (2 = 0) by omega, show ¬ (2 = 1) by omega, ↓reduceIte]
    · by_cases e : v = w
      · subst e
        simp (disch := omega) only [goV, wI_at, wI_ne, upd_at, up2_g, and_self, false_and, show ¬ (0 = 2) by omega, ↓reduceIte]
      · simp (disch := omega) only [goV, wI_at, wI_ne, upd_ne, (s7 v hv).1, up2_g, e, and_false, false_and, show ¬ (0 = 2) by omega, show ¬ (0 = 1) by omega, ↓reduceIte]
    · by_cases e : v = w
      · subst e
        simp (disch := omega) only [goV, wI_at, wI_ne, upd_at, up2_g, and_self, false_and, show ¬ (1 = 2) by omega, show ¬ (1 = 0) by omega, ↓reduceIte]
      · simp (disch := omega) only [goV, wI_at, wI_ne, upd_ne, (s7 v hv).2, up2_g, e, and_false, false_and, show ¬ (1 = 2) by omega, show ¬ (1 = 0) by omega, ↓reduceIte]
theorem c_refd (ho : isS o) (hS : cSd s.1 o T S) : frD t o s (wI s o 3 (S.1 2 + nI 1)) ∧ cSd (wI s o 3 (S.1 2 + nI 1)).1 o T (upd S.1 2 (S.1 2 + 1), S.2) := by
  obtain ⟨⟨s1, s2, s3, s4, s5⟩, s6, s7⟩ := hS
  refine ⟨⟨fun a ha => wI_ne (by omega), rfl, fun _ _ => rfl⟩, ⟨?_, ?_, ?_, ?_, ?_⟩, fun q hq => ?_, fun v hv => ?_⟩
  · simp (disch := omega) only [wI_at, upd_ne, s1]
  · simp (disch := omega) only [wI_at, upd_ne, s2]
  · simp (disch := omega) only [wI_at, upd_ne, s3]
  · simp (disch := omega) only [wI_at, upd_at]
    rfl
  · simp (disch := omega) only [wI_at, upd_ne, s5]
  · simp (disch := omega) only [wI_ne]
    exact s6 q hq
  · simp (disch := omega) only [wI_ne]
    exact s7 v hv
theorem c_walks (hn : 236 ≤ n) (ht : t = 6 ∨ t = 29) (ho : isS o) (hW : WT T) (hT : cTd s.1 t T) (hO : cOd s t o T O) (hS : cSd s.1 o T S) (hwO : wO T O) (hD : wD T S) {sn : Bool} : ∃ s' : zS, fX0_goWalks n (mk s) 68 (nI sn.toNat) = some ((), mk s') ∧ frD t o s s' ∧ cSd s'.1 o T (lpF (wkV T O sn) (T 0 3) S) := by
  have h0 := hW.1
  have o1 := hO.1
  unfold fX0_goWalks
  simp (disch := first | omega | assumption | (simp only [wL_1, wL_22, wI_2, wA_2, wQ_1, wQ_21] <;> first | assumption | omega)) only [LIT, LITm, nI_add, n_mul, fa_or, n_31m, n_shl0, n_le, n_lt, n_eq, Option.bind_some, B_dy hn, B_d2 hn ht ho, B_t hn ht]
  refine lp_up (F := fun k (s1 : zS) i => fX0_goWalks_10 n k (mk s1) 68 (nI sn.toNat) (t + 10) (nI i)) (N := T 0 3) (P := fun i s1 => frD t o s s1 ∧ cSd s1.1 o T (lpF (wkV T O sn) i S)) (Q := fun r => ∃ s' : zS, r = some ((), mk s') ∧ frD t o s s' ∧ cSd s'.1 o T (lpF (wkV T O sn) (T 0 3) S)) ?_ ?_ (T 0 3) bi_K s 0 (by omega) (by unfold bi_K; omega) ⟨frD_r, hS⟩
  · intro k sa i hi hP
    obtain ⟨fA, hSa⟩ := hP
    have hk := hW.2.2.2.2.1 i hi
    have hDa : wD T (lpF (wkV T O sn) i S) := lpF_i (P := wD T) (fun k s hk hs => wkV_w hW (by omega) hs) hD
    have eS : lpF (wkV T O sn) (i + 1) S = wkV T O sn i (lpF (wkV T O sn) i S) := rfl
    rw [eS]
    have eN : (∀ k, i ≤ k → k < T 0 3 → wkV T O sn k (lpF (wkV T O sn) i S) = lpF (wkV T O sn) i S) → lpF (wkV T O sn) (T 0 3) S = lpF (wkV T O sn) i S := lpF_id (by omega)
    revert eN hDa hSa
    generalize lpF (wkV T O sn) i S = S1
    intro hSa hDa eN
    have hTa := cTd_D ht ho fA hT
    have hOa := cOd_D ho fA hO
    have d1 := hSa.1.1
    have d4 := hSa.1.2.2.2.1
    have o1a := hOa.1
    have o2a := hOa.2.1
    have o7a := hOa.2.2.2.2.2.2.1
    have f1 : ¬ T 0 3 ≤ i := by omega
    by_cases c1 : nI 99 < S1.1 0
    · right
      refine ⟨sa, ?_, fA, ?_⟩
      · simp (disch := first | omega | assumption | (simp only [wL_1, wL_22, wI_2, wA_2, wQ_1, wQ_21] <;> first | assumption | omega)) only [fX0_goWalks_10, fX0_goWalks_10b, LIT, LITm, nI_add, n_mul, fa_or, n_31m, n_shl0, n_le, n_lt, n_eq, Option.bind_some, B_dy hn, B_d2 hn ht ho, B_t hn ht, B_s hn ho, CT hn ht hW, CTp t T, d1, f1, c1, ↓reduceIte]
      · rw [eN ?_]
        · exact hSa
        · intro k h1 h2
          have := (hW.2.2.2.2.1 k h2).2.2
          unfold wkV
          rw [if_neg]
          intro e
          rw [← e, n_lt (by omega) (by omega)] at c1
          omega
    · left
      by_cases c2 : nI (T 14 i) = S1.1 0
      · cases hsn : sn with
        | true =>
          have R := c_refd (t := t) ho hSa
          refine ⟨_, ?_, frD_t fA R.1, ?_⟩
          · simp (disch := first | omega | assumption | (simp only [wL_1, wL_22, wI_2, wA_2, wQ_1, wQ_21] <;> first | assumption | omega)) only [fX0_goWalks_10, fX0_goWalks_10b, fX0_goWalks_75, fX0_goWalks_87, fX0_goWalks_120, LIT, LITm, nI_add, n_mul, fa_or, n_31m, n_shl0, n_le, n_lt, n_eq, Option.bind_some, B_dy hn, B_d2 hn ht ho, B_t hn ht, B_s hn ho, CT hn ht hW, CTp t T, d1, d4, f1, c1, c2, Bool.toNat_true, show ¬ (1 = 0) by omega, not_true_eq_false, not_false_eq_true, n_m1lt, ↓reduceIte]
          · have : wkV T O true i S1 = (upd S1.1 2 (S1.1 2 + 1), S1.2) := by
              unfold wkV
              rw [if_pos c2, if_pos (Or.inl rfl)]
            rw [this]
            exact R.2
        | false =>
          by_cases c3 : nI (T 12 i) = O.2.2.2.2.1
          · have R := c_refd (t := t) ho hSa
            refine ⟨_, ?_, frD_t fA R.1, ?_⟩
            · simp (disch := first | omega | assumption | (simp only [wL_1, wL_22, wI_2, wA_2, wQ_1, wQ_21] <;> first | assumption | omega)) only [fX0_goWalks_10, fX0_goWalks_10b, fX0_goWalks_75, fX0_goWalks_87, fX0_goWalks_120, LIT, LITm, nI_add, n_mul, fa_or, n_31m, n_shl0, n_le, n_lt, n_eq, Option.bind_some, B_dy hn, B_d2 hn ht ho, B_t hn ht, B_s hn ho, CT hn ht hW, CTp t T, d1, d4, o7a, f1, c1, c2, c3, Bool.toNat_false, not_true_eq_false, not_false_eq_true, n_m1lt, ↓reduceIte]
            · have : wkV T O false i S1 = (upd S1.1 2 (S1.1 2 + 1), S1.2) := by
                unfold wkV
                rw [if_pos c2, if_pos (Or.inr c3)]
              rw [this]
              exact R.2
          · obtain ⟨sb, eb, fB⟩ := c_cost hn ht ho hW hTa hOa hSa hwO hDa hk.2.1 hk.1
            have hSb : cSd sb.1 o T S1 := by rw [fB.1]; exact hSa
            have hTb : cTd sb.1 t T := by rw [fB.1]; exact hTa
            have hOb := cOd_D ho (frL_D fB) hOa
            have o2b := hOb.2.1
            have d4b := hSb.1.2.2.2.1
            cases hcv : canV T O S1 (T 12 i) (T 13 i) with
            | none =>
              rw [hcv, Option.elim_none] at eb
              have R := c_refd (t := t) ho hSb
              refine ⟨_, ?_, frD_t fA (frD_t (frL_D fB) R.1), ?_⟩
              · simp (disch := first | omega | assumption | (simp only [wL_1, wL_22, wI_2, wA_2, wQ_1, wQ_21] <;> first | assumption | omega)) only [fX0_goWalks_10, fX0_goWalks_10b, fX0_goWalks_75, fX0_goWalks_87, fX0_goWalks_120, LIT, LITm, nI_add, n_mul, fa_or, n_31m, n_shl0, n_le, n_lt, n_eq, Option.bind_some, B_dy hn, B_d2 hn ht ho, B_t hn ht, B_s hn ho, CT hn ht hW, CTp t T, d1, d4b, o7a, f1, c1, c2, c3, eb, Bool.toNat_false, not_true_eq_false, not_false_eq_true, n_m1lt, ↓reduceIte]
              · have : wkV T O false i S1 = (upd S1.1 2 (S1.1 2 + 1), S1.2) := by
                  unfold wkV
                  rw [if_pos c2, if_neg (fun h => h.elim (fun h => by cases h) c3), hcv]
                rw [this]
                exact R.2
            | some c =>
              rw [hcv, Option.elim_some] at eb
              have hcl := canV_le hcv
              have h99 := (hDa.2.2.1 _ hk.1).2
              obtain ⟨sc, ec, fC, hSc⟩ := c_goWhole hn ht ho hW hTb hOb hSb hDa hk.2.1 hk.1 hcl
              refine ⟨sc, ?_, frD_t fA (frD_t (frL_D fB) fC), ?_⟩
              · simp (disch := first | omega | assumption | (simp only [wL_1, wL_22, wI_2, wA_2, wQ_1, wQ_21] <;> first | assumption | omega)) only [fX0_goWalks_10, fX0_goWalks_10b, fX0_goWalks_75, fX0_goWalks_87, fX0_goWalks_120, LIT, LITm, nI_add, n_mul, fa_or, n_31m, n_shl0, n_le, n_lt, n_eq, Option.bind_some, B_dy hn, B_d2 hn ht ho, B_t hn ht, B_s hn ho, CT hn ht hW, CTp t T, d1, o7a, f1, c1, c2, c3, eb, ec, Bool.toNat_false, not_true_eq_false, not_false_eq_true, Nat.not_lt_zero, ↓reduceIte]
              · have : wkV T O false i S1 = goV T S1 (T 12 i) (T 13 i) c := by
                  unfold wkV
                  rw [if_pos c2, if_neg (fun h => h.elim (fun h => by cases h) c3), hcv]
                rw [this]
                exact hSc
      · refine ⟨sa, ?_, fA, ?_⟩
        · simp (disch := first | omega | assumption | (simp only [wL_1, wL_22, wI_2, wA_2, wQ_1, wQ_21] <;> first | assumption | omega)) only [fX0_goWalks_10, fX0_goWalks_10b, fX0_goWalks_75, fX0_goWalks_87, fX0_goWalks_120, LIT, LITm, nI_add, n_mul, fa_or, n_31m, n_shl0, n_le, n_lt, n_eq, Option.bind_some, B_dy hn, B_d2 hn ht ho, B_t hn ht, B_s hn ho, CT hn ht hW, CTp t T, d1, f1, c1, c2, not_false_eq_true, ↓reduceIte]
        · have : wkV T O sn i S1 = S1 := by
            unfold wkV
            rw [if_neg c2]
          rw [this]
          exact hSa
  · intro k sa hP
    have hTa := cTd_D ht ho hP.1 hT
    refine ⟨sa, ?_, hP.1, hP.2⟩
    simp (disch := first | omega | assumption | (simp only [wL_1, wL_22, wI_2, wA_2, wQ_1, wQ_21] <;> first | assumption | omega)) only [fX0_goWalks_10, fX0_goWalks_10b, LIT, LITm, nI_add, n_mul, fa_or, n_31m, n_shl0, n_le, n_lt, n_eq, Option.bind_some, B_t hn ht, CT hn ht hW, CTp t T, Nat.le_refl, ↓reduceIte]
theorem c_grow49 (hn : 236 ≤ n) (ht : t = 6 ∨ t = 29) (ho : isS o) (hW : WT T) (hO : cOd s t o T O) (hS : cSd s.1 o T S) (hp : p < T 0 1) {v : Int64} : ∃ s' : zS, fX0_growOlder_49 n (mk s) 68 (nI p) v = some ((), mk s') ∧ frD t o s s' ∧ cSd s'.1 o T (if (S.2.1 p).toInt < clV 1 9999 v then S else (S.1, S.2.1, S.2.2.1, nd S.2.2.2.1 (2 ^ p), S.2.2.2.2)) := by
  have hp' := WT_p hW hp
  obtain ⟨o1, o2, o3, o4, o5, o6, o7, o8⟩ := hO
  obtain ⟨⟨s1, s2, s3, s4, s5⟩, s6, s7⟩ := hS
  have e99 : (9999 : Int64) = lN 9999 := rfl
  have e0 : (1 : Int64) = lN 1 := rfl
  have hc := clV_c (l := 1) (m := 9999) (v := v) (by omega) (by omega)
  rw [← e99, ← e0] at hc
  have hcl := clV_le (l := 1) (m := 9999) (v := v) (by omega)
  have q := (s6 p hp).1
  by_cases h : (S.2.1 p).toInt < clV 1 9999 v
  · have h' : (S.2.1 p).toInt64 < lN (clV 1 9999 v) := by
      rw [fa_lt64, Int32.toInt_toInt64, lN_toInt (by omega)]
      exact h
    rw [if_pos h]
    refine ⟨s, ?_, frD_r, ⟨s1, s2, s3, s4, s5⟩, s6, s7⟩
    unfold fX0_growOlder_49
    simp (disch := first | omega | assumption | (simp only [wL_1, wL_22, wI_2, wA_2, wQ_1, wQ_21] <;> first | assumption | omega)) only [LIT, LITm, nI_add, n_mul, fa_or, n_31m, n_shl0, n_le, n_lt, n_eq, Option.bind_some, B_dy hn, B_d2 hn ht ho, B_s hn ho, q, hc, CMP, h', ↓reduceIte]
  · have h' : ¬ (S.2.1 p).toInt64 < lN (clV 1 9999 v) := by
      rw [fa_lt64, Int32.toInt_toInt64, lN_toInt (by omega)]
      exact h
    rw [if_neg h]
    refine ⟨wI s o 4 (nI (nd S.2.2.2.1 (2 ^ p))), ?_, ⟨fun a ha => wI_ne (by omega), rfl, fun _ _ => rfl⟩, ⟨?_, ?_, ?_, ?_, ?_⟩, fun q hq => ?_, fun v hv => ?_⟩
    · unfold fX0_growOlder_49
      simp (disch := first | omega | assumption | (simp only [wL_1, wL_22, wI_2, wA_2, wQ_1, wQ_21] <;> first | assumption | omega)) only [LIT, LITm, nI_add, n_mul, fa_or, n_31m, n_shl0, n_le, n_lt, n_eq, Option.bind_some, B_dy hn, B_d2 hn ht ho, B_s hn ho, q, s5, hc, CMP, h', n_nd, ↓reduceIte]
    · simp (disch := omega) only [wI_at, upd_ne, s1]
    · simp (disch := omega) only [wI_at, upd_ne, s2]
    · simp (disch := omega) only [wI_at, upd_ne, s3]
    · simp (disch := omega) only [wI_at, upd_ne, s4]
    · simp (disch := omega) only [wI_at, upd_at]
    · simp (disch := omega) only [wI_ne]
      exact s6 q hq
    · simp (disch := omega) only [wI_ne]
      exact s7 v hv
theorem c_grow (hn : 236 ≤ n) (ht : t = 6 ∨ t = 29) (ho : isS o) (hW : WT T) (hT : cTd s.1 t T) (hO : cOd s t o T O) (hS : cSd s.1 o T S) (hwO : wO T O) (hD : wD T S) (hp : p < T 0 1) (hk : S.2.2.2.1.testBit p = true) : ∃ s' : zS, fX0_growOlder n (mk s) 68 (nI p) = some ((), mk s') ∧ frD t o s s' ∧ cSd s'.1 o T (grV T O p S) := by
  have hp' := WT_p hW hp
  have hcc := is_c ho
  obtain ⟨o1, o2, o3, o4, o5, o6, o7, o8⟩ := hO
  obtain ⟨⟨s1, s2, s3, s4, s5⟩, s6, s7⟩ := hS
  have q := (s6 p hp).1
  have hyr := hwO.2
  have fA : frD t o s (wI s (o + 1) p (S.2.1 p + nI 1)) := frD_I (k := 1) (by omega)
  have hTa := cTd_D ht ho fA hT
  have hOa := cOd_D ho fA ⟨o1, o2, o3, o4, o5, o6, o7, o8⟩
  obtain ⟨S1, eS1⟩ : ∃ S1 : zD, S1 = (S.1, upd S.2.1 p (S.2.1 p + 1), S.2.2) := ⟨_, rfl⟩
  have hSa : cSd (wI s (o + 1) p (S.2.1 p + nI 1)).1 o T S1 := by
    rw [eS1]
    refine ⟨⟨?_, ?_, ?_, ?_, ?_⟩, fun q hq => ⟨?_, ?_⟩, fun v hv => ?_⟩
    · simp (disch := omega) only [wI_ne, s1]
    · simp (disch := omega) only [wI_ne, s2]
    · simp (disch := omega) only [wI_ne, s3]
    · simp (disch := omega) only [wI_ne, s4]
    · simp (disch := omega) only [wI_ne, s5]
    · rw [wI_at]
      by_cases e : q = p
      · subst e
        simp only [upd_at]
        rfl
      · simp only [upd_ne e, (s6 q hq).1]
    · simp (disch := omega) only [wI_ne, (s6 q hq).2]
    · simp (disch := omega) only [wI_ne]
      exact s7 v hv
  have hDa : wD T S1 := by rw [eS1]; exact hD
  have eG : ∀ v : Int64, clV 1 9999 v = termV T O S1 p → grV T O p S = (if (S1.2.1 p).toInt < clV 1 9999 v then S1 else (S1.1, S1.2.1, S1.2.2.1, nd S1.2.2.2.1 (2 ^ p), S1.2.2.2.2)) := by
    intro v hv
    unfold grV
    rw [if_pos hk, hv, eS1]
    simp only [upd_at]
  clear eS1
  cases g : O.2.2.1 with
  | false =>
    rw [g] at o5
    obtain ⟨sb, eb, fB, hSb⟩ := c_grow49 (v := lN O.2.2.2.1) hn ht ho hW hOa hSa hp
    refine ⟨sb, ?_, frD_t fA fB, ?_⟩
    · unfold fX0_growOlder
      simp (disch := first | omega | assumption | (simp only [wL_1, wL_22, wI_2, wA_2, wQ_1, wQ_21] <;> first | assumption | omega) | (repeat (first | assumption | refine cTd_wI (by omega) ?_))) only [LIT, LITm, nI_add, n_mul, fa_or, n_31m, n_shl0, n_le, n_lt, n_eq, Option.bind_some, B_dy hn, B_d2 hn ht ho, B_s hn ho, q, wI_ne, o5, o6, nI_l, eb, Bool.toNat_false, ↓reduceIte]
    · rw [eG (lN O.2.2.2.1) (by rw [clV_n hyr.1 (by omega) (by omega)]; unfold termV; rw [g]; simp)]
      exact hSb
  | true =>
    rw [g] at o5
    obtain ⟨sb, eb, fB, hN⟩ := c_lookN hn ht ho hW hTa hOa hSa hDa hp
    have hTb : cTd sb.1 t T := by rw [fB.1]; exact hTa
    have hB := nmV_b hW hDa hp (lg := 0) (lf := 0) (by omega) (by omega)
    obtain ⟨sc, ec, fC1, fC2, fC3⟩ := c_value (x := lN O.2.2.2.1) hn ht hW hTb (show 0 < 3 by omega) hN hB
    have fC : frL t sb sc := ⟨fC1, fC2, fun a ha => fC3 a (by omega)⟩
    have hOb := cOd_D ho (frL_D fB) hOa
    have hOc := cOd_D ho (frL_D fC) hOb
    have hSc : cSd sc.1 o T S1 := by rw [fC1, fB.1]; exact hSa
    obtain ⟨sd, ed, fD, hSd⟩ := c_grow49 (v := (lawV T 0 (nmV T S1 p 0 0)).getD (lN O.2.2.2.1)) hn ht ho hW hOc hSc hp
    have o1b := hOb.1
    have o6b := hOb.2.2.2.2.2.1
    refine ⟨sd, ?_, frD_t fA (frD_t (frL_D fB) (frD_t (frL_D fC) fD)), ?_⟩
    · unfold fX0_growOlder
      simp (disch := first | omega | assumption | (simp only [wL_1, wL_22, wI_2, wA_2, wQ_1, wQ_21] <;> first | assumption | omega) | (repeat (first | assumption | refine cTd_wI (by omega) ?_))) only [LIT, LITm, nI_add, n_mul, fa_or, n_31m, n_shl0, n_le, n_lt, n_eq, Option.bind_some, B_dy hn, B_d2 hn ht ho, B_t hn ht, B_s hn ho, q, wI_ne, o5, o6, o6b, nI_l, eb, ec, ed, Bool.toNat_true, show ¬ (1 = 0) by omega, ↓reduceIte]
    · rw [eG _ ?_]
      · exact hSd
      · rw [getD_el (clV_n hyr.1 (by omega) (by omega))]
        unfold termV
        rw [g, if_pos rfl]
theorem c_snow36 {h : ai_H} {x : Nat} (hx : x ≤ 100) : fX0_isSnowing_36 n h (nI x) = some (nI (decide (50 ≤ x)).toNat, h) := by
  unfold fX0_isSnowing_36
  by_cases g : x < 50
  · rw [if_pos (show nI x < nI 50 from (nI_ltI (by omega) (by omega)).mpr g), decide_eq_false (by omega)]
    rfl
  · rw [if_neg (show ¬ nI x < nI 50 from fun h => g ((nI_ltI (by omega) (by omega)).mp h)), decide_eq_true (by omega)]
    rfl
theorem c_snow (hn : 236 ≤ n) (ht : t = 6 ∨ t = 29) (ho : isS o) (hW : WT T) (hT : cTd s.1 t T) (hO : cOd s t o T O) (hS : cSd s.1 o T S) (hwO : wO T O) (hD : wD T S) : ∃ s' : zS, fX0_isSnowing n (mk s) 68 = some (nI (snV T O S.2.2.2.2).1.toNat, mk s') ∧ frD t o s s' ∧ cSd s'.1 o T (S.1, S.2.1, S.2.2.1, S.2.2.2.1, (snV T O S.2.2.2.2).2) := by
  have h7 := hW.2.1.2.2.2.1
  have hO1 := hwO.1
  obtain ⟨o1, o2, o3, o4, o5, o6, o7, o8⟩ := hO
  have hS' := hS
  obtain ⟨⟨s1, s2, s3, s4, s5⟩, s6, s7⟩ := hS
  have pre : ∀ r, (if nI O.1 = (2 : Int32) then some ((0 : Int32), mk s) else if ¬ nI (T 0 7) = 0 then (if nI O.1 = (1 : Int32) then fX0_isSnowing_36 n (mk s) (nI (T 0 7)) else if ¬ nI (T 0 7) = (100 : Int32) then
      (sF n (mk s) o 5 1 (.int) (.int (((nI S.2.2.2.2 * (1103515245 : Int32)) + (12345 : Int32)) &&& (2147483647 : Int32)))).bind (fun h8 => (pR n h8 68 0 1).bind fun x9 => (pI n h8 x9 5 1).bind fun x10 => (dI x10 (65536 : Int32)).bind fun x11 => (rI x11 (100 : Int32)).bind fun x12 => if nI (T 0 7) ≤ x12 then some ((0 : Int32), h8) else some ((1 : Int32), h8)) else fX0_isSnowing_36 n (mk s) (nI (T 0 7))) else some ((0 : Int32), mk s)) = r → fX0_isSnowing n (mk s) 68 = r := by
    intro r hr
    unfold fX0_isSnowing
    rw [bnd_s (v := ()) (by simp only [B_dy hn]), bnd_s (v := t) (by simp (disch := first | omega | assumption | (simp only [wL_1, wL_22, wI_2, wA_2, wQ_1, wQ_21] <;> first | assumption | omega)) only [B_d2 hn ht ho]), bnd_s (v := nI (T 0 7)) (by simp (disch := first | omega | assumption | (simp only [wL_1, wL_22, wI_2, wA_2, wQ_1, wQ_21] <;> first | assumption | omega)) only [CT hn ht hW, CTp t T]), bnd_s (v := nI O.1) (by simp only [B_dy hn, o3]), bnd_s (v := nI O.1) (by simp only [B_dy hn, o3]), bnd_s (v := o) (by simp (disch := first | omega | assumption | (simp only [wL_1, wL_22, wI_2, wA_2, wQ_1, wQ_21] <;> first | assumption | omega)) only [B_d2 hn ht ho]), bnd_s (v := o) (by simp (disch := first | omega | assumption | (simp only [wL_1, wL_22, wI_2, wA_2, wQ_1, wQ_21] <;> first | assumption | omega)) only [B_d2 hn ht ho]), bnd_s (v := nI S.2.2.2.2) (by simp (disch := first | omega | assumption | (simp only [wL_1, wL_22, wI_2, wA_2, wQ_1, wQ_21] <;> first | assumption | omega)) only [B_s hn ho, s2])]
    exact hr
  have d0 : nI (T 0 7) = 0 ↔ T 0 7 = 0 := nI_eq (b := 0) (by omega) (by omega)
  have d100 : nI (T 0 7) = (100 : Int32) ↔ T 0 7 = 100 := nI_eq (b := 100) (by omega) (by omega)
  have e2 : nI O.1 = (2 : Int32) ↔ O.1 = 2 := nI_eq (b := 2) (by omega) (by omega)
  have e1 : nI O.1 = (1 : Int32) ↔ O.1 = 1 := nI_eq (b := 1) (by omega) (by omega)
  unfold snV
  by_cases g1 : O.1 = 2
  · rw [if_pos (Or.inl g1)]
    exact ⟨s, pre _ (by rw [if_pos (e2.mpr g1)]; rfl), frD_r, hS'⟩
  · by_cases g2 : T 0 7 = 0
    · rw [if_pos (Or.inr g2)]
      exact ⟨s, pre _ (by rw [if_neg (fun h => g1 (e2.mp h)), if_neg (fun h => h (d0.mpr g2))]; rfl), frD_r, hS'⟩
    · rw [if_neg (fun h => h.elim g1 g2)]
      by_cases g3 : O.1 = 1
      · rw [if_pos (Or.inl g3)]
        exact ⟨s, pre _ (by rw [if_neg (fun h => g1 (e2.mp h)), if_pos (fun h => g2 (d0.mp h)), if_pos (e1.mpr g3), c_snow36 h7]), frD_r, hS'⟩
      · by_cases g4 : T 0 7 = 100
        · rw [if_pos (Or.inr g4)]
          exact ⟨s, pre _ (by rw [if_neg (fun h => g1 (e2.mp h)), if_pos (fun h => g2 (d0.mp h)), if_neg (fun h => g3 (e1.mp h)), if_neg (fun h => h (d100.mpr g4)), c_snow36 h7]), frD_r, hS'⟩
        · rw [if_neg (fun h => h.elim g3 g4)]
          have nx := n_nx S.2.2.2.2
          have hx := nxV_lt S.2.2.2.2
          revert nx hx
          generalize nxV S.2.2.2.2 = m
          intro nx hx
          have hx2 : m / 65536 < 2147483648 := by omega
          have hx3 : m / 65536 % 100 < 2147483648 := by omega
          have hdI : dI (nI m) (65536 : Int32) = some (nI (m / 65536)) := n_dI (d := 65536) hx (by omega) (by omega)
          have hrI : rI (nI (m / 65536)) (100 : Int32) = some (nI (m / 65536 % 100)) := n_rI (d := 100) hx2 (by omega) (by omega)
          have o2' : (wI s o 1 (nI m)).2.2 68 1 = o := o2
          refine ⟨wI s o 1 (nI m), pre _ ?_, ⟨fun a ha => wI_ne (by omega), rfl, fun _ _ => rfl⟩, ⟨?_, ?_, ?_, ?_, ?_⟩, fun q hq => ?_, fun v hv => ?_⟩
          · rw [if_neg (fun h => g1 (e2.mp h)), if_pos (fun h => g2 (d0.mp h)), if_neg (fun h => g3 (e1.mp h)), if_pos (fun h => g4 (d100.mp h)), nx, bnd_s (v := mk (wI s o 1 (nI m))) (by simp only [B_s hn ho]), bnd_s (v := o) (by simp (disch := first | omega | assumption | (simp only [wL_1, wL_22, wI_2, wA_2, wQ_1, wQ_21] <;> first | assumption | omega)) only [B_d2 hn ht ho]), bnd_s (v := nI m) (by simp only [B_s hn ho, wI_at, upd_at]), hdI, Option.bind_some, hrI, Option.bind_some]
            by_cases g5 : T 0 7 ≤ m / 65536 % 100
            · rw [if_pos ((nI_leI (by omega) hx3).mpr g5), decide_eq_false (by omega)]
              rfl
            · rw [if_neg (fun h => g5 ((nI_leI (by omega) hx3).mp h)), decide_eq_true (by omega)]
              rfl
          · simp (disch := omega) only [wI_at, upd_ne, s1]
          · simp (disch := omega) only [wI_at, upd_at]
          · simp (disch := omega) only [wI_at, upd_ne, s3]
          · simp (disch := omega) only [wI_at, upd_ne, s4]
          · simp (disch := omega) only [wI_at, upd_ne, s5]
          · simp (disch := omega) only [wI_ne]
            exact s6 q hq
          · simp (disch := omega) only [wI_ne]
            exact s7 v hv
theorem c_pass (hn : 236 ≤ n) (ht : t = 6 ∨ t = 29) (ho : isS o) (hW : WT T) (hT : cTd s.1 t T) (hO : cOd s t o T O) (hS : cSd s.1 o T S) (hwO : wO T O) (hD : wD T S) : ∃ s' : zS, fX0_pass n (mk s) 68 = some ((), mk s') ∧ frD t o s s' ∧ cSd s'.1 o T (dayV T O S) := by
  have h0 := hW.1
  have hb := is_b ho
  obtain ⟨sa, ea, fA, hSa⟩ := c_snow hn ht ho hW hT hO hS hwO hD
  have hDa : wD T (S.1, S.2.1, S.2.2.1, S.2.2.2.1, (snV T O S.2.2.2.2).2) := ⟨snV_lt hD.1, hD.2⟩
  obtain ⟨sb, eb, fB, hSb⟩ := c_walks (sn := (snV T O S.2.2.2.2).1) hn ht ho hW (cTd_D ht ho fA hT) (cOd_D ho fA hO) hSa hwO hDa
  have fAB := frD_t fA fB
  have hDb := lpF_i (f := wkV T O (snV T O S.2.2.2.2).1) (P := wD T) (m := T 0 3) (fun k s hk hs => wkV_w hW hk hs) hDa
  unfold fX0_pass dayV
  simp (disch := first | omega | assumption | (simp only [wL_1, wL_22, wI_2, wA_2, wQ_1, wQ_21] <;> first | assumption | omega)) only [LIT, LITm, nI_add, n_mul, fa_or, n_31m, n_shl0, n_le, n_lt, n_eq, Option.bind_some, B_dy hn, ea, eb]
  revert hSb hDb
  generalize lpF (wkV T O (snV T O S.2.2.2.2).1) (T 0 3) (S.1, S.2.1, S.2.2.1, S.2.2.2.1, (snV T O S.2.2.2.2).2) = S1
  intro hSb hDb
  have fin : ∀ (sx : zS) (S2 : zD), frD t o s sx → cSd sx.1 o T S2 → wD T S2 → ∃ s' : zS, fX0_pass_48 n bi_K (mk sx) 68 (nI 0) = some ((), mk s') ∧ frD t o s s' ∧ cSd s'.1 o T (upd (lpF (lfV T) (T 0 2) S2).1 0 ((lpF (lfV T) (T 0 2) S2).1 0 + 1), (lpF (lfV T) (T 0 2) S2).2) := by
    intro sx S2 fX hSx hDx
    refine lp_up (F := fun k (s1 : zS) i => fX0_pass_48 n k (mk s1) 68 (nI i)) (N := T 0 2) (P := fun i s1 => frD t o s s1 ∧ cSd s1.1 o T (lpF (lfV T) i S2)) (Q := fun r => ∃ s' : zS, r = some ((), mk s') ∧ frD t o s s' ∧ cSd s'.1 o T (upd (lpF (lfV T) (T 0 2) S2).1 0 ((lpF (lfV T) (T 0 2) S2).1 0 + 1), (lpF (lfV T) (T 0 2) S2).2)) ?_ ?_ (T 0 2) bi_K sx 0 (by omega) (by unfold bi_K; omega) ⟨fX, hSx⟩
    · intro k sy i hi hP
      obtain ⟨fY, hSy⟩ := hP
      have hTy := cTd_D ht ho fY hT
      have hOy := cOd_D ho fY hO
      have o1y := hOy.1
      have o2y := hOy.2.1
      have hw' := WT_w hW hi
      left
      refine ⟨wI sy (o + 4) i (nI (T 11 i)), ?_, frD_t fY (frD_I (k := 4) (by omega)), ?_⟩
      · simp (disch := first | omega | assumption | (simp only [wL_1, wL_22, wI_2, wA_2, wQ_1, wQ_21] <;> first | assumption | omega)) only [fX0_pass_48, fX0_pass_48b, LIT, LITm, nI_add, n_mul, fa_or, n_31m, n_shl0, n_le, n_lt, n_eq, Option.bind_some, B_dy hn, B_d2 hn ht ho, B_t hn ht, B_s hn ho, CT hn ht hW, CTp t T, show ¬ T 0 2 ≤ i by omega, ↓reduceIte]
      · show cSd _ o T (lfV T i (lpF (lfV T) i S2))
        revert hSy
        generalize lpF (lfV T) i S2 = S3
        intro hSy
        obtain ⟨⟨s1, s2, s3, s4, s5⟩, s6, s7⟩ := hSy
        refine ⟨⟨?_, ?_, ?_, ?_, ?_⟩, fun q hq => ⟨?_, ?_⟩, fun v hv => ⟨?_, ?_⟩⟩
        · simp (disch := omega) only [wI_ne, s1, lfV]
        · simp (disch := omega) only [wI_ne, s2, lfV]
        · simp (disch := omega) only [wI_ne, s3, lfV]
        · simp (disch := omega) only [wI_ne, s4, lfV]
        · simp (disch := omega) only [wI_ne, s5, lfV]
        · simp (disch := omega) only [wI_ne, (s6 q hq).1, lfV]
        · simp (disch := omega) only [wI_ne, (s6 q hq).2, lfV, up2_g, show ¬ (2 = 1) by omega, false_and, ↓reduceIte]
        · simp (disch := omega) only [wI_ne, (s7 v hv).1, lfV, up2_g, show ¬ (0 = 1) by omega, false_and, ↓reduceIte]
        · by_cases e : v = i
          · subst e
            simp (disch := omega) only [wI_at, upd_at, lfV, up2_g, and_self, ↓reduceIte]
          · simp (disch := omega) only [wI_at, upd_ne, (s7 v hv).2, lfV, up2_g, e, and_false, ↓reduceIte]
    · intro k sy hP
      obtain ⟨fY, hSy⟩ := hP
      have hTy := cTd_D ht ho fY hT
      have hOy := cOd_D ho fY hO
      have o1y := hOy.1
      have o2y := hOy.2.1
      revert hSy
      generalize lpF (lfV T) (T 0 2) S2 = S3
      intro hSy
      obtain ⟨⟨s1, s2, s3, s4, s5⟩, s6, s7⟩ := hSy
      refine ⟨wI sy o 0 (S3.1 0 + nI 1), ?_, frD_t fY ⟨fun a ha => wI_ne (by omega), rfl, fun _ _ => rfl⟩, ⟨?_, ?_, ?_, ?_, ?_⟩, fun q hq => ?_, fun v hv => ?_⟩
      · simp (disch := first | omega | assumption | (simp only [wL_1, wL_22, wI_2, wA_2, wQ_1, wQ_21] <;> first | assumption | omega)) only [fX0_pass_48, fX0_pass_48b, LIT, LITm, nI_add, n_mul, fa_or, n_31m, n_shl0, n_le, n_lt, n_eq, Option.bind_some, B_dy hn, B_d2 hn ht ho, B_t hn ht, B_s hn ho, CT hn ht hW, CTp t T, s1, Nat.le_refl, ↓reduceIte]
      · simp (disch := omega) only [wI_at, upd_at]
        rfl
      · simp (disch := omega) only [wI_at, upd_ne, s2]
      · simp (disch := omega) only [wI_at, upd_ne, s3]
      · simp (disch := omega) only [wI_at, upd_ne, s4]
      · simp (disch := omega) only [wI_at, upd_ne, s5]
      · simp (disch := omega) only [wI_ne]
        exact s6 q hq
      · simp (disch := omega) only [wI_ne]
        exact s7 v hv
  refine lp_up (F := fun k (s1 : zS) i => fX0_pass_10 n k (mk s1) 68 (nI i)) (N := T 0 1) (P := fun i s1 => frD t o s s1 ∧ cSd s1.1 o T (lpF (grV T O) i S1)) (Q := fun r => ∃ s' : zS, r = some ((), mk s') ∧ frD t o s s' ∧ cSd s'.1 o T (upd (lpF (lfV T) (T 0 2) (lpF (grV T O) (T 0 1) S1)).1 0 ((lpF (lfV T) (T 0 2) (lpF (grV T O) (T 0 1) S1)).1 0 + 1), (lpF (lfV T) (T 0 2) (lpF (grV T O) (T 0 1) S1)).2)) ?_ ?_ (T 0 1) bi_K sb 0 (by omega) (by unfold bi_K; omega) ⟨fAB, hSb⟩
  · intro k sy i hi hP
    obtain ⟨fY, hSy⟩ := hP
    have hTy := cTd_D ht ho fY hT
    have hOy := cOd_D ho fY hO
    have o1y := hOy.1
    have o2y := hOy.2.1
    have hp' := WT_p hW hi
    have hDy : wD T (lpF (grV T O) i S1) := lpF_i (P := wD T) (fun k s hk hs => grV_w hs) hDb
    show (∃ s', _ = _ ∧ _ ∧ cSd _ o T (grV T O i (lpF (grV T O) i S1))) ∨ _
    revert hSy hDy
    generalize lpF (grV T O) i S1 = S3
    intro hSy hDy
    have K := c_isKept hn ho hSy.1.2.2.2.2 (wD_k hW hDy) hp'.2.2.2.2.2.2.2
    left
    cases g : S3.2.2.2.1.testBit i with
    | false =>
      rw [g] at K
      refine ⟨sy, ?_, fY, ?_⟩
      · simp (disch := first | omega | assumption | (simp only [wL_1, wL_22, wI_2, wA_2, wQ_1, wQ_21] <;> first | assumption | omega)) only [fX0_pass_10, fX0_pass_10b, fX0_pass_40, LIT, LITm, nI_add, n_mul, fa_or, n_31m, n_shl0, n_le, n_lt, n_eq, Option.bind_some, B_dy hn, B_d2 hn ht ho, B_t hn ht, B_s hn ho, CT hn ht hW, CTp t T, K, Bool.toNat_false, show ¬ T 0 1 ≤ i by omega, ↓reduceIte]
      · unfold grV
        rw [if_neg (by rw [g]; decide)]
        exact hSy
    | true =>
      rw [g] at K
      obtain ⟨sz, ez, fZ, hSz⟩ := c_grow hn ht ho hW hTy hOy hSy hwO hDy hi g
      refine ⟨sz, ?_, frD_t fY fZ, hSz⟩
      simp (disch := first | omega | assumption | (simp only [wL_1, wL_22, wI_2, wA_2, wQ_1, wQ_21] <;> first | assumption | omega)) only [fX0_pass_10, fX0_pass_10b, fX0_pass_40, LIT, LITm, nI_add, n_mul, fa_or, n_31m, n_shl0, n_le, n_lt, n_eq, Option.bind_some, B_dy hn, B_d2 hn ht ho, B_t hn ht, B_s hn ho, CT hn ht hW, CTp t T, K, ez, Bool.toNat_true, show ¬ (1 = 0) by omega, show ¬ T 0 1 ≤ i by omega, ↓reduceIte]
  · intro k sy hP
    obtain ⟨fY, hSy⟩ := hP
    have hTy := cTd_D ht ho fY hT
    have hOy := cOd_D ho fY hO
    have o1y := hOy.1
    have hDy : wD T (lpF (grV T O) (T 0 1) S1) := lpF_i (P := wD T) (fun k s hk hs => grV_w hs) hDb
    obtain ⟨sz, ez, fZ, hSz⟩ := fin sy _ fY hSy hDy
    refine ⟨sz, ?_, fZ, hSz⟩
    simp (disch := first | omega | assumption | (simp only [wL_1, wL_22, wI_2, wA_2, wQ_1, wQ_21] <;> first | assumption | omega)) only [fX0_pass_10, fX0_pass_10b, fX0_pass_40, LIT, LITm, nI_add, n_mul, fa_or, n_31m, n_shl0, n_le, n_lt, n_eq, Option.bind_some, B_dy hn, B_d2 hn ht ho, B_t hn ht, B_s hn ho, CT hn ht hW, CTp t T, ez, Nat.le_refl, ↓reduceIte]
end De
/-! FILE 41.mlaw -/
/-! ===== what a text told, and a law's value, in the reference's cells ===== -/
/-- the reference's number of a sign -/
def mcd (k : Nat) : Nat := if k = 13 then 3 else if k = 12 then 4 else k - 22
def mkS (I : Nat → Nat → Int32) (T : zT) (i : Nat) (l : List Nat) : Prop :=
  (T 21 i = 23 → I 209 i = nI 0 ∧ I 210 i = nI (T 22 i)) ∧ (15 ≤ T 21 i ∧ T 21 i ≤ 21 → I 209 i = nI 1 ∧ I 210 i = nI (T 21 i - 15)) ∧
  (T 21 i = 14 → I 209 i = nI 2 ∧ ∀ a r, l = a :: r → I 210 i = nI a) ∧
  ((T 21 i = 12 ∨ T 21 i = 13 ∨ (27 ≤ T 21 i ∧ T 21 i ≤ 36)) → I 209 i = nI (mcd (T 21 i)) ∧ ∀ b a r, l = b :: a :: r → I 210 i = nI a ∧ I 211 i = nI b)
def mLw (I : Nat → Nat → Int32) (T : zT) (w : Nat) : Prop := ∃ H : Nat → List Nat, H (T 19 w) = [] ∧ H (T 20 w) = [T 20 w - 1] ∧ ∀ i, T 19 w ≤ i → i < T 20 w → wfS T i (H i) (H (i + 1)) ∧ mkS I T i (H i)
def mTd (I : Nat → Nat → Int32) (T : zT) : Prop :=
  (I 184 12 = nI (T 0 0) ∧ I 184 13 = nI (T 0 1) ∧ I 184 14 = nI (T 0 2) ∧ I 184 15 = nI (T 0 3) ∧ I 184 16 = nI (T 0 4) ∧ I 184 17 = nI (T 0 5)) ∧
  (I 188 0 = nI (T 0 6) ∧ I 188 1 = nI (T 0 7) ∧ I 188 2 = nI (T 0 8)) ∧
  (∀ i, i < T 0 0 → I 189 i = nI (T 1 i)) ∧
  (∀ p, p < T 0 1 → I 190 p = nI (T 2 p) ∧ I 191 p = nI (T 3 p) ∧ I 192 p = nI (T 4 p) ∧ I 193 p = nI (T 5 p) ∧ I 194 p = nI (T 6 p) ∧ I 195 p = nI (T 7 p)) ∧
  (∀ w, w < T 0 2 → I 196 w = nI (T 8 w) ∧ I 197 w = nI (T 9 w) ∧ I 198 w = nI (T 10 w) ∧ I 199 w = nI (T 11 w)) ∧
  (∀ k, k < T 0 3 → I 200 k = nI (T 12 k) ∧ I 201 k = nI (T 13 k) ∧ I 202 k = nI (T 14 k)) ∧
  (∀ b, b < T 0 4 → I 203 b = nI (T 15 b) ∧ I 204 b = nI (T 16 b) ∧ I 205 b = nI (T 17 b)) ∧
  (∀ w, w < 3 → (T 18 w = 0 → I 206 w = nI 0) ∧ (T 18 w ≠ 0 → I 206 w = nI 1 ∧ I 207 w = nI (T 19 w) ∧ I 208 w = nI (T 20 w) ∧ mLw I T w))
theorem fits_b {b : Nat} (h : b ≤ 1) : fits .boolean (.int (nI b)) = true := by
  rcases (by omega : b = 0 ∨ b = 1) with rfl | rfl <;> rfl
theorem nar_b {b : Nat} (h : b ≤ 1) : vp_nar .boolean (nI b) = nI b := by
  rcases (by omega : b = 0 ∨ b = 1) with rfl | rfl <;> rfl
theorem B_mz {n : Nat} (hn : 236 ≤ n) : (∀ (s : zS) (b : Nat), b ≤ 1 → sF n (mk s) 184 11 55 .boolean (.int (nI b)) = some (mk (wI s 184 55 (nI b)))) ∧
  (∀ (s : zS) (b : Nat), b ≤ 1 → sF n (mk s) 184 11 56 .boolean (.int (nI b)) = some (mk (wI s 184 56 (nI b)))) ∧
  (∀ (s : zS) (b : Nat), b ≤ 1 → sF n (mk s) 184 11 59 .boolean (.int (nI b)) = some (mk (wI s 184 59 (nI b)))) ∧
  (∀ (s : zS) (b : Nat), b ≤ 1 → sF n (mk s) 184 11 69 .boolean (.int (nI b)) = some (mk (wI s 184 69 (nI b)))) ∧
  (∀ (s : zS) (b : Nat), b ≤ 1 → sF n (mk s) 184 11 70 .boolean (.int (nI b)) = some (mk (wI s 184 70 (nI b)))) ∧
  (∀ (s : zS) (b : Nat), b ≤ 1 → sF n (mk s) 184 11 71 .boolean (.int (nI b)) = some (mk (wI s 184 71 (nI b)))) ∧
  (∀ (s : zS) (b : Nat), b ≤ 1 → sF n (mk s) 184 11 72 .boolean (.int (nI b)) = some (mk (wI s 184 72 (nI b)))) ∧
  (∀ (s : zS) (b : Nat), b ≤ 1 → sF n (mk s) 184 11 73 .boolean (.int (nI b)) = some (mk (wI s 184 73 (nI b)))) ∧
  (∀ (s : zS) (b : Nat), b ≤ 1 → sF n (mk s) 184 11 91 .boolean (.int (nI b)) = some (mk (wI s 184 91 (nI b)))) :=
  ⟨fun s b hb => mk_sI rfl rfl (fits_b hb) ⟨by omega, by omega⟩ (Or.inl (by omega)), fun s b hb => mk_sI rfl rfl (fits_b hb) ⟨by omega, by omega⟩ (Or.inl (by omega)), fun s b hb => mk_sI rfl rfl (fits_b hb) ⟨by omega, by omega⟩ (Or.inl (by omega)),
   fun s b hb => mk_sI rfl rfl (fits_b hb) ⟨by omega, by omega⟩ (Or.inl (by omega)), fun s b hb => mk_sI rfl rfl (fits_b hb) ⟨by omega, by omega⟩ (Or.inl (by omega)), fun s b hb => mk_sI rfl rfl (fits_b hb) ⟨by omega, by omega⟩ (Or.inl (by omega)),
   fun s b hb => mk_sI rfl rfl (fits_b hb) ⟨by omega, by omega⟩ (Or.inl (by omega)), fun s b hb => mk_sI rfl rfl (fits_b hb) ⟨by omega, by omega⟩ (Or.inl (by omega)), fun s b hb => mk_sI rfl rfl (fits_b hb) ⟨by omega, by omega⟩ (Or.inl (by omega))⟩
theorem wfL_mem {T : zT} {a b : Nat} {H : Nat → List Nat} (H0 : H a = []) (Hs : ∀ i, a ≤ i → i < b → wfS T i (H i) (H (i + 1))) : ∀ i, a ≤ i → i ≤ b → ∀ x, x ∈ H i → a ≤ x ∧ x < i := by
  intro i
  induction i with
  | zero =>
    intro h1 h2 x hx
    have : a = 0 := by omega
    subst this
    rw [H0] at hx
    cases hx
  | succ i ih =>
    intro h1 h2 x hx
    by_cases h : a = i + 1
    · subst h
      rw [H0] at hx
      cases hx
    · have h3 := ih (by omega) (by omega)
      rcases Hs i (by omega) (by omega) with ⟨-, e⟩ | ⟨-, c, r, e1, e2⟩ | ⟨-, d, c, r, e1, e2⟩
      · rw [e] at hx
        rcases List.mem_cons.mp hx with e | e
        · omega
        · have := h3 x e
          omega
      · rw [e2] at hx
        rcases List.mem_cons.mp hx with e | e
        · omega
        · have := h3 x (by rw [e1]; exact List.mem_cons_of_mem _ e)
          omega
      · rw [e2] at hx
        rcases List.mem_cons.mp hx with e | e
        · omega
        · have := h3 x (by rw [e1]; exact List.mem_cons_of_mem _ (List.mem_cons_of_mem _ e))
          omega
/-- only the flag of an error changes -/
def frE (s s' : zS) : Prop := s'.2 = s.2 ∧ ∀ a j, ¬ (a = 184 ∧ j = 59) → s'.1 a j = s.1 a j
theorem frE_r {s : zS} : frE s s := ⟨rfl, fun _ _ _ => rfl⟩
theorem frE_w {s : zS} {x : Int32} : frE s (wI s 184 59 x) := ⟨rfl, fun a j h => by rw [wI_g, if_neg h]⟩
section Ml
variable {n i k e : Nat} {s : zS}
theorem m_bounded (hn : 236 ≤ n) (he : s.1 184 59 = nI e) (he1 : e ≤ 1) {x : Int64} : fX11_bounded n (mk s) 184 x = some ((if e = 0 then bdV x else none).getD 0, mk (wI s 184 59 (nI (if e = 0 ∧ (bdV x).isSome = true then 0 else 1)))) := by
  unfold fX11_bounded fX11_bounded_24 fX11_bounded_29
  rcases (by omega : e = 0 ∨ e = 1) with rfl | rfl
  · by_cases c1 : (1000000000000 : Int64) < x
    · have hb : ¬ bdd x := fun h => by
        rw [fa_lt64, show (1000000000000 : Int64).toInt = 1000000000000 by decide] at c1
        have := h.2
        omega
      simp (disch := first | omega | assumption | (simp only [wL_1, wL_22, wI_2, wA_2, wQ_1, wQ_21] <;> first | assumption | omega)) only [LIT, LITm, nI_add, n_mul, fa_or, n_31m, n_shl0, n_le, n_lt, n_eq, Option.bind_some, B_m hn, B_mz hn, he, CMP, c1, wI_at, upd_at, not_true_eq_false, show ¬ (1 = 0) by omega, ↓reduceIte, show bdV x = none from if_neg hb, Option.isSome_none, Bool.false_eq_true, and_false]
      rfl
    · by_cases c2 : (-1000000000000 : Int64) ≤ x
      · have hb : bdd x := by
          rw [fa_lt64, show (1000000000000 : Int64).toInt = 1000000000000 by decide] at c1
          rw [fa_le64, show (-1000000000000 : Int64).toInt = -1000000000000 by decide] at c2
          exact ⟨c2, by omega⟩
        simp (disch := first | omega | assumption | (simp only [wL_1, wL_22, wI_2, wA_2, wQ_1, wQ_21] <;> first | assumption | omega)) only [LIT, LITm, nI_add, n_mul, fa_or, n_31m, n_shl0, n_le, n_lt, n_eq, Option.bind_some, B_m hn, B_mz hn, he, CMP, c1, c2, wI_at, upd_at, not_true_eq_false, ↓reduceIte, bdV_some hb, Option.isSome_some, and_self]
        rfl
      · have hb : ¬ bdd x := fun h => by
          rw [fa_le64, show (-1000000000000 : Int64).toInt = -1000000000000 by decide] at c2
          exact c2 h.1
        simp (disch := first | omega | assumption | (simp only [wL_1, wL_22, wI_2, wA_2, wQ_1, wQ_21] <;> first | assumption | omega)) only [LIT, LITm, nI_add, n_mul, fa_or, n_31m, n_shl0, n_le, n_lt, n_eq, Option.bind_some, B_m hn, B_mz hn, he, CMP, c1, c2, wI_at, upd_at, not_true_eq_false, show ¬ (1 = 0) by omega, ↓reduceIte, show bdV x = none from if_neg hb, Option.isSome_none, Bool.false_eq_true, and_false]
        rfl
  · simp (disch := first | omega | assumption | (simp only [wL_1, wL_22, wI_2, wA_2, wQ_1, wQ_21] <;> first | assumption | omega)) only [LIT, LITm, nI_add, n_mul, fa_or, n_31m, n_shl0, n_le, n_lt, n_eq, Option.bind_some, B_m hn, B_mz hn, he, CMP, wI_at, upd_at, not_false_eq_true, show ¬ (1 = 0) by omega, ↓reduceIte, false_and]
    rfl
theorem m_times (hn : 236 ≤ n) (he : s.1 184 59 = nI e) (he1 : e ≤ 1) {a b : Int64} (hab : e = 0 → bdd a ∧ bdd b) : fX11_times n (mk s) 184 a b = some ((if e = 0 then (if a.toInt.natAbs * b.toInt.natAbs ≤ 1000000000000 then some (a * b) else none) else none).getD 0, mk (wI s 184 59 (nI (if e = 0 ∧ a.toInt.natAbs * b.toInt.natAbs ≤ 1000000000000 then 0 else 1)))) := by
  have z : (0 : Int64).toInt = 0 := by decide
  have k1 : ∀ c : Nat, c ≤ 1 → (e = 0 → (c = 0 ↔ a.toInt.natAbs * b.toInt.natAbs ≤ 1000000000000)) → fX11_times_49 n (mk s) 184 a b (nI c) = some ((if e = 0 then (if a.toInt.natAbs * b.toInt.natAbs ≤ 1000000000000 then some (a * b) else none) else none).getD 0, mk (wI s 184 59 (nI (if e = 0 ∧ a.toInt.natAbs * b.toInt.natAbs ≤ 1000000000000 then 0 else 1)))) := by
    intro c hc hcc
    unfold fX11_times_49 fX11_times_64 fX11_times_69
    rcases (by omega : e = 0 ∨ e = 1) with rfl | rfl
    · have := hcc rfl
      rcases (by omega : c = 0 ∨ c = 1) with rfl | rfl
      · have h := this.mp rfl
        simp (disch := first | omega | assumption | (simp only [wL_1, wL_22, wI_2, wA_2, wQ_1, wQ_21] <;> first | assumption | omega)) only [LIT, LITm, nI_add, n_mul, fa_or, n_31m, n_shl0, n_le, n_lt, n_eq, Option.bind_some, B_m hn, B_mz hn, he, wI_at, upd_at, not_true_eq_false, ↓reduceIte, h, and_self]
        rfl
      · have h : ¬ a.toInt.natAbs * b.toInt.natAbs ≤ 1000000000000 := fun h => by have := this.mpr h; omega
        simp (disch := first | omega | assumption | (simp only [wL_1, wL_22, wI_2, wA_2, wQ_1, wQ_21] <;> first | assumption | omega)) only [LIT, LITm, nI_add, n_mul, fa_or, n_31m, n_shl0, n_le, n_lt, n_eq, Option.bind_some, B_m hn, B_mz hn, he, wI_at, upd_at, not_true_eq_false, show ¬ (1 = 0) by omega, ↓reduceIte, h, and_false]
        rfl
    · simp (disch := first | omega | assumption | (simp only [wL_1, wL_22, wI_2, wA_2, wQ_1, wQ_21] <;> first | assumption | omega)) only [LIT, LITm, nI_add, n_mul, fa_or, n_31m, n_shl0, n_le, n_lt, n_eq, Option.bind_some, B_m hn, B_mz hn, he, wI_at, upd_at, not_false_eq_true, show ¬ (1 = 0) by omega, ↓reduceIte, false_and]
      rfl
  unfold fX11_times fX11_times_24 fX11_times_39 fX11_times_48
  by_cases ha : a = 0
  · simp (disch := first | omega | assumption | (simp only [wL_1, wL_22, wI_2, wA_2, wQ_1, wQ_21] <;> first | assumption | omega)) only [LIT, LITm, nI_add, n_mul, fa_or, n_31m, n_shl0, n_le, n_lt, n_eq, Option.bind_some, B_m hn, CMP, ha, ↓reduceIte]
    rw [ha] at k1
    exact k1 0 (by omega) (fun _ => ⟨fun _ => by rw [z]; simp, fun _ => rfl⟩)
  · by_cases hb : b = 0
    · simp (disch := first | omega | assumption | (simp only [wL_1, wL_22, wI_2, wA_2, wQ_1, wQ_21] <;> first | assumption | omega)) only [LIT, LITm, nI_add, n_mul, fa_or, n_31m, n_shl0, n_le, n_lt, n_eq, Option.bind_some, B_m hn, CMP, ha, hb, ↓reduceIte]
      rw [hb] at k1
      exact k1 0 (by omega) (fun _ => ⟨fun _ => by rw [z]; simp, fun _ => rfl⟩)
    · have na : a.toInt ≠ 0 := fun h => ha (Int64.toInt_inj.mp (by rw [h, z]))
      have nb : b.toInt ≠ 0 := fun h => hb (Int64.toInt_inj.mp (by rw [h, z]))
      have ea : absV a = if (0 : Int64) ≤ a then a else -a := by
        unfold absV
        by_cases h : (0 : Int64) < a
        · rw [if_pos h, if_pos (by rw [fa_le64, z]; rw [fa_lt64, z] at h; omega)]
        · rw [if_neg h, if_neg (by rw [fa_le64, z]; rw [fa_lt64, z] at h; omega)]
      have eb : absV b = if (0 : Int64) ≤ b then b else -b := by
        unfold absV
        by_cases h : (0 : Int64) < b
        · rw [if_pos h, if_pos (by rw [fa_le64, z]; rw [fa_lt64, z] at h; omega)]
        · rw [if_neg h, if_neg (by rw [fa_le64, z]; rw [fa_lt64, z] at h; omega)]
      have hq : ∃ q, dJ (1000000000000 : Int64) (absV a) = some q ∧ (e = 0 → (absV b ≤ q ↔ a.toInt.natAbs * b.toInt.natAbs ≤ 1000000000000)) := by
        rcases (by omega : e = 0 ∨ e = 1) with rfl | rfl
        · obtain ⟨q, h1, h2⟩ := tm_q (hab rfl).1 (hab rfl).2 ha
          exact ⟨q, h1, fun _ => h2⟩
        · have hne : absV a ≠ 0 := by
            rw [ea]
            split
            · exact ha
            · intro h
              have h2 := congrArg Neg.neg h
              rw [Int64.neg_neg] at h2
              exact ha (by rw [h2]; rfl)
          exact ⟨_, if_neg hne, fun h => by omega⟩
      obtain ⟨q, hq1, hq2⟩ := hq
      have fin : (if absV b ≤ q then fX11_times_49 n (mk s) 184 a b (nI 0) else fX11_times_49 n (mk s) 184 a b (nI 1)) = some ((if e = 0 then (if a.toInt.natAbs * b.toInt.natAbs ≤ 1000000000000 then some (a * b) else none) else none).getD 0, mk (wI s 184 59 (nI (if e = 0 ∧ a.toInt.natAbs * b.toInt.natAbs ≤ 1000000000000 then 0 else 1)))) := by
        by_cases h : absV b ≤ q
        · rw [if_pos h]
          exact k1 0 (by omega) (fun h0 => ⟨fun _ => (hq2 h0).mp h, fun _ => rfl⟩)
        · rw [if_neg h]
          exact k1 1 (by omega) (fun h0 => ⟨fun h1 => by omega, fun h1 => absurd ((hq2 h0).mpr h1) h⟩)
      rw [eb] at fin
      rw [ea] at hq1
      by_cases h1 : (0 : Int64) ≤ a
      · rw [if_pos h1] at hq1
        by_cases h2 : (0 : Int64) ≤ b
        · rw [if_pos h2] at fin
          simp (disch := first | omega | assumption | (simp only [wL_1, wL_22, wI_2, wA_2, wQ_1, wQ_21] <;> first | assumption | omega)) only [LIT, LITm, nI_add, n_mul, fa_or, n_31m, n_shl0, n_le, n_lt, n_eq, Option.bind_some, B_m hn, CMP, ha, hb, h1, h2, hq1, ↓reduceIte]
          exact fin
        · rw [if_neg h2] at fin
          simp (disch := first | omega | assumption | (simp only [wL_1, wL_22, wI_2, wA_2, wQ_1, wQ_21] <;> first | assumption | omega)) only [LIT, LITm, nI_add, n_mul, fa_or, n_31m, n_shl0, n_le, n_lt, n_eq, Option.bind_some, B_m hn, CMP, ha, hb, h1, h2, hq1, ↓reduceIte]
          exact fin
      · rw [if_neg h1] at hq1
        by_cases h2 : (0 : Int64) ≤ b
        · rw [if_pos h2] at fin
          simp (disch := first | omega | assumption | (simp only [wL_1, wL_22, wI_2, wA_2, wQ_1, wQ_21] <;> first | assumption | omega)) only [LIT, LITm, nI_add, n_mul, fa_or, n_31m, n_shl0, n_le, n_lt, n_eq, Option.bind_some, B_m hn, CMP, ha, hb, h1, h2, hq1, ↓reduceIte]
          exact fin
        · rw [if_neg h2] at fin
          simp (disch := first | omega | assumption | (simp only [wL_1, wL_22, wI_2, wA_2, wQ_1, wQ_21] <;> first | assumption | omega)) only [LIT, LITm, nI_add, n_mul, fa_or, n_31m, n_shl0, n_le, n_lt, n_eq, Option.bind_some, B_m hn, CMP, ha, hb, h1, h2, hq1, ↓reduceIte]
          exact fin
theorem m_cmp {h : ai_H} {a b : Int64} : fX11_compares n h (nI 5) a b = some (nI (if a < b then 1 else 0), h) ∧ fX11_compares n h (nI 6) a b = some (nI (if a ≤ b then 1 else 0), h) ∧ fX11_compares n h (nI 7) a b = some (nI (if a = b then 1 else 0), h) ∧ fX11_compares n h (nI 8) a b = some (nI (if a ≠ b then 1 else 0), h) ∧ fX11_compares n h (nI 9) a b = some (nI (if b ≤ a then 1 else 0), h) ∧ fX11_compares n h (nI 10) a b = some (nI (if b < a then 1 else 0), h) := by
  unfold fX11_compares
  simp (disch := omega) only [LIT, LITm, nI_add, n_mul, fa_or, n_31m, n_shl0, n_le, n_lt, n_eq, Option.bind_some, CMP, Nat.reduceEqDiff, Nat.reduceLeDiff, ↓reduceIte]
  refine ⟨?_, ?_, ?_, ?_, ?_, ?_⟩
  · by_cases q1 : b ≤ a
    · rw [if_pos q1, if_neg (by rw [fa_lt64]; rw [fa_le64] at q1; omega)]
    · rw [if_neg q1, if_pos (by rw [fa_lt64]; rw [fa_le64] at q1; omega)]
  · by_cases q1 : b < a
    · rw [if_pos q1, if_neg (by rw [fa_le64]; rw [fa_lt64] at q1; omega)]
    · rw [if_neg q1, if_pos (by rw [fa_le64]; rw [fa_lt64] at q1; omega)]
  · by_cases q1 : a = b <;> simp [q1]
  · by_cases q1 : a = b <;> simp [q1]
  · by_cases q1 : a < b
    · rw [if_pos q1, if_neg (by rw [fa_le64]; rw [fa_lt64] at q1; omega)]
    · rw [if_neg q1, if_pos (by rw [fa_le64]; rw [fa_lt64] at q1; omega)]
  · by_cases q1 : a ≤ b
    · rw [if_pos q1, if_neg (by rw [fa_lt64]; rw [fa_le64] at q1; omega)]
    · rw [if_neg q1, if_pos (by rw [fa_lt64]; rw [fa_le64] at q1; omega)]
/-- a sign that joins two, by the reference -/
theorem m_op (hn : 236 ≤ n) (hi : i < 64) (he : s.1 184 59 = nI e) (he1 : e ≤ 1) {pa pb : Nat} {a b : Int64} (h1 : s.1 209 i = nI (mcd k)) (h2 : s.1 210 i = nI pa) (h3 : s.1 211 i = nI pb) (hpa : pa < 64) (hpb : pb < 64) (ea : s.2.1 215 pa = a) (eb : s.2.1 215 pb = b) (hk : k = 12 ∨ k = 13 ∨ (27 ≤ k ∧ k ≤ 36)) (hab : e = 0 → bdd a ∧ bdd b) : ∃ (v : Int64) (s' : zS) (e' : Nat), fX11_valueOf n (mk s) 184 (nI i) = some (v, mk s') ∧ frE s s' ∧ e' ≤ 1 ∧ s'.1 184 59 = nI e' ∧ (e = 1 → e' = 1) ∧ (e = 0 → (e' = 0 ∧ opV k a b = some v) ∨ (e' = 1 ∧ opV k a b = none)) := by
  have hk2 : k = 12 ∨ k = 13 ∨ k = 27 ∨ k = 28 ∨ k = 29 ∨ k = 30 ∨ k = 31 ∨ k = 32 ∨ k = 33 ∨ k = 34 ∨ k = 35 ∨ k = 36 := by omega
  have L : ∀ (v : Int64), opV k a b = some v → fX11_valueOf n (mk s) 184 (nI i) = some (v, mk s) → ∃ (v : Int64) (s' : zS) (e' : Nat), fX11_valueOf n (mk s) 184 (nI i) = some (v, mk s') ∧ frE s s' ∧ e' ≤ 1 ∧ s'.1 184 59 = nI e' ∧ (e = 1 → e' = 1) ∧ (e = 0 → (e' = 0 ∧ opV k a b = some v) ∨ (e' = 1 ∧ opV k a b = none)) := fun v h g => ⟨v, s, e, g, frE_r, he1, he, fun h => h, fun h0 => Or.inl ⟨h0, h⟩⟩
  rcases hk2 with rfl | rfl | rfl | rfl | rfl | rfl | rfl | rfl | rfl | rfl | rfl | rfl
  · refine L (b64 (a ≠ 0 ∨ b ≠ 0)) rfl ?_
    rw [show mcd 12 = 4 from rfl] at h1
    unfold fX11_valueOf fX11_valueOf_188
    simp (disch := first | omega | assumption | (simp only [wL_1, wL_22, wI_2, wA_2, wQ_1, wQ_21] <;> first | assumption | omega)) only [LIT, LITm, nI_add, n_mul, fa_or, n_31m, n_shl0, n_le, n_lt, n_eq, Option.bind_some, B_m hn, B_mb hn, h1, h2, h3, ea, eb, CMP, Nat.reduceEqDiff, Nat.reduceLeDiff, not_false_eq_true, ↓reduceIte]
    by_cases q1 : a = 0 <;> by_cases q2 : b = 0 <;> simp [q1, q2, b64]
  · refine L (b64 (a ≠ 0 ∧ b ≠ 0)) rfl ?_
    rw [show mcd 13 = 3 from rfl] at h1
    unfold fX11_valueOf fX11_valueOf_188
    simp (disch := first | omega | assumption | (simp only [wL_1, wL_22, wI_2, wA_2, wQ_1, wQ_21] <;> first | assumption | omega)) only [LIT, LITm, nI_add, n_mul, fa_or, n_31m, n_shl0, n_le, n_lt, n_eq, Option.bind_some, B_m hn, B_mb hn, h1, h2, h3, ea, eb, CMP, Nat.reduceEqDiff, Nat.reduceLeDiff, not_false_eq_true, ↓reduceIte]
    by_cases q1 : a = 0 <;> by_cases q2 : b = 0 <;> simp [q1, q2, b64]
  · refine L (b64 (a < b)) rfl ?_
    rw [show mcd 27 = 5 from rfl] at h1
    unfold fX11_valueOf fX11_valueOf_259
    simp (disch := first | omega | assumption | (simp only [wL_1, wL_22, wI_2, wA_2, wQ_1, wQ_21] <;> first | assumption | omega)) only [LIT, LITm, nI_add, n_mul, fa_or, n_31m, n_shl0, n_le, n_lt, n_eq, Option.bind_some, B_m hn, B_mb hn, h1, h2, h3, ea, eb, Nat.reduceEqDiff, Nat.reduceLeDiff, not_false_eq_true, ↓reduceIte, m_cmp]
    unfold b64
    by_cases q1 : a < b
    · rw [if_pos q1, if_pos q1, if_neg (by decide)]
    · rw [if_neg q1, if_neg q1, if_pos rfl]
  · refine L (b64 (a ≤ b)) rfl ?_
    rw [show mcd 28 = 6 from rfl] at h1
    unfold fX11_valueOf fX11_valueOf_259
    simp (disch := first | omega | assumption | (simp only [wL_1, wL_22, wI_2, wA_2, wQ_1, wQ_21] <;> first | assumption | omega)) only [LIT, LITm, nI_add, n_mul, fa_or, n_31m, n_shl0, n_le, n_lt, n_eq, Option.bind_some, B_m hn, B_mb hn, h1, h2, h3, ea, eb, Nat.reduceEqDiff, Nat.reduceLeDiff, not_false_eq_true, ↓reduceIte, m_cmp]
    unfold b64
    by_cases q1 : a ≤ b
    · rw [if_pos q1, if_pos q1, if_neg (by decide)]
    · rw [if_neg q1, if_neg q1, if_pos rfl]
  · refine L (b64 (a = b)) rfl ?_
    rw [show mcd 29 = 7 from rfl] at h1
    unfold fX11_valueOf fX11_valueOf_259
    simp (disch := first | omega | assumption | (simp only [wL_1, wL_22, wI_2, wA_2, wQ_1, wQ_21] <;> first | assumption | omega)) only [LIT, LITm, nI_add, n_mul, fa_or, n_31m, n_shl0, n_le, n_lt, n_eq, Option.bind_some, B_m hn, B_mb hn, h1, h2, h3, ea, eb, Nat.reduceEqDiff, Nat.reduceLeDiff, not_false_eq_true, ↓reduceIte, m_cmp]
    unfold b64
    by_cases q1 : a = b
    · rw [if_pos q1, if_pos q1, if_neg (by decide)]
    · rw [if_neg q1, if_neg q1, if_pos rfl]
  · refine L (b64 (a ≠ b)) rfl ?_
    rw [show mcd 30 = 8 from rfl] at h1
    unfold fX11_valueOf fX11_valueOf_259
    simp (disch := first | omega | assumption | (simp only [wL_1, wL_22, wI_2, wA_2, wQ_1, wQ_21] <;> first | assumption | omega)) only [LIT, LITm, nI_add, n_mul, fa_or, n_31m, n_shl0, n_le, n_lt, n_eq, Option.bind_some, B_m hn, B_mb hn, h1, h2, h3, ea, eb, Nat.reduceEqDiff, Nat.reduceLeDiff, not_false_eq_true, ↓reduceIte, m_cmp]
    unfold b64
    by_cases q1 : a ≠ b
    · rw [if_pos q1, if_pos q1, if_neg (by decide)]
    · rw [if_neg q1, if_neg q1, if_pos rfl]
  · refine L (b64 (b ≤ a)) rfl ?_
    rw [show mcd 31 = 9 from rfl] at h1
    unfold fX11_valueOf fX11_valueOf_259
    simp (disch := first | omega | assumption | (simp only [wL_1, wL_22, wI_2, wA_2, wQ_1, wQ_21] <;> first | assumption | omega)) only [LIT, LITm, nI_add, n_mul, fa_or, n_31m, n_shl0, n_le, n_lt, n_eq, Option.bind_some, B_m hn, B_mb hn, h1, h2, h3, ea, eb, Nat.reduceEqDiff, Nat.reduceLeDiff, not_false_eq_true, ↓reduceIte, m_cmp]
    unfold b64
    by_cases q1 : b ≤ a
    · rw [if_pos q1, if_pos q1, if_neg (by decide)]
    · rw [if_neg q1, if_neg q1, if_pos rfl]
  · refine L (b64 (b < a)) rfl ?_
    rw [show mcd 32 = 10 from rfl] at h1
    unfold fX11_valueOf fX11_valueOf_259
    simp (disch := first | omega | assumption | (simp only [wL_1, wL_22, wI_2, wA_2, wQ_1, wQ_21] <;> first | assumption | omega)) only [LIT, LITm, nI_add, n_mul, fa_or, n_31m, n_shl0, n_le, n_lt, n_eq, Option.bind_some, B_m hn, B_mb hn, h1, h2, h3, ea, eb, Nat.reduceEqDiff, Nat.reduceLeDiff, not_false_eq_true, ↓reduceIte, m_cmp]
    unfold b64
    by_cases q1 : b < a
    · rw [if_pos q1, if_pos q1, if_neg (by decide)]
    · rw [if_neg q1, if_neg q1, if_pos rfl]
  · rw [show mcd 33 = 11 from rfl] at h1
    refine ⟨(if e = 0 then bdV (a + b) else none).getD 0, _, (if e = 0 ∧ (bdV (a + b)).isSome = true then 0 else 1), ?_, frE_w, by split <;> omega, by rw [wI_at, upd_at], fun h => by rw [if_neg (by omega)], fun h => ?_⟩
    · unfold fX11_valueOf
      simp (disch := first | omega | assumption | (simp only [wL_1, wL_22, wI_2, wA_2, wQ_1, wQ_21] <;> first | assumption | omega)) only [LIT, LITm, nI_add, n_mul, fa_or, n_31m, n_shl0, n_le, n_lt, n_eq, Option.bind_some, B_m hn, B_mb hn, h1, h2, h3, ea, eb, CMP, Nat.reduceEqDiff, Nat.reduceLeDiff, not_false_eq_true, ↓reduceIte]
      rw [m_bounded hn he he1]
      rfl
    · show (_ ∧ bdV (a + b) = _) ∨ (_ ∧ bdV (a + b) = none)
      rw [if_pos h]
      cases bdV (a + b) with
      | some r => exact Or.inl ⟨if_pos ⟨h, rfl⟩, rfl⟩
      | none => exact Or.inr ⟨if_neg (fun g => by cases g.2), rfl⟩
  · rw [show mcd 34 = 12 from rfl] at h1
    refine ⟨(if e = 0 then bdV (a - b) else none).getD 0, _, (if e = 0 ∧ (bdV (a - b)).isSome = true then 0 else 1), ?_, frE_w, by split <;> omega, by rw [wI_at, upd_at], fun h => by rw [if_neg (by omega)], fun h => ?_⟩
    · unfold fX11_valueOf
      simp (disch := first | omega | assumption | (simp only [wL_1, wL_22, wI_2, wA_2, wQ_1, wQ_21] <;> first | assumption | omega)) only [LIT, LITm, nI_add, n_mul, fa_or, n_31m, n_shl0, n_le, n_lt, n_eq, Option.bind_some, B_m hn, B_mb hn, h1, h2, h3, ea, eb, CMP, Nat.reduceEqDiff, Nat.reduceLeDiff, not_false_eq_true, ↓reduceIte]
      rw [m_bounded hn he he1]
      rfl
    · show (_ ∧ bdV (a - b) = _) ∨ (_ ∧ bdV (a - b) = none)
      rw [if_pos h]
      cases bdV (a - b) with
      | some r => exact Or.inl ⟨if_pos ⟨h, rfl⟩, rfl⟩
      | none => exact Or.inr ⟨if_neg (fun g => by cases g.2), rfl⟩
  · rw [show mcd 35 = 13 from rfl] at h1
    refine ⟨(if e = 0 then (if a.toInt.natAbs * b.toInt.natAbs ≤ 1000000000000 then some (a * b) else none) else none).getD 0, _, (if e = 0 ∧ a.toInt.natAbs * b.toInt.natAbs ≤ 1000000000000 then 0 else 1), ?_, frE_w, by split <;> omega, by rw [wI_at, upd_at], fun h => by rw [if_neg (by omega)], fun h => ?_⟩
    · unfold fX11_valueOf
      simp (disch := first | omega | assumption | (simp only [wL_1, wL_22, wI_2, wA_2, wQ_1, wQ_21] <;> first | assumption | omega)) only [LIT, LITm, nI_add, n_mul, fa_or, n_31m, n_shl0, n_le, n_lt, n_eq, Option.bind_some, B_m hn, B_mb hn, h1, h2, h3, ea, eb, CMP, Nat.reduceEqDiff, Nat.reduceLeDiff, not_false_eq_true, ↓reduceIte]
      rw [m_times hn he he1 hab]
      rfl
    · show (_ ∧ (if a.toInt.natAbs * b.toInt.natAbs ≤ 1000000000000 then some (a * b) else none) = _) ∨ (_ ∧ (if a.toInt.natAbs * b.toInt.natAbs ≤ 1000000000000 then some (a * b) else none) = none)
      rw [if_pos h]
      by_cases hb : a.toInt.natAbs * b.toInt.natAbs ≤ 1000000000000
      · left
        rw [if_pos ⟨h, hb⟩, if_pos hb]
        exact ⟨rfl, rfl⟩
      · right
        rw [if_neg (fun h => hb h.2), if_neg hb]
        exact ⟨rfl, rfl⟩
  · rw [show mcd 36 = 14 from rfl] at h1
    unfold fX11_valueOf fX11_valueOf_235 fX11_valueOf_240
    rcases (by omega : e = 0 ∨ e = 1) with rfl | rfl
    · by_cases hb : b = 0
      · refine ⟨0, wI s 184 59 (nI 1), 1, ?_, frE_w, by omega, by rw [wI_at, upd_at], fun _ => rfl, fun _ => Or.inr ⟨rfl, if_pos hb⟩⟩
        simp (disch := first | omega | assumption | (simp only [wL_1, wL_22, wI_2, wA_2, wQ_1, wQ_21] <;> first | assumption | omega)) only [LIT, LITm, nI_add, n_mul, fa_or, n_31m, n_shl0, n_le, n_lt, n_eq, Option.bind_some, B_m hn, B_mz hn, B_mb hn, h1, h2, h3, ea, eb, he, hb, wI_at, upd_at, CMP, Nat.reduceEqDiff, Nat.reduceLeDiff, not_false_eq_true, not_true_eq_false, ↓reduceIte]
      · refine ⟨a / b, wI s 184 59 (nI 0), 0, ?_, frE_w, by omega, by rw [wI_at, upd_at], fun h => h, fun _ => Or.inl ⟨rfl, if_neg hb⟩⟩
        simp (disch := first | omega | assumption | (simp only [wL_1, wL_22, wI_2, wA_2, wQ_1, wQ_21] <;> first | assumption | omega)) only [LIT, LITm, nI_add, n_mul, fa_or, n_31m, n_shl0, n_le, n_lt, n_eq, Option.bind_some, B_m hn, B_mz hn, B_mb hn, h1, h2, h3, ea, eb, he, hb, dJ, wI_at, upd_at, CMP, Nat.reduceEqDiff, Nat.reduceLeDiff, not_false_eq_true, not_true_eq_false, ↓reduceIte]
    · refine ⟨0, wI s 184 59 (nI 1), 1, ?_, frE_w, by omega, by rw [wI_at, upd_at], fun _ => rfl, fun h => by omega⟩
      simp (disch := first | omega | assumption | (simp only [wL_1, wL_22, wI_2, wA_2, wQ_1, wQ_21] <;> first | assumption | omega)) only [LIT, LITm, nI_add, n_mul, fa_or, n_31m, n_shl0, n_le, n_lt, n_eq, Option.bind_some, B_m hn, B_mz hn, B_mb hn, h1, h2, h3, ea, eb, he, wI_at, upd_at, CMP, Nat.reduceEqDiff, Nat.reduceLeDiff, not_false_eq_true, not_true_eq_false, ↓reduceIte]
end Ml
