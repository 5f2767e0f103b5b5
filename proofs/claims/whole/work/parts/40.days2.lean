/-! ===== the days, by the class: walks, grass, a whole day ===== -/
theorem n_dI {a d : Nat} (ha : a < 2147483648) (h0 : 0 < d) (hd : d < 2147483648) : dI (nI a) (nI d) = some (nI (a / d)) := by
  unfold dI
  rw [if_neg (nI_ne0 h0 hd), pk_div ha h0 hd]
theorem n_rI {a d : Nat} (ha : a < 2147483648) (h0 : 0 < d) (hd : d < 2147483648) : rI (nI a) (nI d) = some (nI (a % d)) := by
  unfold rI
  rw [if_neg (nI_ne0 h0 hd), pk_rem ha h0 hd]
theorem n_nx (m : Nat) : (nI m * (1103515245 : Int32) + (12345 : Int32)) &&& (2147483647 : Int32) = nI (nxV m) := by
  show (nI m * nI 1103515245 + nI 12345) &&& nI (2 ^ 31 - 1) = _
  rw [n_mul, nI_add, fa_mask]
  rfl
theorem canV_le {T : zT} {O : zO} {S : zD} {w p c : Nat} (h : canV T O S w p = some c) : c ≤ S.2.2.1 1 w := by
  unfold canV at h
  split at h
  · rename_i g
    cases h
    exact g.2.2.2.2
  · cases h
theorem lpF_id {σ : Type} {f : Nat → σ → σ} {s : σ} {i : Nat} : ∀ {m : Nat}, i ≤ m → (∀ k, i ≤ k → k < m → f k (lpF f i s) = lpF f i s) → lpF f m s = lpF f i s := by
  intro m
  induction m with
  | zero => intro h _; rw [show i = 0 by omega]
  | succ m ih =>
    intro h hs
    by_cases e : i = m + 1
    · rw [e]
    · show f m (lpF f m s) = _
      rw [ih (by omega) (fun k h1 h2 => hs k h1 (by omega))]
      exact hs m (by omega) (by omega)
section De
variable {n t o p w : Nat} {s : zS} {T : zT} {O : zO} {S : zD}
theorem c_goWhole (hn : 239 ≤ n) (ht : t = 6 ∨ t = 29) (ho : isS o) (hW : WT T) (hT : cTd s.1 t T) (hO : cOd s t o T O) (hS : cSd s.1 o T S) (hD : wD T S) (hp : p < T 0 1) (hw : w < T 0 2) {c : Nat} (hc : c ≤ S.2.2.1 1 w) : ∃ s' : zS, fX0_goWhole n (mk s) 68 (nI w) (nI p) (nI c) = some ((), mk s') ∧ frD t o s s' ∧ cSd s'.1 o T (goV T S w p c) := by
  have hp' := WT_p hW hp
  have hw' := WT_w hW hw
  have a2 := hD.2.2.1 w hw
  have a3 := hD.2.2.2 p hp
  have h0 := hW.1
  have hb := is_b ho
  obtain ⟨o1, o2, o3, o4, o5, o6, o7, o8⟩ := hO
  obtain ⟨⟨s1, s2, s3, s4, s5⟩, s6, s7⟩ := hS
  have q1 := (s7 w hw).1
  have q2 := (s7 w hw).2
  have q3 := (s6 p hp).2
  have hg : (if S.2.2.1 2 p + 1 < 999 then nI (S.2.2.1 2 p + 1) else nI 999) = nI (if S.2.2.1 2 p < 999 then S.2.2.1 2 p + 1 else 999) := by
    by_cases h : S.2.2.1 2 p + 1 < 999
    · rw [if_pos h, if_pos (by omega)]
    · rw [if_neg h]
      by_cases h' : S.2.2.1 2 p < 999
      · rw [if_pos h']
        congr 1
        omega
      · rw [if_neg h']
  refine ⟨wI (wI (wI (wI (wI s (o + 4) w (nI (S.2.2.1 1 w - c))) (o + 3) w (nI (if S.2.2.1 0 w = T 3 p then T 4 p else T 3 p))) (o + 1) p (nI 0)) (o + 2) p (nI (if S.2.2.1 2 p < 999 then S.2.2.1 2 p + 1 else 999))) o 2 (S.1 1 + nI 1), ?_, ⟨fun a ha => ?_, rfl, fun _ _ => rfl⟩, ?_⟩
  · unfold fX0_goWhole fX0_goWhole_66
    by_cases h : S.2.2.1 0 w = T 3 p
    · simp (disch := first | omega | assumption | (simp only [wL_1, wL_22, wI_2, wA_2, wQ_1, wQ_21] <;> first | assumption | omega) | (repeat (first | assumption | refine cTd_wI (by omega) ?_))) only [LIT, LITm, nI_add, n_mul, fa_or, n_31m, n_shl0, n_le, n_lt, n_eq, Option.bind_some, B_dy hn, B_d2 hn ht ho, B_t hn ht, B_s hn ho, CT hn ht hW, CTp t T, q1, q2, q3, s3, n_sub, wI_ne, h, hg, not_true_eq_false, ↓reduceIte]
    · simp (disch := first | omega | assumption | (simp only [wL_1, wL_22, wI_2, wA_2, wQ_1, wQ_21] <;> first | assumption | omega) | (repeat (first | assumption | refine cTd_wI (by omega) ?_))) only [LIT, LITm, nI_add, n_mul, fa_or, n_31m, n_shl0, n_le, n_lt, n_eq, Option.bind_some, B_dy hn, B_d2 hn ht ho, B_t hn ht, B_s hn ho, CT hn ht hW, CTp t T, q1, q2, q3, s3, n_sub, wI_ne, h, hg, not_false_eq_true, ↓reduceIte]
  · simp (disch := omega) only [wI_ne]
  · refine ⟨⟨?_, ?_, ?_, ?_, ?_⟩, fun q hq => ⟨?_, ?_⟩, fun v hv => ⟨?_, ?_⟩⟩
    · simp (disch := omega) only [goV, wI_at, wI_ne, upd_ne, s1]
    · simp (disch := omega) only [goV, wI_at, wI_ne, upd_ne, s2]
    · simp (disch := omega) only [goV, wI_at, upd_at]
      rfl
    · simp (disch := omega) only [goV, wI_at, wI_ne, upd_ne, s4]
    · simp (disch := omega) only [goV, wI_at, wI_ne, upd_ne, s5]
    · by_cases e : q = p
      · subst e
        simp (disch := omega) only [goV, wI_at, wI_ne, upd_at]
        rfl
      · simp (disch := omega) only [goV, wI_at, wI_ne, upd_ne, (s6 q hq).1]
    · by_cases e : q = p
      · subst e
        simp (disch := omega) only [goV, wI_at, wI_ne, upd_at, up2_g, and_self, ↓reduceIte]
      · simp (disch := omega) only [goV, wI_at, wI_ne, upd_ne, (s6 q hq).2, up2_g, e, and_false, false_and, show ¬ (2 = 0) by omega, show ¬ (2 = 1) by omega, ↓reduceIte]
    · by_cases e : v = w
      · subst e
        simp (disch := omega) only [goV, wI_at, wI_ne, upd_at, up2_g, and_self, false_and, show ¬ (0 = 2) by omega, ↓reduceIte]
      · simp (disch := omega) only [goV, wI_at, wI_ne, upd_ne, (s7 v hv).1, up2_g, e, and_false, false_and, show ¬ (0 = 2) by omega, show ¬ (0 = 1) by omega, ↓reduceIte]
    · by_cases e : v = w
      · subst e
        simp (disch := omega) only [goV, wI_at, wI_ne, upd_at, up2_g, and_self, false_and, show ¬ (1 = 2) by omega, show ¬ (1 = 0) by omega, ↓reduceIte]
      · simp (disch := omega) only [goV, wI_at, wI_ne, upd_ne, (s7 v hv).2, up2_g, e, and_false, false_and, show ¬ (1 = 2) by omega, show ¬ (1 = 0) by omega, ↓reduceIte]
theorem c_refd (ho : isS o) (hS : cSd s.1 o T S) : frD t o s (wI s o 3 (S.1 2 + nI 1)) ∧ cSd (wI s o 3 (S.1 2 + nI 1)).1 o T (upd S.1 2 (S.1 2 + 1), S.2) := by
  obtain ⟨⟨s1, s2, s3, s4, s5⟩, s6, s7⟩ := hS
  refine ⟨⟨fun a ha => wI_ne (by omega), rfl, fun _ _ => rfl⟩, ⟨?_, ?_, ?_, ?_, ?_⟩, fun q hq => ?_, fun v hv => ?_⟩
  · simp (disch := omega) only [wI_at, upd_ne, s1]
  · simp (disch := omega) only [wI_at, upd_ne, s2]
  · simp (disch := omega) only [wI_at, upd_ne, s3]
  · simp (disch := omega) only [wI_at, upd_at]
    rfl
  · simp (disch := omega) only [wI_at, upd_ne, s5]
  · simp (disch := omega) only [wI_ne]
    exact s6 q hq
  · simp (disch := omega) only [wI_ne]
    exact s7 v hv
theorem c_walks (hn : 239 ≤ n) (ht : t = 6 ∨ t = 29) (ho : isS o) (hW : WT T) (hT : cTd s.1 t T) (hO : cOd s t o T O) (hS : cSd s.1 o T S) (hwO : wO T O) (hD : wD T S) {sn : Bool} : ∃ s' : zS, fX0_goWalks n (mk s) 68 (nI sn.toNat) = some ((), mk s') ∧ frD t o s s' ∧ cSd s'.1 o T (lpF (wkV T O sn) (T 0 3) S) := by
  have h0 := hW.1
  have o1 := hO.1
  unfold fX0_goWalks
  simp (disch := first | omega | assumption | (simp only [wL_1, wL_22, wI_2, wA_2, wQ_1, wQ_21] <;> first | assumption | omega)) only [LIT, LITm, nI_add, n_mul, fa_or, n_31m, n_shl0, n_le, n_lt, n_eq, Option.bind_some, B_dy hn, B_d2 hn ht ho, B_t hn ht]
  refine lp_up (F := fun k (s1 : zS) i => fX0_goWalks_10 n k (mk s1) 68 (nI sn.toNat) (t + 10) (nI i)) (N := T 0 3) (P := fun i s1 => frD t o s s1 ∧ cSd s1.1 o T (lpF (wkV T O sn) i S)) (Q := fun r => ∃ s' : zS, r = some ((), mk s') ∧ frD t o s s' ∧ cSd s'.1 o T (lpF (wkV T O sn) (T 0 3) S)) ?_ ?_ (T 0 3) bi_K s 0 (by omega) (by unfold bi_K; omega) ⟨frD_r, hS⟩
  · intro k sa i hi hP
    obtain ⟨fA, hSa⟩ := hP
    have hk := hW.2.2.2.2.1 i hi
    have hDa : wD T (lpF (wkV T O sn) i S) := lpF_i (P := wD T) (fun k s hk hs => wkV_w hW (by omega) hs) hD
    have eS : lpF (wkV T O sn) (i + 1) S = wkV T O sn i (lpF (wkV T O sn) i S) := rfl
    rw [eS]
    have eN : (∀ k, i ≤ k → k < T 0 3 → wkV T O sn k (lpF (wkV T O sn) i S) = lpF (wkV T O sn) i S) → lpF (wkV T O sn) (T 0 3) S = lpF (wkV T O sn) i S := lpF_id (by omega)
    revert eN hDa hSa
    generalize lpF (wkV T O sn) i S = S1
    intro hSa hDa eN
    have hTa := cTd_D ht ho fA hT
    have hOa := cOd_D ho fA hO
    have d1 := hSa.1.1
    have d4 := hSa.1.2.2.2.1
    have o1a := hOa.1
    have o2a := hOa.2.1
    have o7a := hOa.2.2.2.2.2.2.1
    have f1 : ¬ T 0 3 ≤ i := by omega
    by_cases c1 : nI 99 < S1.1 0
    · right
      refine ⟨sa, ?_, fA, ?_⟩
      · simp (disch := first | omega | assumption | (simp only [wL_1, wL_22, wI_2, wA_2, wQ_1, wQ_21] <;> first | assumption | omega)) only [fX0_goWalks_10, fX0_goWalks_10b, LIT, LITm, nI_add, n_mul, fa_or, n_31m, n_shl0, n_le, n_lt, n_eq, Option.bind_some, B_dy hn, B_d2 hn ht ho, B_t hn ht, B_s hn ho, CT hn ht hW, CTp t T, d1, f1, c1, ↓reduceIte]
      · rw [eN ?_]
        · exact hSa
        · intro k h1 h2
          have := (hW.2.2.2.2.1 k h2).2.2
          unfold wkV
          rw [if_neg]
          intro e
          rw [← e, n_lt (by omega) (by omega)] at c1
          omega
    · left
      by_cases c2 : nI (T 14 i) = S1.1 0
      · cases hsn : sn with
        | true =>
          have R := c_refd (t := t) ho hSa
          refine ⟨_, ?_, frD_t fA R.1, ?_⟩
          · simp (disch := first | omega | assumption | (simp only [wL_1, wL_22, wI_2, wA_2, wQ_1, wQ_21] <;> first | assumption | omega)) only [fX0_goWalks_10, fX0_goWalks_10b, fX0_goWalks_75, fX0_goWalks_87, fX0_goWalks_120, LIT, LITm, nI_add, n_mul, fa_or, n_31m, n_shl0, n_le, n_lt, n_eq, Option.bind_some, B_dy hn, B_d2 hn ht ho, B_t hn ht, B_s hn ho, CT hn ht hW, CTp t T, d1, d4, f1, c1, c2, Bool.toNat_true, show ¬ (1 = 0) by omega, not_true_eq_false, not_false_eq_true, n_m1lt, ↓reduceIte]
          · have : wkV T O true i S1 = (upd S1.1 2 (S1.1 2 + 1), S1.2) := by
              unfold wkV
              rw [if_pos c2, if_pos (Or.inl rfl)]
            rw [this]
            exact R.2
        | false =>
          by_cases c3 : nI (T 12 i) = O.2.2.2.2.1
          · have R := c_refd (t := t) ho hSa
            refine ⟨_, ?_, frD_t fA R.1, ?_⟩
            · simp (disch := first | omega | assumption | (simp only [wL_1, wL_22, wI_2, wA_2, wQ_1, wQ_21] <;> first | assumption | omega)) only [fX0_goWalks_10, fX0_goWalks_10b, fX0_goWalks_75, fX0_goWalks_87, fX0_goWalks_120, LIT, LITm, nI_add, n_mul, fa_or, n_31m, n_shl0, n_le, n_lt, n_eq, Option.bind_some, B_dy hn, B_d2 hn ht ho, B_t hn ht, B_s hn ho, CT hn ht hW, CTp t T, d1, d4, o7a, f1, c1, c2, c3, Bool.toNat_false, not_true_eq_false, not_false_eq_true, n_m1lt, ↓reduceIte]
            · have : wkV T O false i S1 = (upd S1.1 2 (S1.1 2 + 1), S1.2) := by
                unfold wkV
                rw [if_pos c2, if_pos (Or.inr c3)]
              rw [this]
              exact R.2
          · obtain ⟨sb, eb, fB⟩ := c_cost hn ht ho hW hTa hOa hSa hwO hDa hk.2.1 hk.1
            have hSb : cSd sb.1 o T S1 := by rw [fB.1]; exact hSa
            have hTb : cTd sb.1 t T := by rw [fB.1]; exact hTa
            have hOb := cOd_D ho (frL_D fB) hOa
            have o2b := hOb.2.1
            have d4b := hSb.1.2.2.2.1
            cases hcv : canV T O S1 (T 12 i) (T 13 i) with
            | none =>
              rw [hcv, Option.elim_none] at eb
              have R := c_refd (t := t) ho hSb
              refine ⟨_, ?_, frD_t fA (frD_t (frL_D fB) R.1), ?_⟩
              · simp (disch := first | omega | assumption | (simp only [wL_1, wL_22, wI_2, wA_2, wQ_1, wQ_21] <;> first | assumption | omega)) only [fX0_goWalks_10, fX0_goWalks_10b, fX0_goWalks_75, fX0_goWalks_87, fX0_goWalks_120, LIT, LITm, nI_add, n_mul, fa_or, n_31m, n_shl0, n_le, n_lt, n_eq, Option.bind_some, B_dy hn, B_d2 hn ht ho, B_t hn ht, B_s hn ho, CT hn ht hW, CTp t T, d1, d4b, o7a, f1, c1, c2, c3, eb, Bool.toNat_false, not_true_eq_false, not_false_eq_true, n_m1lt, ↓reduceIte]
              · have : wkV T O false i S1 = (upd S1.1 2 (S1.1 2 + 1), S1.2) := by
                  unfold wkV
                  rw [if_pos c2, if_neg (fun h => h.elim (fun h => by cases h) c3), hcv]
                rw [this]
                exact R.2
            | some c =>
              rw [hcv, Option.elim_some] at eb
              have hcl := canV_le hcv
              have h99 := (hDa.2.2.1 _ hk.1).2
              obtain ⟨sc, ec, fC, hSc⟩ := c_goWhole hn ht ho hW hTb hOb hSb hDa hk.2.1 hk.1 hcl
              refine ⟨sc, ?_, frD_t fA (frD_t (frL_D fB) fC), ?_⟩
              · simp (disch := first | omega | assumption | (simp only [wL_1, wL_22, wI_2, wA_2, wQ_1, wQ_21] <;> first | assumption | omega)) only [fX0_goWalks_10, fX0_goWalks_10b, fX0_goWalks_75, fX0_goWalks_87, fX0_goWalks_120, LIT, LITm, nI_add, n_mul, fa_or, n_31m, n_shl0, n_le, n_lt, n_eq, Option.bind_some, B_dy hn, B_d2 hn ht ho, B_t hn ht, B_s hn ho, CT hn ht hW, CTp t T, d1, o7a, f1, c1, c2, c3, eb, ec, Bool.toNat_false, not_true_eq_false, not_false_eq_true, Nat.not_lt_zero, ↓reduceIte]
              · have : wkV T O false i S1 = goV T S1 (T 12 i) (T 13 i) c := by
                  unfold wkV
                  rw [if_pos c2, if_neg (fun h => h.elim (fun h => by cases h) c3), hcv]
                rw [this]
                exact hSc
      · refine ⟨sa, ?_, fA, ?_⟩
        · simp (disch := first | omega | assumption | (simp only [wL_1, wL_22, wI_2, wA_2, wQ_1, wQ_21] <;> first | assumption | omega)) only [fX0_goWalks_10, fX0_goWalks_10b, fX0_goWalks_75, fX0_goWalks_87, fX0_goWalks_120, LIT, LITm, nI_add, n_mul, fa_or, n_31m, n_shl0, n_le, n_lt, n_eq, Option.bind_some, B_dy hn, B_d2 hn ht ho, B_t hn ht, B_s hn ho, CT hn ht hW, CTp t T, d1, f1, c1, c2, not_false_eq_true, ↓reduceIte]
        · have : wkV T O sn i S1 = S1 := by
            unfold wkV
            rw [if_neg c2]
          rw [this]
          exact hSa
  · intro k sa hP
    have hTa := cTd_D ht ho hP.1 hT
    refine ⟨sa, ?_, hP.1, hP.2⟩
    simp (disch := first | omega | assumption | (simp only [wL_1, wL_22, wI_2, wA_2, wQ_1, wQ_21] <;> first | assumption | omega)) only [fX0_goWalks_10, fX0_goWalks_10b, LIT, LITm, nI_add, n_mul, fa_or, n_31m, n_shl0, n_le, n_lt, n_eq, Option.bind_some, B_t hn ht, CT hn ht hW, CTp t T, Nat.le_refl, ↓reduceIte]
theorem c_grow49 (hn : 239 ≤ n) (ht : t = 6 ∨ t = 29) (ho : isS o) (hW : WT T) (hO : cOd s t o T O) (hS : cSd s.1 o T S) (hp : p < T 0 1) {v : Int64} : ∃ s' : zS, fX0_growOlder_49 n (mk s) 68 (nI p) v = some ((), mk s') ∧ frD t o s s' ∧ cSd s'.1 o T (if (S.2.1 p).toInt < clV 1 9999 v then S else (S.1, S.2.1, S.2.2.1, nd S.2.2.2.1 (2 ^ p), S.2.2.2.2)) := by
  have hp' := WT_p hW hp
  obtain ⟨o1, o2, o3, o4, o5, o6, o7, o8⟩ := hO
  obtain ⟨⟨s1, s2, s3, s4, s5⟩, s6, s7⟩ := hS
  have e99 : (9999 : Int64) = lN 9999 := rfl
  have e0 : (1 : Int64) = lN 1 := rfl
  have hc := clV_c (l := 1) (m := 9999) (v := v) (by omega) (by omega)
  rw [← e99, ← e0] at hc
  have hcl := clV_le (l := 1) (m := 9999) (v := v) (by omega)
  have q := (s6 p hp).1
  by_cases h : (S.2.1 p).toInt < clV 1 9999 v
  · have h' : (S.2.1 p).toInt64 < lN (clV 1 9999 v) := by
      rw [fa_lt64, Int32.toInt_toInt64, lN_toInt (by omega)]
      exact h
    rw [if_pos h]
    refine ⟨s, ?_, frD_r, ⟨s1, s2, s3, s4, s5⟩, s6, s7⟩
    unfold fX0_growOlder_49
    simp (disch := first | omega | assumption | (simp only [wL_1, wL_22, wI_2, wA_2, wQ_1, wQ_21] <;> first | assumption | omega)) only [LIT, LITm, nI_add, n_mul, fa_or, n_31m, n_shl0, n_le, n_lt, n_eq, Option.bind_some, B_dy hn, B_d2 hn ht ho, B_s hn ho, q, hc, CMP, h', ↓reduceIte]
  · have h' : ¬ (S.2.1 p).toInt64 < lN (clV 1 9999 v) := by
      rw [fa_lt64, Int32.toInt_toInt64, lN_toInt (by omega)]
      exact h
    rw [if_neg h]
    refine ⟨wI s o 4 (nI (nd S.2.2.2.1 (2 ^ p))), ?_, ⟨fun a ha => wI_ne (by omega), rfl, fun _ _ => rfl⟩, ⟨?_, ?_, ?_, ?_, ?_⟩, fun q hq => ?_, fun v hv => ?_⟩
    · unfold fX0_growOlder_49
      simp (disch := first | omega | assumption | (simp only [wL_1, wL_22, wI_2, wA_2, wQ_1, wQ_21] <;> first | assumption | omega)) only [LIT, LITm, nI_add, n_mul, fa_or, n_31m, n_shl0, n_le, n_lt, n_eq, Option.bind_some, B_dy hn, B_d2 hn ht ho, B_s hn ho, q, s5, hc, CMP, h', n_nd, ↓reduceIte]
    · simp (disch := omega) only [wI_at, upd_ne, s1]
    · simp (disch := omega) only [wI_at, upd_ne, s2]
    · simp (disch := omega) only [wI_at, upd_ne, s3]
    · simp (disch := omega) only [wI_at, upd_ne, s4]
    · simp (disch := omega) only [wI_at, upd_at]
    · simp (disch := omega) only [wI_ne]
      exact s6 q hq
    · simp (disch := omega) only [wI_ne]
      exact s7 v hv
theorem c_grow (hn : 239 ≤ n) (ht : t = 6 ∨ t = 29) (ho : isS o) (hW : WT T) (hT : cTd s.1 t T) (hO : cOd s t o T O) (hS : cSd s.1 o T S) (hwO : wO T O) (hD : wD T S) (hp : p < T 0 1) (hk : S.2.2.2.1.testBit p = true) : ∃ s' : zS, fX0_growOlder n (mk s) 68 (nI p) = some ((), mk s') ∧ frD t o s s' ∧ cSd s'.1 o T (grV T O p S) := by
  have hp' := WT_p hW hp
  have hcc := is_c ho
  obtain ⟨o1, o2, o3, o4, o5, o6, o7, o8⟩ := hO
  obtain ⟨⟨s1, s2, s3, s4, s5⟩, s6, s7⟩ := hS
  have q := (s6 p hp).1
  have hyr := hwO.2
  have fA : frD t o s (wI s (o + 1) p (S.2.1 p + nI 1)) := frD_I (k := 1) (by omega)
  have hTa := cTd_D ht ho fA hT
  have hOa := cOd_D ho fA ⟨o1, o2, o3, o4, o5, o6, o7, o8⟩
  obtain ⟨S1, eS1⟩ : ∃ S1 : zD, S1 = (S.1, upd S.2.1 p (S.2.1 p + 1), S.2.2) := ⟨_, rfl⟩
  have hSa : cSd (wI s (o + 1) p (S.2.1 p + nI 1)).1 o T S1 := by
    rw [eS1]
    refine ⟨⟨?_, ?_, ?_, ?_, ?_⟩, fun q hq => ⟨?_, ?_⟩, fun v hv => ?_⟩
    · simp (disch := omega) only [wI_ne, s1]
    · simp (disch := omega) only [wI_ne, s2]
    · simp (disch := omega) only [wI_ne, s3]
    · simp (disch := omega) only [wI_ne, s4]
    · simp (disch := omega) only [wI_ne, s5]
    · rw [wI_at]
      by_cases e : q = p
      · subst e
        simp only [upd_at]
        rfl
      · simp only [upd_ne e, (s6 q hq).1]
    · simp (disch := omega) only [wI_ne, (s6 q hq).2]
    · simp (disch := omega) only [wI_ne]
      exact s7 v hv
  have hDa : wD T S1 := by rw [eS1]; exact hD
  have eG : ∀ v : Int64, clV 1 9999 v = termV T O S1 p → grV T O p S = (if (S1.2.1 p).toInt < clV 1 9999 v then S1 else (S1.1, S1.2.1, S1.2.2.1, nd S1.2.2.2.1 (2 ^ p), S1.2.2.2.2)) := by
    intro v hv
    unfold grV
    rw [if_pos hk, hv, eS1]
    simp only [upd_at]
  clear eS1
  cases g : O.2.2.1 with
  | false =>
    rw [g] at o5
    obtain ⟨sb, eb, fB, hSb⟩ := c_grow49 (v := lN O.2.2.2.1) hn ht ho hW hOa hSa hp
    refine ⟨sb, ?_, frD_t fA fB, ?_⟩
    · unfold fX0_growOlder
      simp (disch := first | omega | assumption | (simp only [wL_1, wL_22, wI_2, wA_2, wQ_1, wQ_21] <;> first | assumption | omega) | (repeat (first | assumption | refine cTd_wI (by omega) ?_))) only [LIT, LITm, nI_add, n_mul, fa_or, n_31m, n_shl0, n_le, n_lt, n_eq, Option.bind_some, B_dy hn, B_d2 hn ht ho, B_s hn ho, q, wI_ne, o5, o6, nI_l, eb, Bool.toNat_false, ↓reduceIte]
    · rw [eG (lN O.2.2.2.1) (by rw [clV_n hyr.1 (by omega) (by omega)]; unfold termV; rw [g]; simp)]
      exact hSb
  | true =>
    rw [g] at o5
    obtain ⟨sb, eb, fB, hN⟩ := c_lookN hn ht ho hW hTa hOa hSa hDa hp
    have hTb : cTd sb.1 t T := by rw [fB.1]; exact hTa
    have hB := nmV_b hW hDa hp (lg := 0) (lf := 0) (by omega) (by omega)
    obtain ⟨sc, ec, fC1, fC2, fC3⟩ := c_value (x := lN O.2.2.2.1) hn ht hW hTb (show 0 < 3 by omega) hN hB
    have fC : frL t sb sc := ⟨fC1, fC2, fun a ha => fC3 a (by omega)⟩
    have hOb := cOd_D ho (frL_D fB) hOa
    have hOc := cOd_D ho (frL_D fC) hOb
    have hSc : cSd sc.1 o T S1 := by rw [fC1, fB.1]; exact hSa
    obtain ⟨sd, ed, fD, hSd⟩ := c_grow49 (v := (lawV T 0 (nmV T S1 p 0 0)).getD (lN O.2.2.2.1)) hn ht ho hW hOc hSc hp
    have o1b := hOb.1
    have o6b := hOb.2.2.2.2.2.1
    refine ⟨sd, ?_, frD_t fA (frD_t (frL_D fB) (frD_t (frL_D fC) fD)), ?_⟩
    · unfold fX0_growOlder
      simp (disch := first | omega | assumption | (simp only [wL_1, wL_22, wI_2, wA_2, wQ_1, wQ_21] <;> first | assumption | omega) | (repeat (first | assumption | refine cTd_wI (by omega) ?_))) only [LIT, LITm, nI_add, n_mul, fa_or, n_31m, n_shl0, n_le, n_lt, n_eq, Option.bind_some, B_dy hn, B_d2 hn ht ho, B_t hn ht, B_s hn ho, q, wI_ne, o5, o6, o6b, nI_l, eb, ec, ed, Bool.toNat_true, show ¬ (1 = 0) by omega, ↓reduceIte]
    · rw [eG _ ?_]
      · exact hSd
      · rw [getD_el (clV_n hyr.1 (by omega) (by omega))]
        unfold termV
        rw [g, if_pos rfl]
theorem c_snow36 {h : ai_H} {x : Nat} (hx : x ≤ 100) : fX0_isSnowing_36 n h (nI x) = some (nI (decide (50 ≤ x)).toNat, h) := by
  unfold fX0_isSnowing_36
  by_cases g : x < 50
  · rw [if_pos (show nI x < (50 : Int32) from (nI_ltI (b := 50) (by omega) (by omega)).mpr g), decide_eq_false (by omega)]
    rfl
  · rw [if_neg (show ¬ nI x < (50 : Int32) from fun h => g ((nI_ltI (b := 50) (by omega) (by omega)).mp h)), decide_eq_true (by omega)]
    rfl
theorem c_snow (hn : 239 ≤ n) (ht : t = 6 ∨ t = 29) (ho : isS o) (hW : WT T) (hT : cTd s.1 t T) (hO : cOd s t o T O) (hS : cSd s.1 o T S) (hwO : wO T O) (hD : wD T S) {b : Bool} {m : Nat} (e : snV T O S.2.2.2.2 = (b, m)) : ∃ s' : zS, fX0_isSnowing n (mk s) 68 = some (nI b.toNat, mk s') ∧ frD t o s s' ∧ cSd s'.1 o T (S.1, S.2.1, S.2.2.1, S.2.2.2.1, m) := by
  have h7 := hW.2.1.2.2.2.1
  have hO1 := hwO.1
  obtain ⟨o1, o2, o3, o4, o5, o6, o7, o8⟩ := hO
  have hS' := hS
  obtain ⟨⟨s1, s2, s3, s4, s5⟩, s6, s7⟩ := hS
  have pre : ∀ r, (if nI O.1 = (2 : Int32) then some ((0 : Int32), mk s) else if ¬ nI (T 0 7) = 0 then (if nI O.1 = (1 : Int32) then fX0_isSnowing_36 n (mk s) (nI (T 0 7)) else if ¬ nI (T 0 7) = (100 : Int32) then
      (sF n (mk s) o 5 1 (.int) (.int (((nI S.2.2.2.2 * (1103515245 : Int32)) + (12345 : Int32)) &&& (2147483647 : Int32)))).bind (fun h8 => (pR n h8 68 0 1).bind fun x9 => (pI n h8 x9 5 1).bind fun x10 => (dI x10 (65536 : Int32)).bind fun x11 => (rI x11 (100 : Int32)).bind fun x12 => if nI (T 0 7) ≤ x12 then some ((0 : Int32), h8) else some ((1 : Int32), h8)) else fX0_isSnowing_36 n (mk s) (nI (T 0 7))) else some ((0 : Int32), mk s)) = r → fX0_isSnowing n (mk s) 68 = r := by
    intro r hr
    unfold fX0_isSnowing
    rw [bnd_s (v := ()) (by simp only [B_dy hn]), bnd_s (v := t) (by simp (disch := first | omega | assumption | (simp only [wL_1, wL_22, wI_2, wA_2, wQ_1, wQ_21] <;> first | assumption | omega)) only [B_d2 hn ht ho]), bnd_s (v := nI (T 0 7)) (by simp (disch := first | omega | assumption | (simp only [wL_1, wL_22, wI_2, wA_2, wQ_1, wQ_21] <;> first | assumption | omega)) only [CT hn ht hW, CTp t T]), bnd_s (v := nI O.1) (by simp only [B_dy hn, o3]), bnd_s (v := nI O.1) (by simp only [B_dy hn, o3]), bnd_s (v := o) (by simp (disch := first | omega | assumption | (simp only [wL_1, wL_22, wI_2, wA_2, wQ_1, wQ_21] <;> first | assumption | omega)) only [B_d2 hn ht ho]), bnd_s (v := o) (by simp (disch := first | omega | assumption | (simp only [wL_1, wL_22, wI_2, wA_2, wQ_1, wQ_21] <;> first | assumption | omega)) only [B_d2 hn ht ho]), bnd_s (v := nI S.2.2.2.2) (by simp (disch := first | omega | assumption | (simp only [wL_1, wL_22, wI_2, wA_2, wQ_1, wQ_21] <;> first | assumption | omega)) only [B_s hn ho, s2])]
    exact hr
  have d0 : nI (T 0 7) = 0 ↔ T 0 7 = 0 := nI_eq (b := 0) (by omega) (by omega)
  have d100 : nI (T 0 7) = (100 : Int32) ↔ T 0 7 = 100 := nI_eq (b := 100) (by omega) (by omega)
  have e2 : nI O.1 = (2 : Int32) ↔ O.1 = 2 := nI_eq (b := 2) (by omega) (by omega)
  have e1 : nI O.1 = (1 : Int32) ↔ O.1 = 1 := nI_eq (b := 1) (by omega) (by omega)
  unfold snV at e
  by_cases g1 : O.1 = 2
  · rw [if_pos (Or.inl g1)] at e
    cases e
    exact ⟨s, pre _ (by rw [if_pos (e2.mpr g1)]; rfl), frD_r, hS'⟩
  · by_cases g2 : T 0 7 = 0
    · rw [if_pos (Or.inr g2)] at e
      cases e
      exact ⟨s, pre _ (by rw [if_neg (fun h => g1 (e2.mp h)), if_neg (fun h => h (d0.mpr g2))]; rfl), frD_r, hS'⟩
    · rw [if_neg (fun h => h.elim g1 g2)] at e
      by_cases g3 : O.1 = 1
      · rw [if_pos (Or.inl g3)] at e
        cases e
        exact ⟨s, pre _ (by rw [if_neg (fun h => g1 (e2.mp h)), if_pos (fun h => g2 (d0.mp h)), if_pos (e1.mpr g3), c_snow36 h7]), frD_r, hS'⟩
      · by_cases g4 : T 0 7 = 100
        · rw [if_pos (Or.inr g4)] at e
          cases e
          exact ⟨s, pre _ (by rw [if_neg (fun h => g1 (e2.mp h)), if_pos (fun h => g2 (d0.mp h)), if_neg (fun h => g3 (e1.mp h)), if_neg (fun h => h (d100.mpr g4)), c_snow36 h7]), frD_r, hS'⟩
        · rw [if_neg (fun h => h.elim g3 g4)] at e
          have nx := n_nx S.2.2.2.2
          have hx := nxV_lt S.2.2.2.2
          obtain ⟨hb, hm⟩ := Prod.mk.inj e
          rw [hm] at nx hx hb
          clear e hm
          have hx2 : m / 65536 < 2147483648 := by omega
          have hx3 : m / 65536 % 100 < 2147483648 := by omega
          have hdI : dI (nI m) (65536 : Int32) = some (nI (m / 65536)) := n_dI (d := 65536) hx (by omega) (by omega)
          have hrI : rI (nI (m / 65536)) (100 : Int32) = some (nI (m / 65536 % 100)) := n_rI (d := 100) hx2 (by omega) (by omega)
          have o2' : (wI s o 1 (nI m)).2.2 68 1 = o := o2
          refine ⟨wI s o 1 (nI m), pre _ ?_, ⟨fun a ha => wI_ne (by omega), rfl, fun _ _ => rfl⟩, ⟨?_, ?_, ?_, ?_, ?_⟩, fun q hq => ?_, fun v hv => ?_⟩
          · rw [if_neg (fun h => g1 (e2.mp h)), if_pos (fun h => g2 (d0.mp h)), if_neg (fun h => g3 (e1.mp h)), if_pos (fun h => g4 (d100.mp h)), nx, bnd_s (v := mk (wI s o 1 (nI m))) (by simp only [B_s hn ho]), bnd_s (v := o) (by simp (disch := first | omega | assumption | (simp only [wL_1, wL_22, wI_2, wA_2, wQ_1, wQ_21] <;> first | assumption | omega)) only [B_d2 hn ht ho]), bnd_s (v := nI m) (by simp only [B_s hn ho, wI_at, upd_at]), hdI, Option.bind_some, hrI, Option.bind_some]
            by_cases g5 : T 0 7 ≤ m / 65536 % 100
            · rw [if_pos ((nI_leI (by omega) hx3).mpr g5), ← hb, decide_eq_false (by omega)]
              rfl
            · rw [if_neg (fun h => g5 ((nI_leI (by omega) hx3).mp h)), ← hb, decide_eq_true (by omega)]
              rfl
          · simp (disch := omega) only [wI_at, upd_ne, s1]
          · simp (disch := omega) only [wI_at, upd_at]
          · simp (disch := omega) only [wI_at, upd_ne, s3]
          · simp (disch := omega) only [wI_at, upd_ne, s4]
          · simp (disch := omega) only [wI_at, upd_ne, s5]
          · simp (disch := omega) only [wI_ne]
            exact s6 q hq
          · simp (disch := omega) only [wI_ne]
            exact s7 v hv
theorem pr_eta {α β : Type} (p : α × β) : p = (p.1, p.2) := by cases p; rfl
theorem c_pass (hn : 239 ≤ n) (ht : t = 6 ∨ t = 29) (ho : isS o) (hW : WT T) (hT : cTd s.1 t T) (hO : cOd s t o T O) (hS : cSd s.1 o T S) (hwO : wO T O) (hD : wD T S) : ∃ s' : zS, fX0_pass n (mk s) 68 = some ((), mk s') ∧ frD t o s s' ∧ cSd s'.1 o T (dayV T O S) := by
  have h0 := hW.1
  have hb := is_b ho
  have hlt := snV_lt (T := T) (O := O) hD.1
  unfold dayV
  obtain ⟨b, m, e⟩ : ∃ (b : Bool) (m : Nat), snV T O S.2.2.2.2 = (b, m) := ⟨_, _, pr_eta _⟩
  obtain ⟨sa, ea, fA, hSa⟩ := c_snow hn ht ho hW hT hO hS hwO hD e
  rw [e] at hlt ⊢
  have hDa : wD T (S.1, S.2.1, S.2.2.1, S.2.2.2.1, m) := ⟨hlt, hD.2⟩
  obtain ⟨sb, eb, fB, hSb⟩ := c_walks (sn := b) hn ht ho hW (cTd_D ht ho fA hT) (cOd_D ho fA hO) hSa hwO hDa
  have fAB := frD_t fA fB
  have hDb := lpF_i (f := wkV T O b) (P := wD T) (m := T 0 3) (fun k s hk hs => wkV_w hW hk hs) hDa
  unfold fX0_pass
  simp (disch := first | omega | assumption | (simp only [wL_1, wL_22, wI_2, wA_2, wQ_1, wQ_21] <;> first | assumption | omega)) only [LIT, LITm, nI_add, n_mul, fa_or, n_31m, n_shl0, n_le, n_lt, n_eq, Option.bind_some, B_dy hn, ea, eb]
  revert hSb hDb
  generalize lpF (wkV T O b) (T 0 3) (S.1, S.2.1, S.2.2.1, S.2.2.2.1, m) = S1
  intro hSb hDb
  have fin : ∀ (sx : zS) (S2 : zD), frD t o s sx → cSd sx.1 o T S2 → wD T S2 → ∃ s' : zS, fX0_pass_48 n bi_K (mk sx) 68 (nI 0) = some ((), mk s') ∧ frD t o s s' ∧ cSd s'.1 o T (upd (lpF (lfV T) (T 0 2) S2).1 0 ((lpF (lfV T) (T 0 2) S2).1 0 + 1), (lpF (lfV T) (T 0 2) S2).2) := by
    intro sx S2 fX hSx hDx
    refine lp_up (F := fun k (s1 : zS) i => fX0_pass_48 n k (mk s1) 68 (nI i)) (N := T 0 2) (P := fun i s1 => frD t o s s1 ∧ cSd s1.1 o T (lpF (lfV T) i S2)) (Q := fun r => ∃ s' : zS, r = some ((), mk s') ∧ frD t o s s' ∧ cSd s'.1 o T (upd (lpF (lfV T) (T 0 2) S2).1 0 ((lpF (lfV T) (T 0 2) S2).1 0 + 1), (lpF (lfV T) (T 0 2) S2).2)) ?_ ?_ (T 0 2) bi_K sx 0 (by omega) (by unfold bi_K; omega) ⟨fX, hSx⟩
    · intro k sy i hi hP
      obtain ⟨fY, hSy⟩ := hP
      have hTy := cTd_D ht ho fY hT
      have hOy := cOd_D ho fY hO
      have o1y := hOy.1
      have o2y := hOy.2.1
      have hw' := WT_w hW hi
      left
      refine ⟨wI sy (o + 4) i (nI (T 11 i)), ?_, frD_t fY (frD_I (k := 4) (by omega)), ?_⟩
      · simp (disch := first | omega | assumption | (simp only [wL_1, wL_22, wI_2, wA_2, wQ_1, wQ_21] <;> first | assumption | omega)) only [fX0_pass_48, fX0_pass_48b, LIT, LITm, nI_add, n_mul, fa_or, n_31m, n_shl0, n_le, n_lt, n_eq, Option.bind_some, B_dy hn, B_d2 hn ht ho, B_t hn ht, B_s hn ho, CT hn ht hW, CTp t T, show ¬ T 0 2 ≤ i by omega, ↓reduceIte]
      · show cSd _ o T (lfV T i (lpF (lfV T) i S2))
        revert hSy
        generalize lpF (lfV T) i S2 = S3
        intro hSy
        obtain ⟨⟨s1, s2, s3, s4, s5⟩, s6, s7⟩ := hSy
        refine ⟨⟨?_, ?_, ?_, ?_, ?_⟩, fun q hq => ⟨?_, ?_⟩, fun v hv => ⟨?_, ?_⟩⟩
        · simp (disch := omega) only [wI_ne, s1, lfV]
        · simp (disch := omega) only [wI_ne, s2, lfV]
        · simp (disch := omega) only [wI_ne, s3, lfV]
        · simp (disch := omega) only [wI_ne, s4, lfV]
        · simp (disch := omega) only [wI_ne, s5, lfV]
        · simp (disch := omega) only [wI_ne, (s6 q hq).1, lfV]
        · simp (disch := omega) only [wI_ne, (s6 q hq).2, lfV, up2_g, show ¬ (2 = 1) by omega, false_and, ↓reduceIte]
        · simp (disch := omega) only [wI_ne, (s7 v hv).1, lfV, up2_g, show ¬ (0 = 1) by omega, false_and, ↓reduceIte]
        · by_cases e : v = i
          · subst e
            simp (disch := omega) only [wI_at, upd_at, lfV, up2_g, and_self, ↓reduceIte]
          · simp (disch := omega) only [wI_at, upd_ne, (s7 v hv).2, lfV, up2_g, e, and_false, ↓reduceIte]
    · intro k sy hP
      obtain ⟨fY, hSy⟩ := hP
      have hTy := cTd_D ht ho fY hT
      have hOy := cOd_D ho fY hO
      have o1y := hOy.1
      have o2y := hOy.2.1
      revert hSy
      generalize lpF (lfV T) (T 0 2) S2 = S3
      intro hSy
      obtain ⟨⟨s1, s2, s3, s4, s5⟩, s6, s7⟩ := hSy
      refine ⟨wI sy o 0 (S3.1 0 + nI 1), ?_, frD_t fY ⟨fun a ha => wI_ne (by omega), rfl, fun _ _ => rfl⟩, ⟨?_, ?_, ?_, ?_, ?_⟩, fun q hq => ?_, fun v hv => ?_⟩
      · simp (disch := first | omega | assumption | (simp only [wL_1, wL_22, wI_2, wA_2, wQ_1, wQ_21] <;> first | assumption | omega)) only [fX0_pass_48, fX0_pass_48b, LIT, LITm, nI_add, n_mul, fa_or, n_31m, n_shl0, n_le, n_lt, n_eq, Option.bind_some, B_dy hn, B_d2 hn ht ho, B_t hn ht, B_s hn ho, CT hn ht hW, CTp t T, s1, Nat.le_refl, ↓reduceIte]
      · simp (disch := omega) only [wI_at, upd_at]
        rfl
      · simp (disch := omega) only [wI_at, upd_ne, s2]
      · simp (disch := omega) only [wI_at, upd_ne, s3]
      · simp (disch := omega) only [wI_at, upd_ne, s4]
      · simp (disch := omega) only [wI_at, upd_ne, s5]
      · simp (disch := omega) only [wI_ne]
        exact s6 q hq
      · simp (disch := omega) only [wI_ne]
        exact s7 v hv
  refine lp_up (F := fun k (s1 : zS) i => fX0_pass_10 n k (mk s1) 68 (nI i)) (N := T 0 1) (P := fun i s1 => frD t o s s1 ∧ cSd s1.1 o T (lpF (grV T O) i S1)) (Q := fun r => ∃ s' : zS, r = some ((), mk s') ∧ frD t o s s' ∧ cSd s'.1 o T (upd (lpF (lfV T) (T 0 2) (lpF (grV T O) (T 0 1) S1)).1 0 ((lpF (lfV T) (T 0 2) (lpF (grV T O) (T 0 1) S1)).1 0 + 1), (lpF (lfV T) (T 0 2) (lpF (grV T O) (T 0 1) S1)).2)) ?_ ?_ (T 0 1) bi_K sb 0 (by omega) (by unfold bi_K; omega) ⟨fAB, hSb⟩
  · intro k sy i hi hP
    obtain ⟨fY, hSy⟩ := hP
    have hTy := cTd_D ht ho fY hT
    have hOy := cOd_D ho fY hO
    have o1y := hOy.1
    have o2y := hOy.2.1
    have hp' := WT_p hW hi
    have hDy : wD T (lpF (grV T O) i S1) := lpF_i (P := wD T) (fun k s hk hs => grV_w hs) hDb
    show (∃ s', _ = _ ∧ _ ∧ cSd _ o T (grV T O i (lpF (grV T O) i S1))) ∨ _
    revert hSy hDy
    generalize lpF (grV T O) i S1 = S3
    intro hSy hDy
    have K := c_isKept hn ho hSy.1.2.2.2.2 (wD_k hW hDy) hp'.2.2.2.2.2.2.2
    left
    cases g : S3.2.2.2.1.testBit i with
    | false =>
      rw [g] at K
      refine ⟨sy, ?_, fY, ?_⟩
      · simp (disch := first | omega | assumption | (simp only [wL_1, wL_22, wI_2, wA_2, wQ_1, wQ_21] <;> first | assumption | omega)) only [fX0_pass_10, fX0_pass_10b, fX0_pass_40, LIT, LITm, nI_add, n_mul, fa_or, n_31m, n_shl0, n_le, n_lt, n_eq, Option.bind_some, B_dy hn, B_d2 hn ht ho, B_t hn ht, B_s hn ho, CT hn ht hW, CTp t T, K, Bool.toNat_false, show ¬ T 0 1 ≤ i by omega, ↓reduceIte]
      · unfold grV
        rw [if_neg (by rw [g]; decide)]
        exact hSy
    | true =>
      rw [g] at K
      obtain ⟨sz, ez, fZ, hSz⟩ := c_grow hn ht ho hW hTy hOy hSy hwO hDy hi g
      refine ⟨sz, ?_, frD_t fY fZ, hSz⟩
      simp (disch := first | omega | assumption | (simp only [wL_1, wL_22, wI_2, wA_2, wQ_1, wQ_21] <;> first | assumption | omega)) only [fX0_pass_10, fX0_pass_10b, fX0_pass_40, LIT, LITm, nI_add, n_mul, fa_or, n_31m, n_shl0, n_le, n_lt, n_eq, Option.bind_some, B_dy hn, B_d2 hn ht ho, B_t hn ht, B_s hn ho, CT hn ht hW, CTp t T, K, ez, Bool.toNat_true, show ¬ (1 = 0) by omega, show ¬ T 0 1 ≤ i by omega, ↓reduceIte]
  · intro k sy hP
    obtain ⟨fY, hSy⟩ := hP
    have hTy := cTd_D ht ho fY hT
    have hOy := cOd_D ho fY hO
    have o1y := hOy.1
    have hDy : wD T (lpF (grV T O) (T 0 1) S1) := lpF_i (P := wD T) (fun k s hk hs => grV_w hs) hDb
    obtain ⟨sz, ez, fZ, hSz⟩ := fin sy _ fY hSy hDy
    refine ⟨sz, ?_, fZ, hSz⟩
    simp (disch := first | omega | assumption | (simp only [wL_1, wL_22, wI_2, wA_2, wQ_1, wQ_21] <;> first | assumption | omega)) only [fX0_pass_10, fX0_pass_10b, fX0_pass_40, LIT, LITm, nI_add, n_mul, fa_or, n_31m, n_shl0, n_le, n_lt, n_eq, Option.bind_some, B_dy hn, B_d2 hn ht ho, B_t hn ht, B_s hn ho, CT hn ht hW, CTp t T, ez, Nat.le_refl, ↓reduceIte]
end De
