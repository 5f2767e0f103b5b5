/-! ===== walkers matched with paths: the reference ===== -/
section Mm
variable {n w p W c : Nat} {s : zS} {T : zT} {S : zD} {A : zA} {x : Int32}
/-- what a code's ages are in sum; -1 if it can't be -/
def agR (o : Option (Nat × Int32)) : Int32 := match o with | none => m1 | some q => q.2
theorem dgt_le {P j : Nat} : dgt P W c j ≤ P := by
  unfold dgt
  have := Nat.mod_lt (c / (P + 1) ^ (W - 1 - j)) (show 0 < P + 1 by omega)
  omega
theorem m_ag53 (hn : 239 ≤ n) (hW : WT T) (hT : mTd s.1 T) (hS : mSd s 0 T O00 S) (hD : wD T S) (hR : ∀ j, j < T 0 2 → s.1 230 j = nI (dgt (T 0 1) (T 0 2) c j)) : fX11_ageBy_53 n bi_K (mk s) 187 (nI 0) (nI 0) (nI 0) = some (agR (agp (mokB T S) S.2.1 (T 0 1) (T 0 2) c), mk s) := by
  have h0 := hW.1
  have tl : ∀ i, i ≤ T 0 2 → agp (mokB T S) S.2.1 (T 0 1) i (c / (T 0 1 + 1) ^ (T 0 2 - i)) = none → agp (mokB T S) S.2.1 (T 0 1) (T 0 2) c = none := by
    intro i hi h
    have := agp_none (C := mokB T S) (ag := S.2.1) (P := T 0 1) (T 0 2 - i) i c h
    rwa [show i + (T 0 2 - i) = T 0 2 by omega] at this
  refine lp_up (F := fun f (q : Nat × Int32) i => fX11_ageBy_53 n f (mk s) 187 (nI q.1) q.2 (nI i)) (N := T 0 2) (P := fun i q => agp (mokB T S) S.2.1 (T 0 1) i (c / (T 0 1 + 1) ^ (T 0 2 - i)) = some q ∧ q.1 < 512) (Q := fun r => r = some (agR (agp (mokB T S) S.2.1 (T 0 1) (T 0 2) c), mk s)) ?_ ?_ (T 0 2) bi_K (0, nI 0) 0 (by omega) (by unfold bi_K; omega) ⟨rfl, by omega⟩
  · rintro f ⟨U, y⟩ i hi ⟨g1, g2⟩
    have g2 : U < 512 := g2
    have e1 : c / (T 0 1 + 1) ^ (T 0 2 - i) = c / (T 0 1 + 1) ^ (T 0 2 - (i + 1)) / (T 0 1 + 1) := by
      rw [Nat.div_div_eq_div_mul, ← Nat.pow_succ, show (T 0 2 - (i + 1)).succ = T 0 2 - i by omega]
    have ag1 : agp (mokB T S) S.2.1 (T 0 1) (i + 1) (c / (T 0 1 + 1) ^ (T 0 2 - (i + 1))) = if dgt (T 0 1) (T 0 2) c i = T 0 1 then some (U, y) else if (mokB T S i (dgt (T 0 1) (T 0 2) c i) && !U.testBit (dgt (T 0 1) (T 0 2) c i)) = true then some (U ||| 2 ^ dgt (T 0 1) (T 0 2) c i, y + S.2.1 (dgt (T 0 1) (T 0 2) c i)) else none := by
      rw [agp_s, ← e1, g1]
      unfold dgt
      rw [show T 0 2 - (i + 1) = T 0 2 - 1 - i by omega]
    have r1 := hR i hi
    have dl := dgt_le (W := T 0 2) (c := c) (P := T 0 1) (j := i)
    obtain ⟨d, ed⟩ : ∃ d, d = dgt (T 0 1) (T 0 2) c i := ⟨_, rfl⟩
    rw [← ed] at ag1 r1 dl
    show (∃ s', fX11_ageBy_53b n (fX11_ageBy_53 n f) (mk s) 187 (nI U) y (nI i) = _ ∧ _) ∨ fX11_ageBy_53b n (fX11_ageBy_53 n f) (mk s) 187 (nI U) y (nI i) = _
    unfold fX11_ageBy_53b fX11_ageBy_140
    by_cases q : d = T 0 1
    · left
      rw [if_pos q] at ag1
      refine ⟨(U, y), ?_, ag1, g2⟩
      rw [q] at r1
      simp (disch := first | omega | assumption | (simp only [wL_1, wL_22, wI_2, wA_2, wQ_1, wQ_21] <;> first | assumption | omega)) only [LIT, LITm, nI_add, n_mul, fa_or, n_31m, n_shl0, n_le, n_lt, n_eq, Option.bind_some, B_m hn, B_mc hn, hT.1.2.1, hT.1.2.2.1, r1, not_true_eq_false, show ¬ T 0 2 ≤ i by omega, ↓reduceIte]
    · rw [if_neg q] at ag1
      have hd : d < T 0 1 := by omega
      have he := WT_p hW hd
      have hat := (hD.2.2.1 i hi).1
      have io := m_isOf (n := n) (h := mk s) (x := d) g2 (by omega)
      have op := m_isOpen2 hn hW hT hS hd hi
      have aw : s.1 219 i = nI (S.2.2.1 0 i) := by
        have := (hS.2.2 i hi).1
        rwa [Nat.mul_zero, Nat.zero_add] at this
      have ae := m_atEnd hn hW hT hd (x := S.2.2.1 0 i) (by omega)
      have ga : s.1 221 d = S.2.1 d := by
        have := (hS.2.1 d hd).1
        rwa [Nat.mul_zero, Nat.zero_add] at this
      have mok : mokB T S i d = (opnB T S i d && decide (T 3 d = S.2.2.1 0 i ∨ T 4 d = S.2.2.1 0 i)) := by
        unfold mokB
        rw [decide_eq_true hd, Bool.true_and]
      have dn : ¬ d = T 0 1 := q
      cases u : U.testBit d with
      | true =>
        right
        rw [u] at io
        rw [u, Bool.not_true, Bool.and_false, if_neg Bool.false_ne_true] at ag1
        rw [tl (i + 1) (by omega) ag1]
        simp (disch := first | omega | assumption | (simp only [wL_1, wL_22, wI_2, wA_2, wQ_1, wQ_21] <;> first | assumption | omega)) only [LIT, LITm, nI_add, n_mul, fa_or, n_31m, n_shl0, n_le, n_lt, n_eq, Option.bind_some, B_m hn, B_mc hn, hT.1.2.1, hT.1.2.2.1, r1, dn, io, agR, Bool.toNat_true, Nat.reduceEqDiff, Nat.reduceLeDiff, not_false_eq_true, show ¬ T 0 2 ≤ i by omega, ↓reduceIte]
      | false =>
        rw [u] at io
        rw [u, Bool.not_false, Bool.and_true, mok] at ag1
        cases o : opnB T S i d with
        | false =>
          right
          rw [o] at op
          rw [o, Bool.false_and, if_neg Bool.false_ne_true] at ag1
          rw [tl (i + 1) (by omega) ag1]
          simp (disch := first | omega | assumption | (simp only [wL_1, wL_22, wI_2, wA_2, wQ_1, wQ_21] <;> first | assumption | omega)) only [LIT, LITm, nI_add, n_mul, fa_or, n_31m, n_shl0, n_le, n_lt, n_eq, Option.bind_some, B_m hn, B_mc hn, hT.1.2.1, hT.1.2.2.1, r1, dn, io, op, agR, Bool.toNat_true, Bool.toNat_false, Nat.reduceEqDiff, Nat.reduceLeDiff, not_false_eq_true, not_true_eq_false, show ¬ T 0 2 ≤ i by omega, ↓reduceIte]
        | true =>
          rw [o] at op
          rw [o, Bool.true_and] at ag1
          by_cases e : T 3 d = S.2.2.1 0 i ∨ T 4 d = S.2.2.1 0 i
          · left
            rw [decide_eq_true e] at ae ag1
            rw [if_pos rfl] at ag1
            refine ⟨(U ||| 2 ^ d, y + S.2.1 d), ?_, ag1, or5 g2 (Nat.pow_lt_pow_right (n := 9) (by decide) (by omega))⟩
            simp (disch := first | omega | assumption | (simp only [wL_1, wL_22, wI_2, wA_2, wQ_1, wQ_21] <;> first | assumption | omega)) only [LIT, LITm, nI_add, n_mul, fa_or, n_31m, n_shl0, n_le, n_lt, n_eq, Option.bind_some, B_m hn, B_mb hn, B_mc hn, hT.1.2.1, hT.1.2.2.1, r1, dn, io, op, aw, ae, ga, Bool.toNat_true, Bool.toNat_false, Nat.reduceEqDiff, Nat.reduceLeDiff, not_false_eq_true, not_true_eq_false, show ¬ T 0 2 ≤ i by omega, ↓reduceIte]
          · right
            rw [decide_eq_false e] at ae ag1
            rw [if_neg Bool.false_ne_true] at ag1
            rw [tl (i + 1) (by omega) ag1]
            simp (disch := first | omega | assumption | (simp only [wL_1, wL_22, wI_2, wA_2, wQ_1, wQ_21] <;> first | assumption | omega)) only [LIT, LITm, nI_add, n_mul, fa_or, n_31m, n_shl0, n_le, n_lt, n_eq, Option.bind_some, B_m hn, B_mb hn, B_mc hn, hT.1.2.1, hT.1.2.2.1, r1, dn, io, op, aw, ae, agR, Bool.toNat_true, Bool.toNat_false, Nat.reduceEqDiff, Nat.reduceLeDiff, not_false_eq_true, not_true_eq_false, show ¬ T 0 2 ≤ i by omega, ↓reduceIte]
  · rintro f ⟨U, y⟩ ⟨g1, g2⟩
    have g1 : agp (mokB T S) S.2.1 (T 0 1) (T 0 2) (c / (T 0 1 + 1) ^ (T 0 2 - T 0 2)) = some (U, y) := g1
    rw [Nat.sub_self, Nat.pow_zero, Nat.div_one] at g1
    show fX11_ageBy_53b n (fX11_ageBy_53 n f) (mk s) 187 (nI U) y (nI (T 0 2)) = _
    unfold fX11_ageBy_53b
    rw [g1]
    simp (disch := first | omega | assumption | (simp only [wL_1, wL_22, wI_2, wA_2, wQ_1, wQ_21] <;> first | assumption | omega)) only [LIT, LITm, nI_add, n_mul, fa_or, n_31m, n_shl0, n_le, n_lt, n_eq, Option.bind_some, B_m hn, hT.1.2.2.1, agR, Nat.le_refl, ↓reduceIte]
theorem m_ageBy (hn : 239 ≤ n) (hW : WT T) (hT : mTd s.1 T) (hS : mSd s 0 T O00 S) (hD : wD T S) (hc : c < 1000000) : ∃ s' : zS, fX11_ageBy n (mk s) 187 (nI c) = some (agR (agp (mokB T S) S.2.1 (T 0 1) (T 0 2) c), mk s') ∧ s'.2 = s.2 ∧ (∀ a, a ≠ 230 → s'.1 a = s.1 a) ∧ ∀ j, j < T 0 2 → s'.1 230 j = nI (dgt (T 0 1) (T 0 2) c j) := by
  have h0 := hW.1
  unfold fX11_ageBy
  simp (disch := first | omega | assumption | (simp only [wL_1, wL_22, wI_2, wA_2, wQ_1, wQ_21] <;> first | assumption | omega)) only [LIT, LITm, nI_add, n_mul, fa_or, n_31m, n_shl0, n_le, n_lt, n_eq, Option.bind_some, B_m hn, hT.1.2.2.1, id_0]
  rw [show nI c = nI (c / (T 0 1 + 1) ^ 0) by rw [Nat.pow_zero, Nat.div_one]]
  refine lp_up (F := fun f (s1 : zS) i => fX11_ageBy_15 n f (mk s1) 187 (nI (c / (T 0 1 + 1) ^ i)) (nI 0) (nI 0) (idV (T 0 2) i)) (N := T 0 2) (P := fun i s1 => s1.2 = s.2 ∧ (∀ a, a ≠ 230 → s1.1 a = s.1 a) ∧ ∀ j, T 0 2 - i ≤ j → j < T 0 2 → s1.1 230 j = nI (dgt (T 0 1) (T 0 2) c j)) (Q := fun r => ∃ s' : zS, r = some (agR (agp (mokB T S) S.2.1 (T 0 1) (T 0 2) c), mk s') ∧ s'.2 = s.2 ∧ (∀ a, a ≠ 230 → s'.1 a = s.1 a) ∧ ∀ j, j < T 0 2 → s'.1 230 j = nI (dgt (T 0 1) (T 0 2) c j)) ?_ ?_ (T 0 2) bi_K s 0 (by omega) (by unfold bi_K; omega) ⟨rfl, fun _ _ => rfl, fun j h1 h2 => by omega⟩
  · rintro f s1 i hi ⟨g1, g2, g3⟩
    left
    have hT1 : mTd s1.1 T := mTd_fr hT (fun b j hb => by rw [g2 b (by omega)])
    have e1 : c / (T 0 1 + 1) ^ (i + 1) = c / (T 0 1 + 1) ^ i / (T 0 1 + 1) := by rw [Nat.div_div_eq_div_mul, ← Nat.pow_succ]
    obtain ⟨k, ek⟩ : ∃ k, k = c / (T 0 1 + 1) ^ i := ⟨_, rfl⟩
    have kl : k ≤ c := by rw [ek]; exact Nat.div_le_self _ _
    have is := id_s hi
    have dk : k % (T 0 1 + 1) = dgt (T 0 1) (T 0 2) c (T 0 2 - 1 - i) := by
      unfold dgt
      rw [show T 0 2 - 1 - (T 0 2 - 1 - i) = i by omega, ek]
    refine ⟨wI s1 230 (T 0 2 - 1 - i) (nI (k % (T 0 1 + 1))), ?_, g1, fun a ha => by rw [wI_ne ha]; exact g2 a ha, fun j h1 h2 => ?_⟩
    · have e0 : fX11_ageBy_15 n (f + 1) (mk s1) 187 (nI (c / (T 0 1 + 1) ^ i)) (nI 0) (nI 0) (idV (T 0 2) i) = fX11_ageBy_15b n (fX11_ageBy_15 n f) (mk s1) 187 (nI k) (nI 0) (nI 0) (nI (T 0 2 - 1 - i)) := by
        unfold idV
        rw [if_pos hi, ek]
        rfl
      show fX11_ageBy_15 n (f + 1) (mk s1) 187 (nI (c / (T 0 1 + 1) ^ i)) (nI 0) (nI 0) (idV (T 0 2) i) = _
      rw [e0, e1, ← ek]
      unfold fX11_ageBy_15b
      have lt0 : (nI (T 0 2 - 1 - i) < nI 0) = False := n_lt0 (by omega)
      have p13 : s1.1 187 13 = nI (T 0 1) := hT1.1.2.1
      simp (disch := first | omega | assumption | (simp only [wL_1, wL_22, wI_2, wA_2, wQ_1, wQ_21] <;> first | assumption | omega)) only [LIT, LITm, nI_add, n_mul, fa_or, n_31m, n_shl0, n_le, n_lt, n_eq, Option.bind_some, B_m hn, B_mc hn, p13, n_rI, n_dI, lt0, is, wI_ne, if_false, ↓reduceIte]
    · by_cases q : j = T 0 2 - 1 - i
      · rw [q, wI_at, upd_at, dk]
      · rw [wI_at, upd_ne q]
        exact g3 j (by omega) h2
  · rintro f s1 ⟨g1, g2, g3⟩
    have hT1 : mTd s1.1 T := mTd_fr hT (fun b j hb => by rw [g2 b (by omega)])
    have hS1 : mSd s1 0 T O00 S := mSd_0 (fun b h1 h2 => g2 b (by omega)) (by rw [g1]) hS
    have e := m_ag53 (c := c) hn hW hT1 hS1 hD (fun j hj => g3 j (by omega) hj)
    refine ⟨s1, ?_, g1, g2, fun j hj => g3 j (by omega) hj⟩
    show fX11_ageBy_15b n (fX11_ageBy_15 n f) (mk s1) 187 (nI (c / (T 0 1 + 1) ^ T 0 2)) (nI 0) (nI 0) (idV (T 0 2) (T 0 2)) = _
    unfold fX11_ageBy_15b idV
    rw [if_neg (Nat.lt_irrefl _)]
    simp (disch := first | omega | assumption | (simp only [wL_1, wL_22, wI_2, wA_2, wQ_1, wQ_21] <;> first | assumption | omega)) only [LIT, LITm, nI_add, n_mul, fa_or, n_31m, n_shl0, n_le, n_lt, n_eq, Option.bind_some, n_m1lt, if_true, ↓reduceIte]
    exact e
theorem m_match67 (hn : 239 ≤ n) (hW : WT T) (hT : mTd s.1 T) (hS : mSd s 0 T O00 S) (hD : wD T S) {k : Nat} (hk : k = 4 ∨ k < T 0 2) {ag bp : Nat → Int32} (hag : ∀ p, p < T 0 1 → ag p = S.2.1 p) : ∃ s' : zS, fX11_match_67 n bi_K (mk s) 187 (nI k) (nI ((T 0 1 + 1) ^ T 0 2)) m1 m1 (nI 0) = some (matV T (bstV T S ag bp) (nI k), mk s') ∧ s'.2 = s.2 ∧ ∀ a, a ≠ 230 → s'.1 a = s.1 a := by
  have h0 := hW.1
  have hpw : (T 0 1 + 1) ^ T 0 2 ≤ 10000 := Nat.le_trans (Nat.pow_le_pow_left (show T 0 1 + 1 ≤ 10 by omega) _) (Nat.pow_le_pow_right (n := 10) (j := 4) (by decide) (by omega))
  have hC : ∀ v p, T 0 1 ≤ p → mokB T S v p = false := fun v p hp => by
    unfold mokB
    rw [decide_eq_false (by omega), Bool.false_and]
  have eag : bstV T S ag bp = bstV T S S.2.1 bp := by
    have cong : ∀ m w U x pk b, mfV (mokB T S) ag m w U x pk b = mfV (mokB T S) S.2.1 m w U x pk b := by
      intro m
      induction m with
      | zero => intros; rfl
      | succ m ih =>
        intro w U x pk b
        show mfV (mokB T S) ag m _ _ _ _ (lpF _ 9 b) = mfV (mokB T S) S.2.1 m _ _ _ _ (lpF _ 9 b)
        rw [ih]
        have fe : (fun p b => if (mokB T S w p && !U.testBit p) = true then mfV (mokB T S) ag m (w + 1) (U ||| 2 ^ p) (x + ag p) (upd pk w (nI p)) b else b) = (fun p b => if (mokB T S w p && !U.testBit p) = true then mfV (mokB T S) S.2.1 m (w + 1) (U ||| 2 ^ p) (x + S.2.1 p) (upd pk w (nI p)) b else b) := by
          funext p b
          by_cases g : p < T 0 1
          · rw [hag p g, ih]
          · rw [hC w p (by omega), Bool.false_and, if_neg Bool.false_ne_true, if_neg Bool.false_ne_true]
        rw [fe]
    exact cong _ _ _ _ _ _
  have rel := rel_all (C := mokB T S) (ag := S.2.1) (P := T 0 1) (W := T 0 2) (T 0 2) 0 0 0 (nI 0) (m1, m1) (m1, bp) (by omega) (by rw [Nat.pow_zero]; omega) rfl hC (by omega) ⟨rfl, by decide, Or.inl rfl⟩
  rw [Nat.zero_mul] at rel
  have ne := fdR_end (C := mokB T S) (ag := S.2.1) (P := T 0 1) (W := T 0 2) (q := (m1, m1)) (by decide)
  obtain ⟨r1, r2, r3⟩ := rel
  have r3' := r3.resolve_left ne
  rw [eag]
  have toK : ∀ s1 : zS, s1.2 = s.2 → (∀ a, a ≠ 230 → s1.1 a = s.1 a) → mTd s1.1 T ∧ mSd s1 0 T O00 S := fun s1 z o => ⟨mTd_fr hT (fun b j hb => by rw [o b (by omega)]), mSd_0 (fun b h1 h2 => o b (by omega)) (by rw [z]) hS⟩
  have m1q : ∀ k, m1 ≤ (fdR (mokB T S) S.2.1 (T 0 1) (T 0 2) 0 k (m1, m1)).2 := by
    intro k
    induction k with
    | zero => exact (by decide : m1 ≤ m1)
    | succ k ih =>
      show m1 ≤ (stp _ _ _ _ (0 + k) (fdR (mokB T S) S.2.1 (T 0 1) (T 0 2) 0 k (m1, m1))).2
      unfold stp
      split
      · exact ih
      · split
        · exact ih
        · rename_i g
          exact le_of_nle g ih
  refine lp_up (F := fun f (s1 : zS) i => fX11_match_67 n f (mk s1) 187 (nI k) (nI ((T 0 1 + 1) ^ T 0 2)) (fdR (mokB T S) S.2.1 (T 0 1) (T 0 2) 0 i (m1, m1)).1 (fdR (mokB T S) S.2.1 (T 0 1) (T 0 2) 0 i (m1, m1)).2 (nI i)) (N := (T 0 1 + 1) ^ T 0 2) (P := fun i s1 => s1.2 = s.2 ∧ ∀ a, a ≠ 230 → s1.1 a = s.1 a) (Q := fun r => ∃ s' : zS, r = some (matV T (bstV T S S.2.1 bp) (nI k), mk s') ∧ s'.2 = s.2 ∧ ∀ a, a ≠ 230 → s'.1 a = s.1 a) ?_ ?_ ((T 0 1 + 1) ^ T 0 2) bi_K s 0 (by omega) (by unfold bi_K; omega) ⟨rfl, fun _ _ => rfl⟩
  · rintro f s1 i hi ⟨g1, g2⟩
    left
    obtain ⟨t1, t2⟩ := toK s1 g1 g2
    obtain ⟨s2, e2, z2, o2, -⟩ := m_ageBy (c := i) hn hW t1 t2 hD (by omega)
    refine ⟨s2, ?_, by rw [z2, g1], fun a ha => by rw [o2 a ha, g2 a ha]⟩
    have un : fdR (mokB T S) S.2.1 (T 0 1) (T 0 2) 0 (i + 1) (m1, m1) = stp (mokB T S) S.2.1 (T 0 1) (T 0 2) (0 + i) (fdR (mokB T S) S.2.1 (T 0 1) (T 0 2) 0 i (m1, m1)) := rfl
    have mq := m1q i
    obtain ⟨q, eq⟩ : ∃ q, q = fdR (mokB T S) S.2.1 (T 0 1) (T 0 2) 0 i (m1, m1) := ⟨_, rfl⟩
    show fX11_match_67b n (fX11_match_67 n f) (mk s1) 187 (nI k) (nI ((T 0 1 + 1) ^ T 0 2)) (fdR (mokB T S) S.2.1 (T 0 1) (T 0 2) 0 i (m1, m1)).1 (fdR (mokB T S) S.2.1 (T 0 1) (T 0 2) 0 i (m1, m1)).2 (nI i) = fX11_match_67 n f (mk s2) 187 (nI k) (nI ((T 0 1 + 1) ^ T 0 2)) (fdR (mokB T S) S.2.1 (T 0 1) (T 0 2) 0 (i + 1) (m1, m1)).1 (fdR (mokB T S) S.2.1 (T 0 1) (T 0 2) 0 (i + 1) (m1, m1)).2 (nI (i + 1))
    rw [un, ← eq, Nat.zero_add]
    rw [← eq] at mq
    unfold fX11_match_67b fX11_match_98 stp
    cases e : agp (mokB T S) S.2.1 (T 0 1) (T 0 2) i with
    | none =>
      rw [e] at e2
      have nl : ¬ q.2 < m1 := by
        rw [nltle]
        exact fun h => h mq
      simp (disch := first | omega | assumption | (simp only [wL_1, wL_22, wI_2, wA_2, wQ_1, wQ_21] <;> first | assumption | omega)) only [LIT, LITm, nI_add, n_mul, fa_or, n_31m, n_shl0, n_le, n_lt, n_eq, Option.bind_some, e2, agR, nl, show ¬ (T 0 1 + 1) ^ T 0 2 ≤ i by omega, ↓reduceIte]
    | some r =>
      rw [e] at e2
      by_cases g : r.2 ≤ q.2
      · have nl : ¬ q.2 < r.2 := by
          rw [nltle]
          exact fun h => h g
        simp (disch := first | omega | assumption | (simp only [wL_1, wL_22, wI_2, wA_2, wQ_1, wQ_21] <;> first | assumption | omega)) only [LIT, LITm, nI_add, n_mul, fa_or, n_31m, n_shl0, n_le, n_lt, n_eq, Option.bind_some, e2, agR, nl, g, show ¬ (T 0 1 + 1) ^ T 0 2 ≤ i by omega, ↓reduceIte]
      · have nl : q.2 < r.2 := by
          rw [nltle]
          exact g
        simp (disch := first | omega | assumption | (simp only [wL_1, wL_22, wI_2, wA_2, wQ_1, wQ_21] <;> first | assumption | omega)) only [LIT, LITm, nI_add, n_mul, fa_or, n_31m, n_shl0, n_le, n_lt, n_eq, Option.bind_some, e2, agR, nl, g, show ¬ (T 0 1 + 1) ^ T 0 2 ≤ i by omega, ↓reduceIte]
  · rintro f s1 ⟨g1, g2⟩
    obtain ⟨t1, t2⟩ := toK s1 g1 g2
    have r1' : (fdR (mokB T S) S.2.1 (T 0 1) (T 0 2) 0 ((T 0 1 + 1) ^ T 0 2) (m1, m1)).2 = (bstV T S S.2.1 bp).1 := r1
    obtain ⟨c, hc, e1, -, e3⟩ := r3'
    have e3' : (bstV T S S.2.1 bp).2 = pkp (T 0 1) (T 0 2) c := e3
    show ∃ s', fX11_match_67b n (fX11_match_67 n f) (mk s1) 187 (nI k) (nI ((T 0 1 + 1) ^ T 0 2)) (fdR (mokB T S) S.2.1 (T 0 1) (T 0 2) 0 ((T 0 1 + 1) ^ T 0 2) (m1, m1)).1 (fdR (mokB T S) S.2.1 (T 0 1) (T 0 2) 0 ((T 0 1 + 1) ^ T 0 2) (m1, m1)).2 (nI ((T 0 1 + 1) ^ T 0 2)) = _ ∧ _
    unfold fX11_match_67b matV
    rw [r1', e1]
    by_cases q : k = 4
    · refine ⟨s1, ?_, g1, g2⟩
      rw [if_pos (show nI k = nI 4 by rw [q])]
      simp (disch := first | omega | assumption | (simp only [wL_1, wL_22, wI_2, wA_2, wQ_1, wQ_21] <;> first | assumption | omega)) only [LIT, LITm, nI_add, n_mul, fa_or, n_31m, n_shl0, n_le, n_lt, n_eq, Option.bind_some, q, not_true_eq_false, Nat.le_refl, ↓reduceIte]
    · have hk' : k < T 0 2 := by omega
      obtain ⟨s2, e2, z2, o2, d2⟩ := m_ageBy (c := c) hn hW t1 t2 hD (by omega)
      refine ⟨s2, ?_, by rw [z2, g1], fun a ha => by rw [o2 a ha, g2 a ha]⟩
      rw [if_neg (show ¬ nI k = nI 4 by rw [n_eq (by omega) (by omega)]; exact q), cl_n (by omega), e3', pkp_d _ _ _ hk']
      have dk := d2 k hk'
      have dl := dgt_le (W := T 0 2) (c := c) (P := T 0 1) (j := k)
      have p13 : s2.1 187 13 = nI (T 0 1) := by rw [o2 187 (by omega)]; exact t1.1.2.1
      obtain ⟨d, ed⟩ : ∃ d, d = dgt (T 0 1) (T 0 2) c k := ⟨_, rfl⟩
      rw [← ed] at dk dl ⊢
      by_cases r : d = T 0 1
      · rw [if_pos r]
        rw [r] at dk
        simp (disch := first | omega | assumption | (simp only [wL_1, wL_22, wI_2, wA_2, wQ_1, wQ_21] <;> first | assumption | omega)) only [LIT, LITm, nI_add, n_mul, fa_or, n_31m, n_shl0, n_le, n_lt, n_eq, Option.bind_some, B_m hn, B_mc hn, q, e2, dk, p13, not_true_eq_false, not_false_eq_true, Nat.le_refl, ↓reduceIte]
      · rw [if_neg r]
        simp (disch := first | omega | assumption | (simp only [wL_1, wL_22, wI_2, wA_2, wQ_1, wQ_21] <;> first | assumption | omega)) only [LIT, LITm, nI_add, n_mul, fa_or, n_31m, n_shl0, n_le, n_lt, n_eq, Option.bind_some, B_m hn, B_mc hn, q, e2, dk, p13, r, not_false_eq_true, Nat.le_refl, ↓reduceIte]
theorem mf_out {C : Nat → Nat → Bool} {ag : Nat → Int32} : ∀ (m w U : Nat) (x : Int32) (pk : Nat → Int32) (b : Int32 × (Nat → Int32)) (j : Nat), w + m ≤ j → pk j = m2 → (b.1 = m1 ∨ b.2 j = m2) → ((mfV C ag m w U x pk b).1 = m1 ∨ (mfV C ag m w U x pk b).2 j = m2)
  | 0, w, U, x, pk, b, j, hj, hp, hb => by
    show (if x ≤ b.1 then b else (x, pk)).1 = m1 ∨ (if x ≤ b.1 then b else (x, pk)).2 j = m2
    split
    · exact hb
    · exact Or.inr hp
  | m + 1, w, U, x, pk, b, j, hj, hp, hb => by
    show (mfV C ag m (w + 1) U x (upd pk w m2) _).1 = m1 ∨ _
    refine mf_out m (w + 1) U x _ _ j (by omega) (by rw [upd_ne (by omega)]; exact hp) ?_
    refine lpF_i (P := fun b : Int32 × (Nat → Int32) => b.1 = m1 ∨ b.2 j = m2) (fun p b' _ h => ?_) hb
    show (if _ then _ else b').1 = m1 ∨ (if _ then _ else b').2 j = m2
    split
    · exact mf_out m (w + 1) _ _ _ _ j (by omega) (by rw [upd_ne (by omega)]; exact hp) h
    · exact h
theorem m_match (hn : 239 ≤ n) (hK : mK s A) (hA : wfA A) : (∀ k ag bp, k ≤ 4 → (∀ p, p < aT A 0 1 → ag p = (aS A).2.1 p) → ∃ s' : zS, fX11_match n (mk s) 187 (nI k) = some (matV (aT A) (bstV (aT A) (aS A) ag bp) (nI k), mk s') ∧ frT s s') ∧ (wiV 0 x 4 = false → ∃ s' : zS, fX11_match n (mk s) 187 x = some (m1, mk s') ∧ frT s s') := by
  have hW := hA.1
  have h0 := hW.1
  have ft := m_th s
  have hKt := mK_T hW hK ft
  obtain ⟨sa, ea⟩ : ∃ sa : zS, sa = wI s 187 2 (nI 0) := ⟨_, rfl⟩
  rw [← ea] at hKt ft
  obtain ⟨k1, k2, -⟩ := hKt
  refine ⟨fun k ag bp hk hag => ?_, fun h => ?_⟩
  · by_cases q : k = 4 ∨ k < aT A 0 2
    · obtain ⟨s', e, z, o⟩ := m_match67 (bp := bp) hn hW k1 k2 hA.2.1 q hag
      refine ⟨s', ?_, frT_t ft ⟨⟨by rw [z], fun b j hb => by rw [o b (fun q => hb (by unfold scM; omega))], fun b j _ _ _ => by rw [z]⟩, by rw [z]⟩⟩
      have lp : fX11_match_36 n bi_K (mk sa) 187 (nI k) (nI 1) (nI 0) = some (matV (aT A) (bstV (aT A) (aS A) ag bp) (nI k), mk s') := by
        refine lp_up (F := fun f (_ : Unit) i => fX11_match_36 n f (mk sa) 187 (nI k) (nI ((aT A 0 1 + 1) ^ i)) (nI i)) (N := aT A 0 2) (P := fun _ _ => True) (Q := fun r => r = some (matV (aT A) (bstV (aT A) (aS A) ag bp) (nI k), mk s')) ?_ ?_ (aT A 0 2) bi_K () 0 (by omega) (by unfold bi_K; omega) trivial
        · intro f _ i hi _
          left
          refine ⟨(), ?_, trivial⟩
          show fX11_match_36b n (fX11_match_36 n f) (mk sa) 187 (nI k) (nI ((aT A 0 1 + 1) ^ i)) (nI i) = fX11_match_36 n f (mk sa) 187 (nI k) (nI ((aT A 0 1 + 1) ^ (i + 1))) (nI (i + 1))
          unfold fX11_match_36b
          rw [Nat.pow_succ]
          simp (disch := first | omega | assumption | (simp only [wL_1, wL_22, wI_2, wA_2, wQ_1, wQ_21] <;> first | assumption | omega)) only [LIT, LITm, nI_add, n_mul, fa_or, n_31m, n_shl0, n_le, n_lt, n_eq, Option.bind_some, B_m hn, k1.1.2.1, k1.1.2.2.1, show ¬ aT A 0 2 ≤ i by omega, ↓reduceIte]
        · intro f _ _
          show fX11_match_36b n (fX11_match_36 n f) (mk sa) 187 (nI k) (nI ((aT A 0 1 + 1) ^ aT A 0 2)) (nI (aT A 0 2)) = _
          unfold fX11_match_36b
          simp (disch := first | omega | assumption | (simp only [wL_1, wL_22, wI_2, wA_2, wQ_1, wQ_21] <;> first | assumption | omega)) only [LIT, LITm, nI_add, n_mul, fa_or, n_31m, n_shl0, n_le, n_lt, n_eq, Option.bind_some, B_m hn, k1.1.2.2.1, Nat.le_refl, ↓reduceIte]
          exact e
      unfold fX11_match fX11_match_32
      rcases q with q | q
      · rw [q] at lp ⊢
        simp (disch := first | omega | assumption | (simp only [wL_1, wL_22, wI_2, wA_2, wQ_1, wQ_21] <;> first | assumption | omega)) only [LIT, LITm, nI_add, n_mul, fa_or, n_31m, n_shl0, n_le, n_lt, n_eq, Option.bind_some, B_m hn, ← ea, m_within, wiV_n, lp, Bool.toNat_true, Nat.reduceEqDiff, Nat.reduceLeDiff, not_false_eq_true, Nat.le_refl, ↓reduceIte]
      · simp (disch := first | omega | assumption | (simp only [wL_1, wL_22, wI_2, wA_2, wQ_1, wQ_21] <;> first | assumption | omega)) only [LIT, LITm, nI_add, n_mul, fa_or, n_31m, n_shl0, n_le, n_lt, n_eq, Option.bind_some, B_m hn, ← ea, m_within, wiV_n, k1.1.2.2.1, lp, q, Bool.toNat_true, Nat.reduceEqDiff, Nat.reduceLeDiff, not_false_eq_true, show ¬ 4 ≤ k by omega, ↓reduceIte]
    · refine ⟨sa, ?_, ft⟩
      have hC : ∀ v p, aT A 0 1 ≤ p → mokB (aT A) (aS A) v p = false := fun v p hp => by
        unfold mokB
        rw [decide_eq_false (by omega), Bool.false_and]
      have v : matV (aT A) (bstV (aT A) (aS A) ag bp) (nI k) = m2 := by
        unfold matV
        rw [if_neg (by rw [n_eq (by omega) (by omega)]; omega), cl_n (by omega)]
        have rel := rel_all (C := mokB (aT A) (aS A)) (ag := ag) (P := aT A 0 1) (W := aT A 0 2) (aT A 0 2) 0 0 0 (nI 0) (m1, m1) (m1, bp) (by omega) (by rw [Nat.pow_zero]; omega) rfl hC (by omega) ⟨rfl, by decide, Or.inl rfl⟩
        rw [Nat.zero_mul] at rel
        have ne := fdR_end (C := mokB (aT A) (aS A)) (ag := ag) (P := aT A 0 1) (W := aT A 0 2) (q := (m1, m1)) (by decide)
        have e := mf_out (C := mokB (aT A) (aS A)) (ag := ag) (aT A 0 2) 0 0 (nI 0) (fun _ => m2) (m1, bp) k (by omega) rfl (Or.inl rfl)
        rcases e with e | e
        · exact absurd (rel.1.trans e) ne
        · exact e
      rw [v]
      unfold fX11_match
      simp (disch := first | omega | assumption | (simp only [wL_1, wL_22, wI_2, wA_2, wQ_1, wQ_21] <;> first | assumption | omega)) only [LIT, LITm, nI_add, n_mul, fa_or, n_31m, n_shl0, n_le, n_lt, n_eq, Option.bind_some, B_m hn, ← ea, m_within, wiV_n, k1.1.2.2.1, Bool.toNat_true, Nat.reduceEqDiff, Nat.reduceLeDiff, not_false_eq_true, show ¬ 4 ≤ k by omega, show ¬ k < aT A 0 2 by omega, ↓reduceIte]
  · refine ⟨sa, ?_, ft⟩
    unfold fX11_match
    simp (disch := first | omega | assumption | (simp only [wL_1, wL_22, wI_2, wA_2, wQ_1, wQ_21] <;> first | assumption | omega)) only [LIT, LITm, nI_add, n_mul, fa_or, n_31m, n_shl0, n_le, n_lt, n_eq, Option.bind_some, B_m hn, ← ea, m_within, h, Bool.toNat_false, not_true_eq_false, ↓reduceIte]
end Mm
