/-! ===== the reference goes on from a settled node: the run ===== -/
section Ry
variable {n p w c W k v : Nat} {s s0 : zS} {T : zT} {S : zD} {d d1 : Nat → Option Nat} {D : Nat → Bool}
theorem m_s141 {a v0 : Nat} {r58 : ai_H → Nat → Int32 → Int32 → Int32 → Option (Unit × ai_H)} (hn : 239 ≤ n) (hW : WT T) (hT : mTd s.1 T) (hS : mSd s 0 T O00 S) (hw : w < T 0 2) (hWs : W < 512) (hc : c ≤ 99) (hL : lbS s d D) (hk3 : k < 3584) (hk : d k = some v) (hDk : D k = true) (hB : ∀ j u, d j = some u → u + 202 < 1000000) (hs : snL (stE T S w W c) a v0 d) (hD : ∀ j u, D j = true → d j = some u → u ≤ v) (hDn : ∀ j, D j = true → d j ≠ none) : ∃ (s' : zS) (d' : Nat → Option Nat), fX11_settle_141 n r58 bi_K (mk s) 187 (nI w) (nI W) (nI c) (nI k) (nI 0) = r58 (mk s') 187 (nI w) (nI W) (nI c) ∧ s'.2 = s.2 ∧ (∀ b, b ≠ 227 → s'.1 b = s.1 b) ∧ lbS s' d' D ∧ rxI T S w W c a v0 k v d D (T 0 1) d' := by
  have h0 := hW.1
  have hv := hB k v hk
  have n512 : (512 : Int32) = nI 512 := rfl
  have hk7 : k / 512 < 7 := by omega
  refine lp_up (F := fun f (q : zS × (Nat → Option Nat)) i => fX11_settle_141 n r58 f (mk q.1) 187 (nI w) (nI W) (nI c) (nI k) (nI i)) (N := T 0 1) (P := fun i q => q.1.2 = s.2 ∧ (∀ b, b ≠ 227 → q.1.1 b = s.1 b) ∧ lbS q.1 q.2 D ∧ rxI T S w W c a v0 k v d D i q.2) (Q := fun r => ∃ (s' : zS) (d' : Nat → Option Nat), r = r58 (mk s') 187 (nI w) (nI W) (nI c) ∧ s'.2 = s.2 ∧ (∀ b, b ≠ 227 → s'.1 b = s.1 b) ∧ lbS s' d' D ∧ rxI T S w W c a v0 k v d D (T 0 1) d') ?_ ?_ (T 0 1) bi_K (s, d) 0 (by omega) (by unfold bi_K; omega) ⟨rfl, fun _ _ => rfl, hL, hs, fun _ _ => rfl, fun j u h => ⟨u, Nat.le_refl _, h⟩, fun j u h => Or.inl h, fun p _ h => absurd h (Nat.not_lt_zero p)⟩
  · rintro f ⟨s1, d1⟩ i hi ⟨g1, g2, g3, g4⟩
    left
    have g1 : s1.2 = s.2 := g1
    have g2 : ∀ b, b ≠ 227 → s1.1 b = s.1 b := g2
    have g3 : lbS s1 d1 D := g3
    have g4 : rxI T S w W c a v0 k v d D i d1 := g4
    have he := WT_p hW hi
    have hT1 : mTd s1.1 T := mTd_fr hT (fun a j ha => by rw [g2 a (by omega)])
    have hS1 : mSd s1 0 T O00 S := mSd_0 (fun c h1 h2 => g2 c (by omega)) (by rw [g1]) hS
    have op := m_isOpen2 hn hW hT1 hS1 hi hw
    have ae := m_atEnd hn hW hT1 hi hk7
    have ot := m_other2 hn hW hT1 hi hk7
    have dk : d1 k = some v := by rw [g4.2.1 k hDk]; exact hk
    have lk : s1.1 227 k = nI v := by rw [(g3 k hk3).1, dk]; rfl
    have w5 : s1.1 196 i = nI (T 5 i) := (hT1.2.2.2.1 i hi).2.2.2.1
    have tk := m_takes (h := 0) (s := s1) (l := T 5 i) (u := v) hn (by omega) (by omega) hc
    have eA : nI W &&& nI (2 ^ i) = nI (W &&& 2 ^ i) := fa_and _ _
    have tl := tgV_lt (k := k) hW hi hWs
    obtain ⟨t, et⟩ : ∃ t, t = tgV T W k i := ⟨_, rfl⟩
    have et' : 512 * othV T i (k / 512) + (k % 512 ||| (W &&& 2 ^ i)) = t := et.symm
    rw [← et] at tl
    have lt := (g3 t tl).1
    have bt : ∀ u, d1 t = some u → u < 1000000 := fun u hu => by
      rcases g4.2.2.2.1 t u hu with g | ⟨-, -, g⟩
      · have := hB t u g
        omega
      · omega
    show ∃ q : zS × (Nat → Option Nat), fX11_settle_141b n r58 (fX11_settle_141 n r58 f) (mk s1) 187 (nI w) (nI W) (nI c) (nI k) (nI i) = _ ∧ _
    unfold fX11_settle_141b fX11_settle_258 fX11_settle_267
    cases go : opnB T S w i with
    | false =>
      rw [go] at op
      refine ⟨(s1, d1), ?_, g1, g2, g3, rxI_no g4 (fun v' h => by rw [go] at h; cases h)⟩
      simp (disch := first | omega | assumption | (simp only [wL_1, wL_22, wI_2, wA_2, wQ_1, wQ_21] <;> first | assumption | omega)) only [LIT, LITm, nI_add, n_mul, fa_or, n_31m, n_shl0, n_le, n_lt, n_eq, Option.bind_some, B_m hn, hT1.1.2.1, op, Bool.toNat_false, show ¬ T 0 1 ≤ i by omega, ↓reduceIte]
    | true =>
      rw [go] at op
      by_cases ga : T 3 i = k / 512 ∨ T 4 i = k / 512
      · rw [decide_eq_true ga] at ae
        cases gt : tkV c (T 5 i) v with
        | none =>
          rw [gt] at tk
          refine ⟨(s1, d1), ?_, g1, g2, g3, rxI_no g4 (fun v' _ _ h => by rw [gt] at h; cases h)⟩
          simp (disch := first | omega | assumption | (simp only [wL_1, wL_22, wI_2, wA_2, wQ_1, wQ_21] <;> first | assumption | omega)) only [LIT, LITm, nI_add, n_mul, fa_or, n_31m, n_shl0, n_le, n_lt, n_eq, Option.bind_some, n512, B_m hn, B_ma hn, B_mc hn, hT1.1.2.1, op, n_dI, n_rI, ae, lk, w5, tk, ot, oV, n_m1lt, Bool.toNat_true, Nat.reduceEqDiff, Nat.reduceLeDiff, not_false_eq_true, if_true, show ¬ T 0 1 ≤ i by omega, ↓reduceIte]
        | some v' =>
          rw [gt] at tk
          have hv' := tkV_b (by omega) (by omega) gt
          have nv : (nI v' < nI 0) = False := n_lt0 (by omega)
          cases gd : d1 t with
          | none =>
            rw [gd] at lt
            refine ⟨(wI s1 227 t (nI v'), fun z => if z = t then some v' else d1 z), ?_, g1, fun b hb => by rw [wI_ne hb]; exact g2 b hb, fun j hj => ?_, ?_⟩
            · simp (disch := first | omega | assumption | (simp only [wL_1, wL_22, wI_2, wA_2, wQ_1, wQ_21] <;> first | assumption | omega)) only [LIT, LITm, nI_add, n_mul, fa_or, n_31m, n_shl0, n_le, n_lt, n_eq, Option.bind_some, n512, B_m hn, B_ma hn, B_mc hn, hT1.1.2.1, op, n_dI, n_rI, ae, lk, w5, tk, ot, eA, et', lt, nv, oV, n_m1lt, Bool.toNat_true, Nat.reduceEqDiff, Nat.reduceLeDiff, not_false_eq_true, if_true, if_false, show ¬ T 0 1 ≤ i by omega, ↓reduceIte]
            · show (wI s1 227 t (nI v')).1 227 j = oV (if j = t then some v' else d1 j) ∧ (wI s1 227 t (nI v')).1 228 j = _
              rw [wI_ne (by omega : (228 : Nat) ≠ 227)]
              refine ⟨?_, (g3 j hj).2⟩
              by_cases e : j = t
              · rw [if_pos e, e, wI_at, upd_at]; rfl
              · rw [if_neg e, wI_at, upd_ne e]; exact (g3 j hj).1
            · have := rxI_up hW hWs hi dk hD hDn g4 go ga gt (fun u hu => by rw [← et, gd] at hu; cases hu)
              rw [← et] at this
              exact this
          | some u =>
            rw [gd] at lt
            have lt' : s1.1 227 t = nI u := lt
            have hu := bt u gd
            have nu : (nI u < nI 0) = False := n_lt0 (by omega)
            by_cases gl : u ≤ v'
            · refine ⟨(s1, d1), ?_, g1, g2, g3, rxI_no g4 (fun z _ _ h => by rw [gt] at h; cases h; rw [← et]; exact ⟨u, gl, gd⟩)⟩
              simp (disch := first | omega | assumption | (simp only [wL_1, wL_22, wI_2, wA_2, wQ_1, wQ_21] <;> first | assumption | omega)) only [LIT, LITm, nI_add, n_mul, fa_or, n_31m, n_shl0, n_le, n_lt, n_eq, Option.bind_some, n512, B_m hn, B_ma hn, B_mc hn, hT1.1.2.1, op, n_dI, n_rI, ae, lk, w5, tk, ot, eA, et', lt', nv, nu, oV, gl, Bool.toNat_true, Nat.reduceEqDiff, Nat.reduceLeDiff, not_false_eq_true, if_false, show ¬ T 0 1 ≤ i by omega, ↓reduceIte]
            · refine ⟨(wI s1 227 t (nI v'), fun z => if z = t then some v' else d1 z), ?_, g1, fun b hb => by rw [wI_ne hb]; exact g2 b hb, fun j hj => ?_, ?_⟩
              · simp (disch := first | omega | assumption | (simp only [wL_1, wL_22, wI_2, wA_2, wQ_1, wQ_21] <;> first | assumption | omega)) only [LIT, LITm, nI_add, n_mul, fa_or, n_31m, n_shl0, n_le, n_lt, n_eq, Option.bind_some, n512, B_m hn, B_ma hn, B_mc hn, hT1.1.2.1, op, n_dI, n_rI, ae, lk, w5, tk, ot, eA, et', lt', nv, nu, oV, gl, Bool.toNat_true, Nat.reduceEqDiff, Nat.reduceLeDiff, not_false_eq_true, if_false, show ¬ T 0 1 ≤ i by omega, ↓reduceIte]
              · show (wI s1 227 t (nI v')).1 227 j = oV (if j = t then some v' else d1 j) ∧ (wI s1 227 t (nI v')).1 228 j = _
                rw [wI_ne (by omega : (228 : Nat) ≠ 227)]
                refine ⟨?_, (g3 j hj).2⟩
                by_cases e : j = t
                · rw [if_pos e, e, wI_at, upd_at]; rfl
                · rw [if_neg e, wI_at, upd_ne e]; exact (g3 j hj).1
              · have := rxI_up hW hWs hi dk hD hDn g4 go ga gt (fun z hz => by rw [← et, gd] at hz; cases hz; omega)
                rw [← et] at this
                exact this
      · rw [decide_eq_false ga] at ae
        refine ⟨(s1, d1), ?_, g1, g2, g3, rxI_no g4 (fun v' _ h => absurd h ga)⟩
        simp (disch := first | omega | assumption | (simp only [wL_1, wL_22, wI_2, wA_2, wQ_1, wQ_21] <;> first | assumption | omega)) only [LIT, LITm, nI_add, n_mul, fa_or, n_31m, n_shl0, n_le, n_lt, n_eq, Option.bind_some, n512, B_m hn, hT1.1.2.1, op, n_dI, ae, Bool.toNat_true, Bool.toNat_false, Nat.reduceEqDiff, Nat.reduceLeDiff, not_true_eq_false, show ¬ T 0 1 ≤ i by omega, ↓reduceIte]
  · rintro f ⟨s1, d1⟩ ⟨g1, g2, g3, g4⟩
    refine ⟨s1, d1, ?_, g1, g2, g3, g4⟩
    have g2 : ∀ b, b ≠ 227 → s1.1 b = s.1 b := g2
    have hT1 : mTd s1.1 T := mTd_fr hT (fun a j ha => by rw [g2 a (by omega)])
    show fX11_settle_141b n r58 (fX11_settle_141 n r58 f) (mk s1) 187 (nI w) (nI W) (nI c) (nI k) (nI (T 0 1)) = _
    unfold fX11_settle_141b
    simp (disch := first | omega | assumption | (simp only [wL_1, wL_22, wI_2, wA_2, wQ_1, wQ_21] <;> first | assumption | omega)) only [LIT, LITm, nI_add, n_mul, fa_or, n_31m, n_shl0, n_le, n_lt, n_eq, Option.bind_some, B_m hn, hT1.1.2.1, Nat.le_refl, ↓reduceIte]
end Ry
