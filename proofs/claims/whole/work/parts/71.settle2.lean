/-! ===== the reference settles all ===== -/
section Sf
variable {n p w c W a v0 : Nat} {s s0 : zS} {T : zT} {S : zD}
def seI (T : zT) (S : zD) (w W c a v0 : Nat) (s0 s : zS) (d : Nat → Option Nat) (D : Nat → Bool) : Prop :=
  s.2 = s0.2 ∧ (∀ b, b ≠ 227 → b ≠ 228 → s.1 b = s0.1 b) ∧ lbS s d D ∧ snL (stE T S w W c) a v0 d ∧ (∃ u, u ≤ v0 ∧ d a = some u) ∧ (∀ j u, d j = some u → j < 3584 ∧ u ≤ v0 + 202 * fb_ct D 3584) ∧ (∀ j, D j = true → j < 3584 ∧ d j ≠ none) ∧ (∀ i j u u', D i = true → d i = some u → D j = false → d j = some u' → u ≤ u') ∧ ∀ k u x v, D k = true → d k = some u → stE T S w W c k u x v → ∃ z, z ≤ v ∧ d x = some z
def seQ (T : zT) (S : zD) (w W c a v0 : Nat) (s0 : zS) (r : Option (Unit × ai_H)) : Prop := ∃ (s' : zS) (d : Nat → Option Nat), r = some ((), mk s') ∧ s'.2 = s0.2 ∧ (∀ b, b ≠ 227 → b ≠ 228 → s'.1 b = s0.1 b) ∧ (∀ j, j < 3584 → s'.1 227 j = oV (d j)) ∧ lsL (stE T S w W c) a v0 d ∧ ∀ j u, d j = some u → j < 3584 ∧ u < 1000000
theorem m_s58 (hn : 239 ≤ n) (hW : WT T) (hT : mTd s0.1 T) (hS : mSd s0 0 T O00 S) (hw : w < T 0 2) (hWs : W < 512) (hc : c ≤ 99) (hv : v0 ≤ 100) : ∀ (m f : Nat) (s : zS) (d : Nat → Option Nat) (D : Nat → Bool), m < f → 3584 ≤ fb_ct D 3584 + m → seI T S w W c a v0 s0 s d D → seQ T S w W c a v0 s0 (fX11_settle_58 n f (mk s) 187 (nI w) (nI W) (nI c)) := by
  intro m
  induction m with
  | zero =>
    intro f s d D hf hm hI
    obtain ⟨f, rfl⟩ : ∃ f', f = f' + 1 := ⟨f - 1, by omega⟩
    obtain ⟨i1, i2, i3, i4, i5, i6, i7, i8, i9⟩ := hI
    have cl := fb_ct_le D 3584
    have all := fb_ct_all.mp (show fb_ct D 3584 = 3584 by omega)
    obtain ⟨o, ho, hN, hK⟩ := m_s64 (r58 := fX11_settle_58 n f) (a := nI w) (b := nI W) (e := nI c) hn i3 (fun j u hj hd => by have := (i6 j u hd).2; omega)
    rcases ho with ⟨e, h⟩ | ⟨k, v, e, h1, h2, h3, -⟩
    · refine ⟨s, d, hN e, i1, i2, fun j hj => (i3 j hj).1, lsL_of (stE_mo hc) i4 i5 (fun y u x v hy hE => i9 y u x v (h y (i6 y u hy).1 (by rw [hy]; exact fun g => by cases g)) hy hE), fun j u hj => ⟨(i6 j u hj).1, by have := (i6 j u hj).2; omega⟩⟩
    · rw [all k h1] at h3
      cases h3
  | succ m ih =>
    intro f s d D hf hm hI
    obtain ⟨f, rfl⟩ : ∃ f', f = f' + 1 := ⟨f - 1, by omega⟩
    obtain ⟨i1, i2, i3, i4, i5, i6, i7, i8, i9⟩ := hI
    have cl := fb_ct_le D 3584
    obtain ⟨o, ho, hN, hK⟩ := m_s64 (r58 := fX11_settle_58 n f) (a := nI w) (b := nI W) (e := nI c) hn i3 (fun j u hj hd => by have := (i6 j u hd).2; omega)
    rcases ho with ⟨e, h⟩ | ⟨k, v, e, h1, h2, h3, h4⟩
    · refine ⟨s, d, hN e, i1, i2, fun j hj => (i3 j hj).1, lsL_of (stE_mo hc) i4 i5 (fun y u x v hy hE => i9 y u x v (h y (i6 y u hy).1 (by rw [hy]; exact fun g => by cases g)) hy hE), fun j u hj => ⟨(i6 j u hj).1, by have := (i6 j u hj).2; omega⟩⟩
    · obtain ⟨sa, ea⟩ : ∃ sa : zS, sa = wI s 228 k (nI 1) := ⟨_, rfl⟩
      obtain ⟨D', eD⟩ : ∃ D' : Nat → Bool, D' = fun j => if j = k then true else D j := ⟨_, rfl⟩
      have Dk : D' k = true := by rw [eD]; simp only [if_true]
      have Dn : ∀ j, j ≠ k → D' j = D j := fun j hj => by rw [eD]; simp only [if_neg hj]
      have cD : fb_ct D' 3584 = fb_ct D 3584 + 1 := by
        have u := fb_ct_upd D true h1
        rw [h3] at u
        rw [eD]
        simp only [if_true, Bool.false_eq_true, if_false] at u
        omega
      have oa : ∀ b, b ≠ 228 → sa.1 b = s.1 b := fun b hb => by rw [ea, wI_ne hb]
      have La : lbS sa d D' := fun j hj => by
        rw [oa 227 (by omega)]
        refine ⟨(i3 j hj).1, ?_⟩
        by_cases q : j = k
        · rw [q, Dk, ea, wI_at, upd_at]; rfl
        · rw [Dn j q, ea, wI_at, upd_ne q]; exact (i3 j hj).2
      have za : sa.2 = s0.2 := by rw [ea]; exact i1
      have hTa : mTd sa.1 T := mTd_fr hT (fun b j hb => by rw [oa b (by omega), i2 b (by omega) (by omega)])
      have hSa : mSd sa 0 T O00 S := mSd_0 (fun b g1 g2 => by rw [oa b (by omega), i2 b (by omega) (by omega)]) (by rw [za]) hS
      have kv := (i6 k v h2).2
      obtain ⟨sb, d', eb, zb, ob, Lb, rx⟩ := m_s141 (r58 := fX11_settle_58 n f) hn hW hTa hSa hw hWs hc La h1 h2 Dk (fun j u hj => by have := (i6 j u hj).2; omega) i4 (fun j u hj hd => by
        by_cases q : j = k
        · rw [q, h2] at hd; cases hd; exact Nat.le_refl _
        · rw [Dn j q] at hj
          exact i8 j k u v hj hd h3 h2) (fun j hj => by
        by_cases q : j = k
        · rw [q, h2]; exact fun g => by cases g
        · rw [Dn j q] at hj
          exact (i7 j hj).2)
      obtain ⟨r1, r2, r3, r4, r5⟩ := rx
      have ez : fX11_settle_58 n (f + 1) (mk s) 187 (nI w) (nI W) (nI c) = fX11_settle_58 n f (mk sb) 187 (nI w) (nI W) (nI c) := by
        rw [← eb, ea]
        exact hK k e
      rw [ez]
      refine ih f sb d' D' (by omega) (by omega) ⟨by rw [zb, za], fun b g1 g2 => by rw [ob b g1, oa b g2]; exact i2 b g1 g2, Lb, r1, ?_, fun j u hj => ?_, fun j hj => ?_, fun i j u u' g1 g2 g3 g4 => ?_, fun y u x z g1 g2 g3 => ?_⟩
      · obtain ⟨u, g1, g2⟩ := i5
        obtain ⟨u', g3, g4⟩ := r3 a u g2
        exact ⟨u', by omega, g4⟩
      · rcases r4 j u hj with g | ⟨g1, -, g2⟩
        · have := i6 j u g
          exact ⟨this.1, by omega⟩
        · exact ⟨g1, by omega⟩
      · by_cases q : j = k
        · rw [q]
          refine ⟨h1, ?_⟩
          rw [r2 k Dk, h2]
          exact fun g => by cases g
        · have hj' := hj
          rw [Dn j q] at hj'
          refine ⟨(i7 j hj').1, ?_⟩
          rw [r2 j hj]
          exact (i7 j hj').2
      · have uv : u ≤ v := by
          rw [r2 i g1] at g2
          by_cases q : i = k
          · rw [q, h2] at g2; cases g2; exact Nat.le_refl _
          · rw [Dn i q] at g1
            exact i8 i k u v g1 g2 h3 h2
        have jk : j ≠ k := fun q => by rw [q, Dk] at g3; cases g3
        rw [Dn j jk] at g3
        rcases r4 j u' g4 with g | ⟨-, g, -⟩
        · have := h4 j u' (i6 j u' g).1 g g3
          omega
        · omega
      · rw [r2 y g1] at g2
        by_cases q : y = k
        · rw [q, h2] at g2
          cases g2
          rw [q] at g3
          obtain ⟨p, b1, b2, b3, b4, b5⟩ := g3
          rw [b4]
          exact r5 p z b1 b2 b3 b5
        · rw [Dn y q] at g1
          obtain ⟨z1, b1, b2⟩ := i9 y u x z g1 g2 g3
          obtain ⟨z2, b3, b4⟩ := r3 x z1 b2
          exact ⟨z2, by omega, b4⟩
theorem m_settle (hn : 239 ≤ n) (hW : WT T) (hT : mTd s.1 T) (hS : mSd s 0 T O00 S) (hD : wD T S) (hw : w < T 0 2) (hWs : W < 512) (hc : c ≤ 99) : seQ T S w W c (512 * S.2.2.1 0 w) (if c = 0 then 0 else 100) s (fX11_settle n (mk s) 187 (nI w) (nI W) (nI c)) := by
  have h0 := hW.1
  have hat := (hD.2.2.1 w hw).1
  have n3 : (3584 : Int32) = nI 3584 := rfl
  have n512 : (512 : Int32) = nI 512 := rfl
  have n100 : (100 : Int32) = nI 100 := rfl
  have aw : s.1 219 w = nI (S.2.2.1 0 w) := by
    have := (hS.2.2 w hw).1
    rwa [Nat.mul_zero, Nat.zero_add] at this
  unfold fX11_settle
  simp (disch := first | omega | assumption | (simp only [wL_1, wL_22, wI_2, wA_2, wQ_1, wQ_21] <;> first | assumption | omega)) only [LIT, LITm, nI_add, n_mul, fa_or, n_31m, n_shl0, n_le, n_lt, n_eq, Option.bind_some, B_m hn]
  refine lp_up (F := fun f (s1 : zS) i => fX11_settle_3 n f (mk s1) 187 (nI w) (nI W) (nI c) (nI i)) (N := 3584) (P := fun i s1 => s1.2 = s.2 ∧ (∀ b, b ≠ 227 → b ≠ 228 → s1.1 b = s.1 b) ∧ ∀ j, j < i → s1.1 227 j = m1 ∧ s1.1 228 j = nI 0) (Q := fun r => seQ T S w W c (512 * S.2.2.1 0 w) (if c = 0 then 0 else 100) s r) ?_ ?_ 3584 bi_K s 0 (by omega) (by unfold bi_K; omega) ⟨rfl, fun _ _ _ => rfl, fun j h => absurd h (Nat.not_lt_zero j)⟩
  · intro f s1 i hi hP
    left
    refine ⟨wI (wI s1 227 i m1) 228 i (nI 0), ?_, hP.1, fun b g1 g2 => by rw [wI_ne g2, wI_ne g1]; exact hP.2.1 b g1 g2, fun j hj => ?_⟩
    · show fX11_settle_3b n (fX11_settle_3 n f) (mk s1) 187 (nI w) (nI W) (nI c) (nI i) = _
      unfold fX11_settle_3b
      rw [n3]
      simp (disch := first | omega | assumption | (simp only [wL_1, wL_22, wI_2, wA_2, wQ_1, wQ_21] <;> first | assumption | omega)) only [LIT, LITm, nI_add, n_mul, fa_or, n_31m, n_shl0, n_le, n_lt, n_eq, Option.bind_some, B_m hn, B_mc hn, nar_b (show 0 ≤ 1 by omega), show ¬ 3584 ≤ i by omega, ↓reduceIte]
    · rw [wI_ne (show (227 : Nat) ≠ 228 by omega), wI_at, wI_at, wI_ne (show (228 : Nat) ≠ 227 by omega)]
      by_cases q : j = i
      · rw [q, upd_at, upd_at]; exact ⟨rfl, rfl⟩
      · rw [upd_ne q, upd_ne q]; exact hP.2.2 j (by omega)
  · intro f s1 hP
    obtain ⟨p1, p2, p3⟩ := hP
    have aw1 : s1.1 219 w = nI (S.2.2.1 0 w) := by rw [p2 219 (by omega) (by omega)]; exact aw
    obtain ⟨v0, ev⟩ : ∃ v0, v0 = if c = 0 then 0 else 100 := ⟨_, rfl⟩
    have hv : v0 ≤ 100 := by rw [ev]; split <;> omega
    rw [← ev]
    obtain ⟨a, ea⟩ : ∃ a, a = 512 * S.2.2.1 0 w := ⟨_, rfl⟩
    rw [← ea]
    have ha : a < 3584 := by omega
    have e : fX11_settle_3 n (f + 1) (mk s1) 187 (nI w) (nI W) (nI c) (nI 3584) = fX11_settle_58 n bi_K (mk (wI s1 227 a (nI v0))) 187 (nI w) (nI W) (nI c) := by
      show fX11_settle_3b n (fX11_settle_3 n f) (mk s1) 187 (nI w) (nI W) (nI c) (nI 3584) = _
      unfold fX11_settle_3b fX11_settle_57
      rw [n3, n512, n100]
      by_cases c0 : c = 0
      · rw [if_pos c0] at ev
        simp (disch := first | omega | assumption | (simp only [wL_1, wL_22, wI_2, wA_2, wQ_1, wQ_21] <;> first | assumption | omega)) only [LIT, LITm, nI_add, n_mul, fa_or, n_31m, n_shl0, n_le, n_lt, n_eq, Option.bind_some, B_m hn, B_mb hn, B_mc hn, aw1, ← ea, ev, c0, not_true_eq_false, Nat.le_refl, ↓reduceIte]
      · rw [if_neg c0] at ev
        simp (disch := first | omega | assumption | (simp only [wL_1, wL_22, wI_2, wA_2, wQ_1, wQ_21] <;> first | assumption | omega)) only [LIT, LITm, nI_add, n_mul, fa_or, n_31m, n_shl0, n_le, n_lt, n_eq, Option.bind_some, B_m hn, B_mb hn, B_mc hn, aw1, ← ea, ev, c0, not_false_eq_true, Nat.le_refl, ↓reduceIte]
    show seQ T S w W c a v0 s (fX11_settle_3 n (f + 1) (mk s1) 187 (nI w) (nI W) (nI c) (nI 3584))
    rw [e]
    refine m_s58 (d := fun j => if j = a then some v0 else none) (D := fun _ => false) hn hW hT hS hw hWs hc hv 3584 bi_K _ (by unfold bi_K; omega) (by omega) ⟨p1, fun b g1 g2 => by rw [wI_ne g1]; exact p2 b g1 g2, fun j hj => ?_, fun x v h => ?_, ⟨v0, Nat.le_refl _, by simp only [if_true]⟩, fun j u h => ?_, fun j h => absurd h Bool.false_ne_true, fun i j u u' h => absurd h Bool.false_ne_true, fun k u x v h => absurd h Bool.false_ne_true⟩
    · rw [wI_ne (show (228 : Nat) ≠ 227 by omega), wI_at]
      refine ⟨?_, (p3 j hj).2⟩
      by_cases q : j = a
      · simp only [if_pos q]
        rw [q, upd_at]
        rfl
      · simp only [if_neg q]
        rw [upd_ne q]
        exact (p3 j hj).1
    · by_cases q : x = a
      · simp only [if_pos q] at h
        cases h
        exact ⟨0, q, rfl⟩
      · simp only [if_neg q] at h
        cases h
    · by_cases q : j = a
      · simp only [if_pos q] at h
        cases h
        exact ⟨by omega, by omega⟩
      · simp only [if_neg q] at h
        cases h
end Sf
