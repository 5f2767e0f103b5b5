/-! ===== reach, by the reference ===== -/
section Mc
variable {n w a x : Nat} {s : zS} {T : zT} {S : zD} {A : zA} {d : Nat → Option Nat} {y : Int32}
theorem st0 {p u z : Nat} (hp : p < T 0 1) (ho : opnB T S w p = true) (hx : T 3 p = z ∨ T 4 p = z) : stE T S w 0 0 (512 * z) u (512 * othV T p z) (u + T 5 p) := by
  have e1 : 512 * z / 512 = z := Nat.mul_div_cancel_left z (by decide)
  have e2 : 512 * z % 512 = 0 := Nat.mul_mod_right 512 z
  refine ⟨p, hp, ho, by rw [e1]; exact hx, ?_, rfl⟩
  rw [e1, e2, Nat.zero_and]
  rfl
theorem rc0 : ∀ k y v, rcL (stE T S w 0 0) (512 * a) 0 k y v → y % 512 = 0 ∧ cn T (opnB T S w) a (y / 512)
  | 0, y, v, h => by
    rw [h.1]
    refine ⟨Nat.mul_mod_right 512 a, ?_⟩
    rw [Nat.mul_div_cancel_left a (by decide)]
    exact cn_r
  | k + 1, y, v, ⟨z, u, h1, p, hp, ho, hz, hy, _⟩ => by
    obtain ⟨g1, g2⟩ := rc0 k z u h1
    rw [g1, Nat.zero_and, Nat.or_zero] at hy
    have hy' : y = 512 * othV T p (z / 512) := hy
    rw [hy']
    refine ⟨Nat.mul_mod_right 512 _, ?_⟩
    rw [Nat.mul_div_cancel_left _ (by decide)]
    have c := cn_p (T := T) (K := opnB T S w) hp ho
    unfold othV
    by_cases e : T 3 p = z / 512
    · rw [if_pos e]
      rw [← e] at g2
      exact cn_t g2 c
    · rw [if_neg e]
      rcases hz with hz | hz
      · exact absurd hz e
      · rw [← hz] at g2
        exact cn_t g2 (cn_s c)
theorem reach_iff (hd : lsL (stE T S w 0 0) (512 * a) 0 d) : (d (512 * x)).isSome = true ↔ cn T (opnB T S w) a x := by
  constructor
  · intro h
    obtain ⟨v, e⟩ := Option.isSome_iff_exists.mp h
    obtain ⟨k, hk⟩ := hd.1 _ v e
    have := (rc0 k _ v hk).2
    rwa [Nat.mul_div_cancel_left x (by decide)] at this
  · intro h
    have st : ∀ p z, p < T 0 1 → opnB T S w p = true → (T 3 p = z ∨ T 4 p = z) → (d (512 * z)).isSome = true → (d (512 * othV T p z)).isSome = true := by
      intro p z hp ho hz hs
      obtain ⟨v, e⟩ := Option.isSome_iff_exists.mp hs
      obtain ⟨k, hk⟩ := hd.1 _ v e
      obtain ⟨u, -, hu⟩ := hd.2 (k + 1) _ _ ⟨_, v, hk, st0 hp ho hz⟩
      rw [hu]
      rfl
    refine h (fun i => (d (512 * i)).isSome) (fun p hp ho => ?_) ?_
    · show (d (512 * T 3 p)).isSome = (d (512 * T 4 p)).isSome
      have o3 : othV T p (T 3 p) = T 4 p := by unfold othV; rw [if_pos rfl]
      have a3 := st p (T 3 p) hp ho (Or.inl rfl)
      have a4 := st p (T 4 p) hp ho (Or.inr rfl)
      rw [o3] at a3
      have o4 : othV T p (T 4 p) = T 3 p := by
        unfold othV
        by_cases e : T 3 p = T 4 p
        · rw [if_pos e, e]
        · rw [if_neg e]
      rw [o4] at a4
      cases e3 : (d (512 * T 3 p)).isSome with
      | true => exact (a3 e3).symm
      | false =>
        cases e4 : (d (512 * T 4 p)).isSome with
        | false => rfl
        | true => rw [a4 e4] at e3; cases e3
    · obtain ⟨u, -, hu⟩ := hd.2 0 (512 * a) 0 ⟨rfl, rfl⟩
      show (d (512 * a)).isSome = true
      rw [hu]
      rfl
theorem m_reach (hn : 239 ≤ n) (hK : mK s A) (hA : wfA A) : (∀ w, w < aT A 0 2 → ∃ s' : zS, fX11_reach n (mk s) 187 (nI w) = some (nI (spS (aT A) (opnB (aT A) (aS A) w) ((aS A).2.2.1 0 w)), mk s') ∧ frT s s') ∧ (inR y (aT A 0 2) = false → ∃ s' : zS, fX11_reach n (mk s) 187 y = some (m1, mk s') ∧ frT s s') := by
  have hW := hA.1
  have h0 := hW.1
  have ft := m_th s
  have hKt := mK_T hW hK ft
  obtain ⟨sa, ea⟩ : ∃ sa : zS, sa = wI s 187 2 (nI 0) := ⟨_, rfl⟩
  rw [← ea] at hKt ft
  obtain ⟨k1, k2, -⟩ := hKt
  have hP := fun y => m_isWalker hn k1 (x := y)
  refine ⟨fun w hw => ?_, fun h => ?_⟩
  · have hat := (hA.2.1.2.2.1 w hw).1
    obtain ⟨sb, d, eb, zb, ob, lb, hd, bd⟩ := m_settle (W := 0) (c := 0) hn hW k1 k2 hA.2.1 hw (by omega) (by omega)
    rw [if_pos rfl] at hd
    have hTb : mTd sb.1 (aT A) := mTd_fr k1 (fun b j hb => by rw [ob b (by omega) (by omega)])
    refine ⟨sb, ?_, frT_t ft ⟨⟨by rw [zb], fun b j hb => by rw [ob b (fun q => hb (by unfold scM; omega)) (fun q => hb (by unfold scM; omega))], fun b j _ _ _ => by rw [zb]⟩, by rw [zb]⟩⟩
    obtain ⟨F, eF⟩ : ∃ F : Nat → Bool, F = fun i => (d (512 * i)).isSome := ⟨_, rfl⟩
    have n512 : (512 : Int32) = nI 512 := rfl
    have res : spS (aT A) (opnB (aT A) (aS A) w) ((aS A).2.2.1 0 w) = goB F (aT A 0 0) := by
      refine tb_anti (fun i hi => ?_) (fun i hi => ?_)
      · have hc := (spS_cn hW (by omega)).mp hi
        rw [goB_tb, decide_eq_true (cn_P hW hat hc), Bool.true_and, eF]
        exact (reach_iff hd).mpr hc
      · rw [goB_tb, eF] at hi
        have := (Bool.and_eq_true _ _).mp hi
        exact (spS_cn hW (by omega)).mpr ((reach_iff hd).mp this.2)
    have lp : fX11_reach_26 n bi_K (mk sb) 187 (nI 0) (nI 0) = some (nI (goB F (aT A 0 0)), mk sb) := by
      refine lp_up (F := fun f (b : Nat) i => fX11_reach_26 n f (mk sb) 187 (nI b) (nI i)) (N := aT A 0 0) (P := fun i b => b = goB F i) (Q := fun r => r = some (nI (goB F (aT A 0 0)), mk sb)) ?_ ?_ (aT A 0 0) bi_K 0 0 (by omega) (by unfold bi_K; omega) rfl
      · intro f b i hi hP
        left
        have l := lb (512 * i) (by omega)
        refine ⟨b ||| (if F i = true then 2 ^ i else 0), ?_, by rw [hP]; rfl⟩
        show fX11_reach_26b n (fX11_reach_26 n f) (mk sb) 187 (nI b) (nI i) = _
        unfold fX11_reach_26b fX11_reach_55
        cases e : d (512 * i) with
        | none =>
          rw [e] at l
          rw [if_neg (show ¬ F i = true by rw [eF]; simp only [e]; exact fun g => by cases g)]
          simp (disch := first | omega | assumption | (simp only [wL_1, wL_22, wI_2, wA_2, wQ_1, wQ_21] <;> first | assumption | omega)) only [LIT, LITm, nI_add, n_mul, fa_or, n_31m, n_shl0, n_le, n_lt, n_eq, Option.bind_some, n512, B_m hn, B_mc hn, hTb.1.1, l, oV, n_m1lt, Nat.or_zero, if_true, show ¬ aT A 0 0 ≤ i by omega, ↓reduceIte]
        | some v =>
          rw [e] at l
          have hv := (bd _ v e).2
          have nv : (nI v < nI 0) = False := n_lt0 (by omega)
          rw [if_pos (show F i = true by rw [eF]; simp only [e]; rfl)]
          simp (disch := first | omega | assumption | (simp only [wL_1, wL_22, wI_2, wA_2, wQ_1, wQ_21] <;> first | assumption | omega)) only [LIT, LITm, nI_add, n_mul, fa_or, n_31m, n_shl0, n_le, n_lt, n_eq, Option.bind_some, n512, B_m hn, B_mc hn, hTb.1.1, l, oV, nv, if_false, show ¬ aT A 0 0 ≤ i by omega, ↓reduceIte]
      · intro f b hP
        show fX11_reach_26b n (fX11_reach_26 n f) (mk sb) 187 (nI b) (nI (aT A 0 0)) = _
        unfold fX11_reach_26b
        simp (disch := first | omega | assumption | (simp only [wL_1, wL_22, wI_2, wA_2, wQ_1, wQ_21] <;> first | assumption | omega)) only [LIT, LITm, nI_add, n_mul, fa_or, n_31m, n_shl0, n_le, n_lt, n_eq, Option.bind_some, B_m hn, hTb.1.1, hP, Nat.le_refl, ↓reduceIte]
    rw [res]
    unfold fX11_reach
    simp (disch := first | omega | assumption | (simp only [wL_1, wL_22, wI_2, wA_2, wQ_1, wQ_21] <;> first | assumption | omega)) only [LIT, LITm, nI_add, n_mul, fa_or, n_31m, n_shl0, n_le, n_lt, n_eq, Option.bind_some, B_m hn, ← ea, hP, inR_n hw (by omega), eb, lp, Bool.toNat_true, Nat.reduceEqDiff, Nat.reduceLeDiff, not_false_eq_true, ↓reduceIte]
  · refine ⟨sa, ?_, ft⟩
    unfold fX11_reach
    simp (disch := first | omega | assumption | (simp only [wL_1, wL_22, wI_2, wA_2, wQ_1, wQ_21] <;> first | assumption | omega)) only [LIT, LITm, nI_add, n_mul, fa_or, n_31m, n_shl0, n_le, n_lt, n_eq, Option.bind_some, B_m hn, ← ea, hP, h, Bool.toNat_false, not_true_eq_false, ↓reduceIte]
end Mc
