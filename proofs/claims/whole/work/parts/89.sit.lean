/-! ===== where to sit: both sides ===== -/
section St
variable {n t w l d k nn L : Nat} {s : zS} {T : zT} {E : zE} {A : zA} {x y z : Int32} {F : Nat → Bool}
/-- by how many of the first legs he is there -/
def htV (T : zT) (w nn : Nat) (F : Nat → Bool) (i x : Nat) : Nat := fb_ct (fun l => F l && decide (plD T w l nn w = x)) i
theorem ht_le {i x : Nat} : htV T w nn F i x ≤ fb_ct F i := fb_ct_sub (fun l _ h => ((Bool.and_eq_true _ _).mp h).1)
/-- how many are left at worst -/
def wrV (T : zT) (w nn : Nat) (F : Nat → Bool) (x : Nat) : Nat := if htV T w nn F 10 x < fb_ct F 10 - htV T w nn F 10 x then fb_ct F 10 - htV T w nn F 10 x else htV T w nn F 10 x
def bsV (T : zT) (w nn : Nat) (F : Nat → Bool) : Nat → Nat
  | 0 => 0
  | k + 1 => if wrV T w nn F (k + 1) < wrV T w nn F (bsV T w nn F k) then k + 1 else bsV T w nn F k
theorem bs_le : ∀ k, bsV T w nn F k ≤ k
  | 0 => Nat.le_refl _
  | k + 1 => by
    have := bs_le k
    unfold bsV
    split <;> omega
theorem ws_le {x : Nat} : wrV T w nn F x ≤ 10 := by
  have h1 := fb_ct_le F 10
  have h2 := ht_le (T := T) (w := w) (nn := nn) (F := F) (i := 10) (x := x)
  unfold wrV
  split <;> omega
def sitV (T : zT) (w nn : Nat) (F : Nat → Bool) (b : Bool) : Int32 := if b = true then nI (wrV T w nn F (bsV T w nn F (T 0 0 - 1))) else nI (bsV T w nn F (T 0 0 - 1))
theorem c_fill76 (hn : 239 ≤ n) : ∃ s' : zS, fJ7_fill_53178 n (mk s) 76 (nI 0) = some ((), mk s') ∧ (∀ a, a ≠ 76 → s'.1 a = s.1 a) ∧ s'.2 = s.2 ∧ ∀ j, j < 7 → s'.1 76 j = nI 0 := by
  unfold fJ7_fill_53178
  simp (disch := first | omega | assumption | (simp only [wL_1, wL_22, wI_2, wA_2, wQ_1, wQ_21] <;> first | assumption | omega)) only [LIT, LITm, nI_add, n_mul, fa_or, n_31m, n_shl0, n_le, n_lt, n_eq, Option.bind_some, B_sn hn]
  refine lp_up (F := fun k (s1 : zS) i => fJ7_fill_53178_5 n k (mk s1) 76 (nI 0) (nI i) (nI 7)) (N := 7) (P := fun i s1 => (∀ a, a ≠ 76 → s1.1 a = s.1 a) ∧ s1.2 = s.2 ∧ ∀ w, w < i → s1.1 76 w = nI 0) (Q := fun r => ∃ s' : zS, r = some ((), mk s') ∧ (∀ a, a ≠ 76 → s'.1 a = s.1 a) ∧ s'.2 = s.2 ∧ ∀ w, w < 7 → s'.1 76 w = nI 0) ?_ ?_ 7 bi_K s 0 (by omega) (by unfold bi_K; omega) ⟨fun _ _ => rfl, rfl, fun w h => by omega⟩
  · intro k s1 i hi hP
    left
    refine ⟨wI s1 76 i (nI 0), ?_, fun a ha => by rw [wI_ne ha]; exact hP.1 a ha, hP.2.1, fun w hw => ?_⟩
    · show fJ7_fill_53178_5b n (fJ7_fill_53178_5 n k) (mk s1) 76 (nI 0) (nI i) (nI 7) = _
      unfold fJ7_fill_53178_5b
      simp (disch := first | omega | assumption | (simp only [wL_1, wL_22, wI_2, wA_2, wQ_1, wQ_21] <;> first | assumption | omega)) only [LIT, LITm, nI_add, n_mul, fa_or, n_31m, n_shl0, n_le, n_lt, n_eq, Option.bind_some, B_sn hn, show ¬ 7 ≤ i by omega, ↓reduceIte]
    · by_cases e : w = i
      · rw [e, wI_at, upd_at]
      · rw [wI_at, upd_ne e]
        exact hP.2.2 w (by omega)
  · intro k s1 hP
    refine ⟨s1, ?_, hP⟩
    show fJ7_fill_53178_5b n (fJ7_fill_53178_5 n k) (mk s1) 76 (nI 0) (nI 7) (nI 7) = _
    unfold fJ7_fill_53178_5b
    simp (disch := first | omega | assumption | (simp only [wL_1, wL_22, wI_2, wA_2, wQ_1, wQ_21] <;> first | assumption | omega)) only [LIT, LITm, nI_add, n_mul, fa_or, n_31m, n_shl0, n_le, n_lt, n_eq, Option.bind_some, Nat.le_refl, ↓reduceIte]
theorem c_worst {h : ai_H} {p q : Nat} (hp : p ≤ q) (hq : q ≤ 10) : fX10_leftAtWorst n h (nI p) (nI q) = some (nI (if p < q - p then q - p else p), h) := by
  unfold fX10_leftAtWorst
  rw [n_sub hp]
  by_cases g : p < q - p
  · rw [if_pos g, if_pos (show nI p < nI (q - p) by rw [n_lt (by omega) (by omega)]; exact g)]
  · rw [if_neg g, if_neg (show ¬ nI p < nI (q - p) by rw [n_lt (by omega) (by omega)]; exact g)]
theorem c_sit111 {b : Bool} (hn : 239 ≤ n) (hK : cK s t A) (hA : wfA A) (h1 : 1 ≤ aT A 0 0) (hH : ∀ j, j < 7 → s.1 76 j = nI (htV (aT A) w nn F 10 j)) : fX10_sit_111 n bi_K (mk s) 1 (nI b.toNat) 76 (nI (fb_ct F 10)) (nI 0) (nI 1) = some (sitV (aT A) w nn F b, mk s) := by
  have ht := cK_t hK
  have h0 := hA.1.1
  have k2 := hK.2.1
  have c0 : s.1 (t + 1) 4 = nI (aT A 0 0) := (CTp t (aT A)).1 s hK.2.2.1
  have lw : ∀ j, htV (aT A) w nn F 10 j ≤ fb_ct F 10 := fun j => ht_le
  have l10 := fb_ct_le F 10
  refine lp_up (F := fun f (_ : Unit) i => fX10_sit_111 n f (mk s) 1 (nI b.toNat) 76 (nI (fb_ct F 10)) (nI (bsV (aT A) w nn F i)) (nI (i + 1))) (N := aT A 0 0 - 1) (P := fun _ _ => True) (Q := fun r => r = some (sitV (aT A) w nn F b, mk s)) ?_ ?_ (aT A 0 0 - 1) bi_K () 0 (by omega) (by unfold bi_K; omega) trivial
  · intro f _ i hi _
    left
    refine ⟨(), ?_, trivial⟩
    have bl := bs_le (T := aT A) (w := w) (nn := nn) (F := F) i
    have e1 := hH (i + 1) (by omega)
    have e2 := hH (bsV (aT A) w nn F i) (by omega)
    have w1 := c_worst (n := n) (h := mk s) (lw (i + 1)) l10
    have w2 := c_worst (n := n) (h := mk s) (lw (bsV (aT A) w nn F i)) l10
    have l1 := ws_le (T := aT A) (w := w) (nn := nn) (F := F) (x := i + 1)
    have l2 := ws_le (T := aT A) (w := w) (nn := nn) (F := F) (x := bsV (aT A) w nn F i)
    have w1' : fX10_leftAtWorst n (mk s) (nI (htV (aT A) w nn F 10 (i + 1))) (nI (fb_ct F 10)) = some (nI (wrV (aT A) w nn F (i + 1)), mk s) := w1
    have w2' : fX10_leftAtWorst n (mk s) (nI (htV (aT A) w nn F 10 (bsV (aT A) w nn F i))) (nI (fb_ct F 10)) = some (nI (wrV (aT A) w nn F (bsV (aT A) w nn F i)), mk s) := w2
    show fX10_sit_111b n (fX10_sit_111 n f) (mk s) 1 (nI b.toNat) 76 (nI (fb_ct F 10)) (nI (bsV (aT A) w nn F i)) (nI (i + 1)) = fX10_sit_111 n f (mk s) 1 (nI b.toNat) 76 (nI (fb_ct F 10)) (nI (bsV (aT A) w nn F (i + 1))) (nI (i + 1 + 1))
    unfold fX10_sit_111b fX10_sit_153
    have un : bsV (aT A) w nn F (i + 1) = if wrV (aT A) w nn F (i + 1) < wrV (aT A) w nn F (bsV (aT A) w nn F i) then i + 1 else bsV (aT A) w nn F i := rfl
    rw [un]
    by_cases q : wrV (aT A) w nn F (i + 1) < wrV (aT A) w nn F (bsV (aT A) w nn F i)
    · rw [if_pos q]
      simp (disch := first | omega | assumption | (simp only [wL_1, wL_22, wI_2, wA_2, wQ_1, wQ_21] <;> first | assumption | omega)) only [LIT, LITm, nI_add, n_mul, fa_or, n_31m, n_shl0, n_le, n_lt, n_eq, Option.bind_some, B_K hn, B_t hn ht, B_sn hn, k2, c0, e1, e2, w1', w2', show ¬ wrV (aT A) w nn F (bsV (aT A) w nn F i) ≤ wrV (aT A) w nn F (i + 1) by omega, show ¬ aT A 0 0 ≤ i + 1 by omega, ↓reduceIte]
    · rw [if_neg q]
      simp (disch := first | omega | assumption | (simp only [wL_1, wL_22, wI_2, wA_2, wQ_1, wQ_21] <;> first | assumption | omega)) only [LIT, LITm, nI_add, n_mul, fa_or, n_31m, n_shl0, n_le, n_lt, n_eq, Option.bind_some, B_K hn, B_t hn ht, B_sn hn, k2, c0, e1, e2, w1', w2', show wrV (aT A) w nn F (bsV (aT A) w nn F i) ≤ wrV (aT A) w nn F (i + 1) by omega, show ¬ aT A 0 0 ≤ i + 1 by omega, ↓reduceIte]
  · intro f _ _
    have bl := bs_le (T := aT A) (w := w) (nn := nn) (F := F) (aT A 0 0 - 1)
    have e2 := hH (bsV (aT A) w nn F (aT A 0 0 - 1)) (by omega)
    have w2 := c_worst (n := n) (h := mk s) (lw (bsV (aT A) w nn F (aT A 0 0 - 1))) l10
    have w2' : fX10_leftAtWorst n (mk s) (nI (htV (aT A) w nn F 10 (bsV (aT A) w nn F (aT A 0 0 - 1)))) (nI (fb_ct F 10)) = some (nI (wrV (aT A) w nn F (bsV (aT A) w nn F (aT A 0 0 - 1))), mk s) := w2
    show fX10_sit_111b n (fX10_sit_111 n f) (mk s) 1 (nI b.toNat) 76 (nI (fb_ct F 10)) (nI (bsV (aT A) w nn F (aT A 0 0 - 1))) (nI (aT A 0 0 - 1 + 1)) = _
    unfold fX10_sit_111b sitV
    rw [show aT A 0 0 - 1 + 1 = aT A 0 0 by omega]
    cases b with
    | false => simp (disch := first | omega | assumption | (simp only [wL_1, wL_22, wI_2, wA_2, wQ_1, wQ_21] <;> first | assumption | omega)) only [LIT, LITm, nI_add, n_mul, fa_or, n_31m, n_shl0, n_le, n_lt, n_eq, Option.bind_some, B_K hn, B_t hn ht, B_sn hn, k2, c0, Nat.le_refl, Bool.toNat_false, not_true_eq_false, Bool.false_eq_true, if_false, ↓reduceIte]
    | true => simp (disch := first | omega | assumption | (simp only [wL_1, wL_22, wI_2, wA_2, wQ_1, wQ_21] <;> first | assumption | omega)) only [LIT, LITm, nI_add, n_mul, fa_or, n_31m, n_shl0, n_le, n_lt, n_eq, Option.bind_some, B_K hn, B_t hn ht, B_sn hn, k2, c0, e2, w2', Nat.le_refl, Bool.toNat_true, Nat.reduceEqDiff, Nat.reduceLeDiff, not_false_eq_true, if_true, ↓reduceIte]
def sitOk (T : zT) (x y z : Int32) : Prop := inR x (T 0 2) = true ∧ wiV 1 y 60 = true ∧ wiV 0 z 1 = true
theorem ht_s {i x : Nat} : htV T w nn F (i + 1) x = htV T w nn F i x + (if F i = true ∧ plD T w i nn w = x then 1 else 0) := by
  unfold htV
  rw [fb_ct_succ]
  congr 1
  cases F i <;> by_cases q : plD T w i nn w = x <;> simp [q]
theorem c_sit (hn : 239 ≤ n) (hK : cK s t A) (hA : wfA A) : (∀ w nn (b : Bool) F, w < aT A 0 2 → 1 ≤ nn → nn ≤ 60 → (∀ l, l < 10 → (F l = true ↔ fitP (aT A) (aE A) w l)) → ∃ s' : zS, fX10_sit n (mk s) 1 (nI w) (nI nn) (nI b.toNat) = some (sitV (aT A) w nn F b, mk s') ∧ frS s s') ∧ (¬ sitOk (aT A) x y z → fX10_sit n (mk s) 1 x y z = some (m1, mk s)) := by
  have hW := hA.1
  have h0 := hW.1
  have hP := fun x => c_isWalker hn hK hA (x := x)
  have n60 : (60 : Int32) = nI 60 := rfl
  refine ⟨fun w nn b F hw h1 h60 hF => ?_, fun h => ?_⟩
  · obtain ⟨sa, L, ea, fa, ca, la, hL⟩ := c_sift hn hK.2.2.2.2.2.2.2.2 hA.2.2.2.2.2
    have fas := frG_S fa
    obtain ⟨sb, eb, ob, zb, hb⟩ := c_fill76 (s := sa) hn
    have fbs : frS sa sb := ⟨fun a j ha => by rw [ob a (fun q => ha (by unfold scr; omega))], fun a _ => by rw [zb], fun a _ => by rw [zb]⟩
    have hw9 := (hW.2.2.2.1 w hw).1
    have bb : b.toNat ≤ 1 := Bool.toNat_le b
    unfold fX10_sit
    rw [n60]
    simp (disch := first | omega | assumption | (simp only [wL_1, wL_22, wI_2, wA_2, wQ_1, wQ_21] <;> first | assumption | omega)) only [LIT, LITm, nI_add, n_mul, fa_or, n_31m, n_shl0, n_le, n_lt, n_eq, Option.bind_some, B_K hn, B_sn hn, hP, inR_n hw (by omega), c_within, wiV_n, ea, eb, Bool.toNat_true, Nat.reduceEqDiff, Nat.reduceLeDiff, not_false_eq_true, ↓reduceIte]
    refine lp_up (F := fun f (s1 : zS) i => fX10_sit_57 n f (mk s1) 1 (nI w) (nI nn) (nI b.toNat) 76 (nI (fb_ct F i)) (nI i)) (N := 10) (P := fun i s1 => (∀ a j, ¬ ((57 ≤ a ∧ a ≤ 61) ∨ a = 68 ∨ a = 69 ∨ a = 76) → s1.1 a j = sb.1 a j) ∧ (∀ a, a ≠ 68 → s1.2.2 a = sb.2.2 a) ∧ (∀ a, 187 ≤ a ∨ a = 5 ∨ a = 85 → s1.2.1 a = sb.2.1 a) ∧ ∀ j, j < 7 → s1.1 76 j = nI (htV (aT A) w nn F i j)) (Q := fun r => ∃ s' : zS, r = some (sitV (aT A) w nn F b, mk s') ∧ frS s s') ?_ ?_ 10 bi_K sb 0 (by omega) (by unfold bi_K; omega) ⟨fun _ _ _ => rfl, fun _ _ => rfl, fun _ _ => rfl, hb⟩
    · rintro f s1 i hi ⟨g1, g2, g3, g4⟩
      left
      have gs : frS s s1 := frS_t fas (frS_t fbs ⟨fun a j ha => g1 a j (fun q => ha (by unfold scr; omega)), g2, g3⟩)
      have hK1 := cK_S hK gs
      obtain ⟨s2, bb2, hb2, e2, f2⟩ := c_placeIf (l := i) (nn := nn) hn hK1 hA (fun j hj => by rw [g1 75 j (by omega), ob 75 (by omega)]; exact ca j hj) (by rw [g1 70 7 (by omega), ob 70 (by omega)]; exact la) hL hw (by omega) h60
      have bF' : F i = bb2 := by
        cases bb2 with
        | true => exact (hF i hi).mpr (hb2.mp rfl)
        | false => exact bF (fun q => by have := hb2.mpr ((hF i hi).mp q); cases this)
      have pl7 := Nat.lt_of_lt_of_le (plD_lt (w := w) (l := i) (d := nn) hW hw) h0.1
      have ctl := fb_ct_le F i
      obtain ⟨pz, epz⟩ : ∃ pz, pz = plD (aT A) w i nn w := ⟨_, rfl⟩
      rw [← epz] at e2 pl7
      have nlt : (nI pz < nI 0) = False := n_lt0 (by omega)
      show ∃ s', fX10_sit_57b n (fX10_sit_57 n f) (mk s1) 1 (nI w) (nI nn) (nI b.toNat) 76 (nI (fb_ct F i)) (nI i) = _ ∧ _
      unfold fX10_sit_57b fX10_sit_99
      rw [fb_ct_succ, bF']
      have g76 : ∀ j, j < 7 → s2.1 76 j = nI (htV (aT A) w nn F i j) := fun j hj => by rw [f2.1 76 j (by omega)]; exact g4 j hj
      cases bb2 with
      | false =>
        simp only [Bool.false_eq_true, if_false] at e2
        refine ⟨s2, ?_, fun a j ha => by rw [f2.1 a j (by omega)]; exact g1 a j ha, fun a ha => by rw [f2.2.1 a ha]; exact g2 a ha, fun a ha => by rw [f2.2.2 a ha]; exact g3 a ha, fun j hj => ?_⟩
        · simp (disch := first | omega | assumption | (simp only [wL_1, wL_22, wI_2, wA_2, wQ_1, wQ_21] <;> first | assumption | omega)) only [LIT, LITm, nI_add, n_mul, fa_or, n_31m, n_shl0, n_le, n_lt, n_eq, Option.bind_some, e2, n_m1lt, Bool.false_eq_true, Nat.add_zero, if_false, if_true, show ¬ 9 < i by omega, ↓reduceIte]
        · rw [g76 j hj, ht_s, bF', if_neg (fun q => by cases q.1), Nat.add_zero]
      | true =>
        simp only [if_true] at e2
        have e76 := g76 pz pl7
        have hl10 : htV (aT A) w nn F i pz ≤ 10 := Nat.le_trans ht_le (by omega)
        refine ⟨wI s2 76 pz (nI (htV (aT A) w nn F i pz + 1)), ?_, fun a j ha => by rw [wI_ne (by omega), f2.1 a j (by omega)]; exact g1 a j ha, fun a ha => by show s2.2.2 a = _; rw [f2.2.1 a ha]; exact g2 a ha, fun a ha => by show s2.2.1 a = _; rw [f2.2.2 a ha]; exact g3 a ha, fun j hj => ?_⟩
        · simp (disch := first | omega | assumption | (simp only [wL_1, wL_22, wI_2, wA_2, wQ_1, wQ_21] <;> first | assumption | omega)) only [LIT, LITm, nI_add, n_mul, fa_or, n_31m, n_shl0, n_le, n_lt, n_eq, Option.bind_some, B_sn hn, e2, e76, nlt, if_true, if_false, show ¬ 7 ≤ pz by omega, show ¬ 9 < i by omega, ↓reduceIte]
        · rw [ht_s, bF', ← epz, wI_at]
          by_cases q : j = pz
          · rw [q, upd_at, if_pos ⟨rfl, rfl⟩]
          · rw [upd_ne q, g76 j hj, if_neg (fun r => q r.2.symm), Nat.add_zero]
    · rintro f s1 ⟨g1, g2, g3, g4⟩
      have gs : frS s s1 := frS_t fas (frS_t fbs ⟨fun a j ha => g1 a j (fun q => ha (by unfold scr; omega)), g2, g3⟩)
      have e := c_sit111 (b := b) hn (cK_S hK gs) hA (by omega) g4
      refine ⟨s1, ?_, gs⟩
      show fX10_sit_57b n (fX10_sit_57 n f) (mk s1) 1 (nI w) (nI nn) (nI b.toNat) 76 (nI (fb_ct F 10)) (nI 10) = _
      unfold fX10_sit_57b
      simp (disch := first | omega | assumption | (simp only [wL_1, wL_22, wI_2, wA_2, wQ_1, wQ_21] <;> first | assumption | omega)) only [LIT, LITm, nI_add, n_mul, fa_or, n_31m, n_shl0, n_le, n_lt, n_eq, Option.bind_some, show 9 < 10 by omega, ↓reduceIte]
      exact e
  · unfold fX10_sit
    rw [n60]
    cases g : inR x (aT A 0 2) with
    | false => simp (disch := first | omega | assumption | (simp only [wL_1, wL_22, wI_2, wA_2, wQ_1, wQ_21] <;> first | assumption | omega)) only [LIT, LITm, nI_add, n_mul, fa_or, n_31m, n_shl0, n_le, n_lt, n_eq, Option.bind_some, B_K hn, hP, g, Bool.toNat_false, ↓reduceIte]
    | true =>
      cases g1 : wiV 1 y 60 with
      | false => simp (disch := first | omega | assumption | (simp only [wL_1, wL_22, wI_2, wA_2, wQ_1, wQ_21] <;> first | assumption | omega)) only [LIT, LITm, nI_add, n_mul, fa_or, n_31m, n_shl0, n_le, n_lt, n_eq, Option.bind_some, B_K hn, hP, g, c_within, g1, Bool.toNat_true, Bool.toNat_false, Nat.reduceEqDiff, Nat.reduceLeDiff, ↓reduceIte]
      | true =>
        have g2 : wiV 0 z 1 = false := bF (fun q => h ⟨g, g1, q⟩)
        simp (disch := first | omega | assumption | (simp only [wL_1, wL_22, wI_2, wA_2, wQ_1, wQ_21] <;> first | assumption | omega)) only [LIT, LITm, nI_add, n_mul, fa_or, n_31m, n_shl0, n_le, n_lt, n_eq, Option.bind_some, B_K hn, hP, g, c_within, g1, g2, Bool.toNat_true, Bool.toNat_false, Nat.reduceEqDiff, Nat.reduceLeDiff, not_true_eq_false, ↓reduceIte]
/-! the reference -/
theorem m_many11 {h : ai_H} : fX11_manyOf n h (nI (goB F 10)) = some (nI (fb_ct F 10), h) := by
  have hk : goB F 10 < 1024 := goB_lt F 10
  unfold fX11_manyOf
  simp only [LIT]
  refine lp_up (F := fun f (_ : Unit) i => fX11_manyOf_4 n f h (nI (goB F 10)) (nI (fb_ct F i)) (nI i)) (N := 10) (P := fun _ _ => True) (Q := fun r => r = some (nI (fb_ct F 10), h)) ?_ ?_ 10 bi_K () 0 (by omega) (by unfold bi_K; omega) trivial
  · intro f _ i hi _
    left
    refine ⟨(), ?_, trivial⟩
    show fX11_manyOf_4b n (fX11_manyOf_4 n f) h (nI (goB F 10)) (nI (fb_ct F i)) (nI i) = fX11_manyOf_4 n f h (nI (goB F 10)) (nI (fb_ct F (i + 1))) (nI (i + 1))
    have tb : (goB F 10).testBit i = F i := by rw [goB_tb, decide_eq_true hi, Bool.true_and]
    unfold fX11_manyOf_4b
    rw [fb_ct_succ]
    cases e : F i <;> simp (disch := first | omega | assumption | (simp only [wL_1, wL_22, wI_2, wA_2, wQ_1, wQ_21] <;> first | assumption | omega)) only [LIT, LITm, nI_add, n_mul, fa_or, n_31m, n_shl0, n_le, n_lt, n_eq, Option.bind_some, n_bitv, tb, e, Bool.toNat_true, Bool.toNat_false, Bool.false_eq_true, if_true, if_false, show ¬ 10 ≤ i by omega, ↓reduceIte]
  · intro f _ _
    show fX11_manyOf_4b n (fX11_manyOf_4 n f) h (nI (goB F 10)) (nI (fb_ct F 10)) (nI 10) = _
    unfold fX11_manyOf_4b
    simp (disch := first | omega | assumption | (simp only [wL_1, wL_22, wI_2, wA_2, wQ_1, wQ_21] <;> first | assumption | omega)) only [LIT, LITm, nI_add, n_mul, fa_or, n_31m, n_shl0, n_le, n_lt, n_eq, Option.bind_some, Nat.le_refl, ↓reduceIte]
theorem m_isOf11 {h : ai_H} {i : Nat} (hi : i < 10) : fX11_isOf n h (nI (goB F 10)) (nI i) = some (nI (F i).toNat, h) := by
  have hk : goB F 10 < 1024 := goB_lt F 10
  have tb : (goB F 10).testBit i = F i := by rw [goB_tb, decide_eq_true hi, Bool.true_and]
  unfold fX11_isOf
  cases e : F i <;> simp (disch := first | omega | assumption | (simp only [wL_1, wL_22, wI_2, wA_2, wQ_1, wQ_21] <;> first | assumption | omega)) only [LIT, LITm, nI_add, n_mul, fa_or, n_31m, n_shl0, n_le, n_lt, n_eq, Option.bind_some, n_bitv, tb, e, Bool.toNat_true, Bool.toNat_false, Nat.reduceEqDiff, Nat.reduceLeDiff, not_true_eq_false, not_false_eq_true, ↓reduceIte]
theorem m_sit136 {b : Bool} (hn : 239 ≤ n) (hW : WT T) (hT : mTd s.1 T) (h1 : 1 ≤ T 0 0) (hH : ∀ j, j < 7 → s.1 235 j = nI (htV T w nn F 10 j)) : fX11_sit_136 n bi_K (mk s) 187 (nI b.toNat) (nI (goB F 10)) m1 (nI 0) (nI 0) = some (sitV T w nn F b, mk s) := by
  have h0 := hW.1
  have lw : ∀ j, htV T w nn F 10 j ≤ fb_ct F 10 := fun j => ht_le
  have l10 := fb_ct_le F 10
  have st : ∀ f i (v5 v6 : Int32), i < T 0 0 → fX11_sit_136 n (f + 1) (mk s) 187 (nI b.toNat) (nI (goB F 10)) v5 v6 (nI i) = if v5 < nI 0 ∨ nI (wrV T w nn F i) < v6 then fX11_sit_136 n f (mk s) 187 (nI b.toNat) (nI (goB F 10)) (nI i) (nI (wrV T w nn F i)) (nI (i + 1)) else fX11_sit_136 n f (mk s) 187 (nI b.toNat) (nI (goB F 10)) v5 v6 (nI (i + 1)) := by
    intro f i v5 v6 hi
    have e1 := hH i (by omega)
    have li := lw i
    show fX11_sit_136b n (fX11_sit_136 n f) (mk s) 187 (nI b.toNat) (nI (goB F 10)) v5 v6 (nI i) = _
    unfold fX11_sit_136b fX11_sit_184 fX11_sit_201 fX11_sit_209 wrV
    by_cases q : htV T w nn F 10 i < fb_ct F 10 - htV T w nn F 10 i
    · rw [if_pos q]
      by_cases a1 : v5 < nI 0
      · simp (disch := first | omega | assumption | (simp only [wL_1, wL_22, wI_2, wA_2, wQ_1, wQ_21] <;> first | assumption | omega)) only [LIT, LITm, nI_add, n_mul, fa_or, n_31m, n_shl0, n_le, n_lt, n_eq, Option.bind_some, B_m hn, B_mc hn, hT.1.1, m_many11, e1, n_sub, a1, show htV T w nn F 10 i ≤ fb_ct F 10 - htV T w nn F 10 i by omega, show ¬ T 0 0 ≤ i by omega, true_or, ↓reduceIte]
      · by_cases a2 : nI (fb_ct F 10 - htV T w nn F 10 i) < v6
        · simp (disch := first | omega | assumption | (simp only [wL_1, wL_22, wI_2, wA_2, wQ_1, wQ_21] <;> first | assumption | omega)) only [LIT, LITm, nI_add, n_mul, fa_or, n_31m, n_shl0, n_le, n_lt, n_eq, Option.bind_some, B_m hn, B_mc hn, hT.1.1, m_many11, e1, n_sub, a1, a2, show htV T w nn F 10 i ≤ fb_ct F 10 - htV T w nn F 10 i by omega, show ¬ T 0 0 ≤ i by omega, or_true, ↓reduceIte]
        · simp (disch := first | omega | assumption | (simp only [wL_1, wL_22, wI_2, wA_2, wQ_1, wQ_21] <;> first | assumption | omega)) only [LIT, LITm, nI_add, n_mul, fa_or, n_31m, n_shl0, n_le, n_lt, n_eq, Option.bind_some, B_m hn, B_mc hn, hT.1.1, m_many11, e1, n_sub, a1, a2, show htV T w nn F 10 i ≤ fb_ct F 10 - htV T w nn F 10 i by omega, show ¬ T 0 0 ≤ i by omega, or_self, ↓reduceIte]
    · rw [if_neg q]
      have eq2 : htV T w nn F 10 i ≤ fb_ct F 10 - htV T w nn F 10 i → fb_ct F 10 - htV T w nn F 10 i = htV T w nn F 10 i := fun h => by omega
      by_cases r : htV T w nn F 10 i ≤ fb_ct F 10 - htV T w nn F 10 i
      · have r2 := eq2 r
        by_cases a1 : v5 < nI 0
        · simp (disch := first | omega | assumption | (simp only [wL_1, wL_22, wI_2, wA_2, wQ_1, wQ_21] <;> first | assumption | omega)) only [LIT, LITm, nI_add, n_mul, fa_or, n_31m, n_shl0, n_le, n_lt, n_eq, Option.bind_some, B_m hn, B_mc hn, hT.1.1, m_many11, e1, n_sub, r2, Nat.le_refl, a1, show ¬ T 0 0 ≤ i by omega, true_or, ↓reduceIte]
        · by_cases a2 : nI (htV T w nn F 10 i) < v6
          · simp (disch := first | omega | assumption | (simp only [wL_1, wL_22, wI_2, wA_2, wQ_1, wQ_21] <;> first | assumption | omega)) only [LIT, LITm, nI_add, n_mul, fa_or, n_31m, n_shl0, n_le, n_lt, n_eq, Option.bind_some, B_m hn, B_mc hn, hT.1.1, m_many11, e1, n_sub, r2, Nat.le_refl, a1, a2, show ¬ T 0 0 ≤ i by omega, or_true, ↓reduceIte]
          · simp (disch := first | omega | assumption | (simp only [wL_1, wL_22, wI_2, wA_2, wQ_1, wQ_21] <;> first | assumption | omega)) only [LIT, LITm, nI_add, n_mul, fa_or, n_31m, n_shl0, n_le, n_lt, n_eq, Option.bind_some, B_m hn, B_mc hn, hT.1.1, m_many11, e1, n_sub, r2, Nat.le_refl, a1, a2, show ¬ T 0 0 ≤ i by omega, or_self, ↓reduceIte]
      · by_cases a1 : v5 < nI 0
        · simp (disch := first | omega | assumption | (simp only [wL_1, wL_22, wI_2, wA_2, wQ_1, wQ_21] <;> first | assumption | omega)) only [LIT, LITm, nI_add, n_mul, fa_or, n_31m, n_shl0, n_le, n_lt, n_eq, Option.bind_some, B_m hn, B_mc hn, hT.1.1, m_many11, e1, n_sub, r, a1, show ¬ T 0 0 ≤ i by omega, true_or, ↓reduceIte]
        · by_cases a2 : nI (htV T w nn F 10 i) < v6
          · simp (disch := first | omega | assumption | (simp only [wL_1, wL_22, wI_2, wA_2, wQ_1, wQ_21] <;> first | assumption | omega)) only [LIT, LITm, nI_add, n_mul, fa_or, n_31m, n_shl0, n_le, n_lt, n_eq, Option.bind_some, B_m hn, B_mc hn, hT.1.1, m_many11, e1, n_sub, r, a1, a2, show ¬ T 0 0 ≤ i by omega, or_true, ↓reduceIte]
          · simp (disch := first | omega | assumption | (simp only [wL_1, wL_22, wI_2, wA_2, wQ_1, wQ_21] <;> first | assumption | omega)) only [LIT, LITm, nI_add, n_mul, fa_or, n_31m, n_shl0, n_le, n_lt, n_eq, Option.bind_some, B_m hn, B_mc hn, hT.1.1, m_many11, e1, n_sub, r, a1, a2, show ¬ T 0 0 ≤ i by omega, or_self, ↓reduceIte]
  obtain ⟨kf, hkf⟩ : ∃ kf, bi_K = kf + 1 := ⟨bi_K - 1, by unfold bi_K; omega⟩
  have kf8 : 8 < kf := by unfold bi_K at hkf; omega
  have s0 := st kf 0 m1 (nI 0) (by omega)
  rw [if_pos (Or.inl (by decide))] at s0
  rw [hkf, s0]
  refine lp_up (F := fun f (_ : Unit) i => fX11_sit_136 n f (mk s) 187 (nI b.toNat) (nI (goB F 10)) (nI (bsV T w nn F i)) (nI (wrV T w nn F (bsV T w nn F i))) (nI (i + 1))) (N := T 0 0 - 1) (P := fun _ _ => True) (Q := fun r => r = some (sitV T w nn F b, mk s)) ?_ ?_ (T 0 0 - 1) kf () 0 (by omega) (by omega) trivial
  · intro f _ i hi _
    left
    refine ⟨(), ?_, trivial⟩
    have bl := bs_le (T := T) (w := w) (nn := nn) (F := F) i
    have l1 := ws_le (T := T) (w := w) (nn := nn) (F := F) (x := i + 1)
    have l2 := ws_le (T := T) (w := w) (nn := nn) (F := F) (x := bsV T w nn F i)
    have un : bsV T w nn F (i + 1) = if wrV T w nn F (i + 1) < wrV T w nn F (bsV T w nn F i) then i + 1 else bsV T w nn F i := rfl
    have s1 := st f (i + 1) (nI (bsV T w nn F i)) (nI (wrV T w nn F (bsV T w nn F i))) (by omega)
    have c1 : (nI (bsV T w nn F i) < nI 0 ∨ nI (wrV T w nn F (i + 1)) < nI (wrV T w nn F (bsV T w nn F i))) = (wrV T w nn F (i + 1) < wrV T w nn F (bsV T w nn F i)) := by rw [n_lt0 (by omega), n_lt (by omega) (by omega), false_or]
    show fX11_sit_136 n (f + 1) (mk s) 187 (nI b.toNat) (nI (goB F 10)) (nI (bsV T w nn F i)) (nI (wrV T w nn F (bsV T w nn F i))) (nI (i + 1)) = fX11_sit_136 n f (mk s) 187 (nI b.toNat) (nI (goB F 10)) (nI (bsV T w nn F (i + 1))) (nI (wrV T w nn F (bsV T w nn F (i + 1)))) (nI (i + 1 + 1))
    rw [s1, un]
    by_cases q : wrV T w nn F (i + 1) < wrV T w nn F (bsV T w nn F i)
    · rw [if_pos q, if_pos (by rw [c1]; exact q)]
    · rw [if_neg q, if_neg (by rw [c1]; exact q)]
  · intro f _ _
    show fX11_sit_136b n (fX11_sit_136 n f) (mk s) 187 (nI b.toNat) (nI (goB F 10)) (nI (bsV T w nn F (T 0 0 - 1))) (nI (wrV T w nn F (bsV T w nn F (T 0 0 - 1)))) (nI (T 0 0 - 1 + 1)) = _
    unfold fX11_sit_136b sitV
    rw [show T 0 0 - 1 + 1 = T 0 0 by omega]
    cases b with
    | false => simp (disch := first | omega | assumption | (simp only [wL_1, wL_22, wI_2, wA_2, wQ_1, wQ_21] <;> first | assumption | omega)) only [LIT, LITm, nI_add, n_mul, fa_or, n_31m, n_shl0, n_le, n_lt, n_eq, Option.bind_some, B_m hn, hT.1.1, Nat.le_refl, Bool.toNat_false, not_true_eq_false, Bool.false_eq_true, if_false, ↓reduceIte]
    | true => simp (disch := first | omega | assumption | (simp only [wL_1, wL_22, wI_2, wA_2, wQ_1, wQ_21] <;> first | assumption | omega)) only [LIT, LITm, nI_add, n_mul, fa_or, n_31m, n_shl0, n_le, n_lt, n_eq, Option.bind_some, B_m hn, hT.1.1, Nat.le_refl, Bool.toNat_true, Nat.reduceEqDiff, Nat.reduceLeDiff, not_false_eq_true, if_true, ↓reduceIte]
theorem m_sit (hn : 239 ≤ n) (hK : mK s A) (hA : wfA A) : (∀ w nn (b : Bool), w < aT A 0 2 → 1 ≤ nn → nn ≤ 60 → ∃ (s' : zS) (F : Nat → Bool), (∀ l, l < 10 → (F l = true ↔ fitP (aT A) (aE A) w l)) ∧ fX11_sit n (mk s) 187 (nI w) (nI nn) (nI b.toNat) = some (sitV (aT A) w nn F b, mk s') ∧ frT s s') ∧ (¬ sitOk (aT A) x y z → ∃ s' : zS, fX11_sit n (mk s) 187 x y z = some (m1, mk s') ∧ frT s s') := by
  have hW := hA.1
  have h0 := hW.1
  have ft := m_th s
  have hKt := mK_T hW hK ft
  obtain ⟨sa, ea⟩ : ∃ sa : zS, sa = wI s 187 2 (nI 0) := ⟨_, rfl⟩
  rw [← ea] at hKt ft
  have hP := fun y => m_isWalker hn hKt.1 (x := y)
  have n60 : (60 : Int32) = nI 60 := rfl
  refine ⟨fun w nn b hw h1 h60 => ?_, fun h => ?_⟩
  · obtain ⟨sb, F, hF, eb, fb, -⟩ := m_legsBits hn hW hKt.1 hA.2.2.2.2.2 hKt.2.2.2.2.2.2 hw
    have fsb := frT_t ft fb
    have hw9 := (hW.2.2.2.1 w hw).1
    have bb : b.toNat ≤ 1 := Bool.toNat_le b
    refine Exists.elim ?_ (fun s' h => ⟨s', F, hF, h⟩)
    unfold fX11_sit
    rw [n60]
    simp (disch := first | omega | assumption | (simp only [wL_1, wL_22, wI_2, wA_2, wQ_1, wQ_21] <;> first | assumption | omega)) only [LIT, LITm, nI_add, n_mul, fa_or, n_31m, n_shl0, n_le, n_lt, n_eq, Option.bind_some, B_m hn, ← ea, hP, inR_n hw (by omega), m_within, wiV_n, eb, Bool.toNat_true, Nat.reduceEqDiff, Nat.reduceLeDiff, not_false_eq_true, ↓reduceIte]
    refine lp_up (F := fun f (s1 : zS) i => fX11_sit_44 n f (mk s1) 187 (nI w) (nI nn) (nI b.toNat) (nI (goB F 10)) (nI i)) (N := 7) (P := fun i s1 => frT s s1 ∧ ∀ j, j < i → s1.1 235 j = nI 0) (Q := fun r => ∃ s' : zS, r = some (sitV (aT A) w nn F b, mk s') ∧ frT s s') ?_ ?_ 7 bi_K sb 0 (by omega) (by unfold bi_K; omega) ⟨fsb, fun j h => absurd h (Nat.not_lt_zero j)⟩
    · rintro f s1 i hi ⟨g1, g2⟩
      left
      refine ⟨wI s1 235 i (nI 0), ?_, frT_t g1 (frT_w (by unfold scM; omega)), fun j hj => ?_⟩
      · show fX11_sit_44b n (fX11_sit_44 n f) (mk s1) 187 (nI w) (nI nn) (nI b.toNat) (nI (goB F 10)) (nI i) = _
        unfold fX11_sit_44b
        simp (disch := first | omega | assumption | (simp only [wL_1, wL_22, wI_2, wA_2, wQ_1, wQ_21] <;> first | assumption | omega)) only [LIT, LITm, nI_add, n_mul, fa_or, n_31m, n_shl0, n_le, n_lt, n_eq, Option.bind_some, B_m hn, B_mc hn, show ¬ 7 ≤ i by omega, ↓reduceIte]
      · by_cases q : j = i
        · rw [q, wI_at, upd_at]
        · rw [wI_at, upd_ne q]; exact g2 j (by omega)
    · rintro f s1 ⟨g1, g2⟩
      have e0 : fX11_sit_44 n (f + 1) (mk s1) 187 (nI w) (nI nn) (nI b.toNat) (nI (goB F 10)) (nI 7) = fX11_sit_68 n bi_K (mk s1) 187 (nI w) (nI nn) (nI b.toNat) (nI (goB F 10)) (nI 0) := by
        show fX11_sit_44b n (fX11_sit_44 n f) (mk s1) 187 (nI w) (nI nn) (nI b.toNat) (nI (goB F 10)) (nI 7) = _
        unfold fX11_sit_44b
        simp (disch := first | omega | assumption | (simp only [wL_1, wL_22, wI_2, wA_2, wQ_1, wQ_21] <;> first | assumption | omega)) only [LIT, LITm, nI_add, n_mul, fa_or, n_31m, n_shl0, n_le, n_lt, n_eq, Option.bind_some, Nat.le_refl, ↓reduceIte]
      show ∃ s' : zS, fX11_sit_44 n (f + 1) (mk s1) 187 (nI w) (nI nn) (nI b.toNat) (nI (goB F 10)) (nI 7) = _ ∧ _
      rw [e0]
      refine lp_up (F := fun f (s1 : zS) i => fX11_sit_68 n f (mk s1) 187 (nI w) (nI nn) (nI b.toNat) (nI (goB F 10)) (nI i)) (N := 10) (P := fun i s1 => frT s s1 ∧ ∀ j, j < 7 → s1.1 235 j = nI (htV (aT A) w nn F i j)) (Q := fun r => ∃ s' : zS, r = some (sitV (aT A) w nn F b, mk s') ∧ frT s s') ?_ ?_ 10 bi_K s1 0 (by omega) (by unfold bi_K; omega) ⟨g1, fun j hj => g2 j hj⟩
      · rintro f s1 i hi ⟨g1, g2⟩
        left
        have hT1 : mTd s1.1 (aT A) := (mK_T hW hK g1).1
        show ∃ s', fX11_sit_68b n (fX11_sit_68 n f) (mk s1) 187 (nI w) (nI nn) (nI b.toNat) (nI (goB F 10)) (nI i) = _ ∧ _
        unfold fX11_sit_68b fX11_sit_117
        have io := m_isOf11 (n := n) (F := F) (h := mk s1) hi
        cases eF : F i with
        | false =>
          rw [eF] at io
          refine ⟨s1, ?_, g1, fun j hj => ?_⟩
          · simp (disch := first | omega | assumption | (simp only [wL_1, wL_22, wI_2, wA_2, wQ_1, wQ_21] <;> first | assumption | omega)) only [LIT, LITm, nI_add, n_mul, fa_or, n_31m, n_shl0, n_le, n_lt, n_eq, Option.bind_some, io, Bool.toNat_false, not_true_eq_false, show ¬ 10 ≤ i by omega, ↓reduceIte]
          · rw [g2 j hj, ht_s, eF, if_neg (fun q => by cases q.1), Nat.add_zero]
        | true =>
          rw [eF] at io
          obtain ⟨s2, e2, f2, z2, o2, k2, q2⟩ := m_layLegs (l := i) hn hW hT1 hw (by omega)
          have hT2 := mTd_T f2.1 hT1
          obtain ⟨s3, e3, f3, k3⟩ := m_many (j := nn) hn hW hT2 q2 k2 (OL_w hW (by omega)) (S0_w hW) (by omega)
          have f3t : frT s2 s3 := frY_T (show (1 : Nat) ≠ 0 by omega) f3
          have pl7 := Nat.lt_of_lt_of_le (plD_lt (w := w) (l := i) (d := nn) hW hw) h0.1
          have pw : s3.1 219 (4 + w) = nI (plD (aT A) w i nn w) := (k3.2.2 w hw).1
          obtain ⟨pz, epz⟩ : ∃ pz, pz = plD (aT A) w i nn w := ⟨_, rfl⟩
          rw [← epz] at pw pl7
          have o3 : s3.1 235 = s1.1 235 := by
            rw [← o2 235 (by omega)]
            exact funext fun j => f3.2.1 235 j (by unfold hfM; omega) (by omega)
          have e76 : s3.1 235 pz = nI (htV (aT A) w nn F i pz) := by rw [o3]; exact g2 pz pl7
          have ctl := fb_ct_le F i
          have hl10 : htV (aT A) w nn F i pz ≤ 10 := Nat.le_trans ht_le (by omega)
          refine ⟨wI s3 235 pz (nI (htV (aT A) w nn F i pz + 1)), ?_, frT_t g1 (frT_t f2 (frT_t f3t (frT_w (by unfold scM; omega)))), fun j hj => ?_⟩
          · simp (disch := first | omega | assumption | (simp only [wL_1, wL_22, wI_2, wA_2, wQ_1, wQ_21] <;> first | assumption | omega)) only [LIT, LITm, nI_add, n_mul, fa_or, n_31m, n_shl0, n_le, n_lt, n_eq, Option.bind_some, B_m hn, B_mb hn, B_mc hn, io, e2, e3, pw, e76, Bool.toNat_true, Nat.reduceEqDiff, Nat.reduceLeDiff, not_false_eq_true, show ¬ 10 ≤ i by omega, ↓reduceIte]
          · rw [ht_s, eF, ← epz, wI_at]
            by_cases q : j = pz
            · rw [q, upd_at, if_pos ⟨rfl, rfl⟩]
            · rw [upd_ne q, o3, g2 j hj, if_neg (fun r => q r.2.symm), Nat.add_zero]
      · rintro f s1 ⟨g1, g2⟩
        obtain ⟨sc, ec, fc, zc, oc, -⟩ := m_plain (s := s1) (T := aT A) hn hW
        have fsc := frT_t g1 fc
        have hTc : mTd sc.1 (aT A) := (mK_T hW hK fsc).1
        have e := m_sit136 (b := b) hn hW hTc (by omega) (fun j hj => by rw [oc 235 (by omega)]; exact g2 j hj)
        refine ⟨sc, ?_, fsc⟩
        show fX11_sit_68b n (fX11_sit_68 n f) (mk s1) 187 (nI w) (nI nn) (nI b.toNat) (nI (goB F 10)) (nI 10) = _
        unfold fX11_sit_68b
        simp (disch := first | omega | assumption | (simp only [wL_1, wL_22, wI_2, wA_2, wQ_1, wQ_21] <;> first | assumption | omega)) only [LIT, LITm, nI_add, n_mul, fa_or, n_31m, n_shl0, n_le, n_lt, n_eq, Option.bind_some, ec, Nat.le_refl, ↓reduceIte]
        exact e
  · refine ⟨sa, ?_, ft⟩
    unfold fX11_sit
    rw [n60]
    cases g : inR x (aT A 0 2) with
    | false => simp (disch := first | omega | assumption | (simp only [wL_1, wL_22, wI_2, wA_2, wQ_1, wQ_21] <;> first | assumption | omega)) only [LIT, LITm, nI_add, n_mul, fa_or, n_31m, n_shl0, n_le, n_lt, n_eq, Option.bind_some, B_m hn, ← ea, hP, g, Bool.toNat_false, ↓reduceIte]
    | true =>
      cases g1 : wiV 1 y 60 with
      | false => simp (disch := first | omega | assumption | (simp only [wL_1, wL_22, wI_2, wA_2, wQ_1, wQ_21] <;> first | assumption | omega)) only [LIT, LITm, nI_add, n_mul, fa_or, n_31m, n_shl0, n_le, n_lt, n_eq, Option.bind_some, B_m hn, ← ea, hP, g, m_within, g1, Bool.toNat_true, Bool.toNat_false, Nat.reduceEqDiff, Nat.reduceLeDiff, ↓reduceIte]
      | true =>
        have g2 : wiV 0 z 1 = false := bF (fun q => h ⟨g, g1, q⟩)
        simp (disch := first | omega | assumption | (simp only [wL_1, wL_22, wI_2, wA_2, wQ_1, wQ_21] <;> first | assumption | omega)) only [LIT, LITm, nI_add, n_mul, fa_or, n_31m, n_shl0, n_le, n_lt, n_eq, Option.bind_some, B_m hn, ← ea, hP, g, m_within, g1, g2, Bool.toNat_true, Bool.toNat_false, Nat.reduceEqDiff, Nat.reduceLeDiff, not_true_eq_false, ↓reduceIte]
end St
