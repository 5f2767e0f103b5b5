/-! ===== legs by what was seen: the class ===== -/
section Cl
variable {n t w l d k nn L : Nat} {s : zS} {T : zT} {E : zE} {A : zA} {S : zD} {O : zO} {x : Int32} {F : Nat → Bool}
/-- only the scratch and the days change -/
def frV (s s' : zS) : Prop := (∀ a j, ¬ ((57 ≤ a ∧ a ≤ 61) ∨ a = 68 ∨ a = 69) → s'.1 a j = s.1 a j) ∧ (∀ a, a ≠ 68 → s'.2.2 a = s.2.2 a) ∧ ∀ a, 187 ≤ a ∨ a = 5 ∨ a = 85 → s'.2.1 a = s.2.1 a
theorem frV_t {s1 s2 : zS} (h : frV s s1) (g : frV s1 s2) : frV s s2 := ⟨fun a j ha => (g.1 a j ha).trans (h.1 a j ha), fun a ha => (g.2.1 a ha).trans (h.2.1 a ha), fun a ha => (g.2.2 a ha).trans (h.2.2 a ha)⟩
theorem frV_S {s' : zS} (h : frV s s') : frS s s' := ⟨fun a j ha => h.1 a j (fun q => ha (by unfold scr; omega)), h.2.1, h.2.2⟩
theorem frD_V {s' : zS} (ht : t = 6 ∨ t = 29) (h : frD t 57 s s') : frV s s' := ⟨fun a j ha => by rw [h.1 a (by omega)], fun a _ => by rw [h.2.1], fun a ha => h.2.2 a (by omega)⟩
theorem frO_V {s' : zS} (h : frO 57 s s') : frV s s' := ⟨fun a j ha => by rw [h.1 a (by omega)], fun a _ => by rw [h.2], fun a _ => by rw [h.2]⟩
theorem frB_V {s' : zS} (h : frB s s') : frV s s' := ⟨fun a j ha => by rw [h.1 a (by omega) (by omega)], fun a ha => h.2.2 a ha, fun a _ => by rw [h.2.1]⟩
theorem so_late (hL : lsD E L (knV E)) (h : L < d) {pl : Nat → Nat} : soP E d pl := fun i h1 h2 h3 => by
  by_cases q : i < knV E
  · have := hL.2 i (by omega) q h1 h2
    omega
  · unfold CV at h1
    rw [cu_out (by omega)] at h1
    cases h1
theorem c_placeIf (hn : 239 ≤ n) (hK : cK s t A) (hA : wfA A) (hC : ∀ j, j < 24 → s.1 75 j = nI (CV (aE A) j).toNat) (h7 : s.1 70 7 = nI L) (hL : lsD (aE A) L (knV (aE A))) (hw : w < aT A 0 2) (hl : l ≤ 9) (hnn : nn ≤ 60) : ∃ (s' : zS) (b : Bool), (b = true ↔ fitP (aT A) (aE A) w l) ∧ fX10_placeIfLegs n (mk s) 1 (nI w) (nI l) (nI nn) = some (if b = true then nI (plD (aT A) w l nn w) else m1, mk s') ∧ frV s s' := by
  have ht := cK_t hK
  have hW := hA.1
  have h0 := hW.1
  have hE := hA.2.2.2.2.2
  have wOL := OL_w (w := w) hW hl
  have hL60 := hL.1
  have k2 := hK.2.1
  have k3 := hK.2.2.1
  have k9 := hK.2.2.2.2.2.2.2.2
  obtain ⟨sa, ea, fa, ka⟩ := c_sbeg hn ht is_57 hW k3
  have hTa : cTd sa.1 t (aT A) := cTd_fr k3 (fun a h1 h2 => fa.1 a (by omega))
  obtain ⟨sb, eb, fb, kb⟩ := c_begin (b := 1) hn ht is_57 hW hTa
  obtain ⟨sc, esc⟩ : ∃ sc : zS, sc = wI sb 69 w (nI l) := ⟨_, rfl⟩
  have fbc : frB sb sc := by
    rw [esc]
    exact ⟨fun a _ h2 => wI_ne h2, rfl, fun _ _ => rfl⟩
  have fv : frV s sc := frV_t (frO_V fa) (frV_t (frB_V fb) (frB_V fbc))
  have hSc : cSd sc.1 57 (aT A) (S0 (aT A)) := cSd_fr ka (fun a h1 h2 => by rw [fbc.1 a (by omega) (by omega), fb.1 a (by omega) (by omega)])
  have hOc : cOd sc t 57 (aT A) (OL (aT A) w l) := by
    obtain ⟨o1, o2, o3, o4, o5, o6, o7, o8⟩ := kb
    rw [esc]
    refine ⟨o1, o2, ?_, ?_, ?_, ?_, ?_, fun v hv => ?_⟩
    · rw [wI_ne (by omega)]; exact o3
    · rw [wI_ne (by omega)]; exact o4
    · rw [wI_ne (by omega)]; exact o5
    · rw [wI_ne (by omega)]; exact o6
    · rw [wI_ne (by omega)]; exact o7
    · rw [wI_at]
      show upd _ _ _ v = nI (if v = w then l else aT A 10 v)
      by_cases q : v = w
      · rw [if_pos q, q, upd_at]
      · rw [if_neg q, upd_ne q]
        exact o8 v hv
  have c7 : sc.1 70 7 = nI L := by rw [fv.1 70 7 (by omega)]; exact h7
  have pc : sc.1 60 w = nI (plD (aT A) w l 0 w) := (hSc.2.2 w hw).1
  obtain ⟨M, eM⟩ : ∃ M, M = if nn < L then L else nn := ⟨_, rfl⟩
  have hM : nn ≤ M ∧ L ≤ M ∧ M ≤ 60 := by
    rw [eM]
    split <;> omega
  have pl0 : ∀ i, (aT A) 0 0 ≤ 7 ∧ plD (aT A) w l i w < 7 := fun i => ⟨h0.1, Nat.lt_of_lt_of_le (plD_lt hW hw) h0.1⟩
  have pre : fX10_placeIfLegs n (mk s) 1 (nI w) (nI l) (nI nn) = fX10_placeIfLegs_64 n bi_K (mk sc) 1 (nI w) (nI nn) (nI M) (nI (plD (aT A) w l 0 w)) (nI 1) := by
    have k2a : sa.2.2 1 3 = t := by rw [fa.2]; exact k2
    have eb' : fX0_begin n (mk sa) 68 t 57 (nI 1) = some ((), mk sb) := eb
    have c7' : (wI sb 69 w (nI l)).1 70 7 = nI L := by rw [← esc]; exact c7
    have pc' : (wI sb 69 w (nI l)).1 (57 + 3) w = nI (plD (aT A) w l 0 w) := by rw [← esc]; exact pc
    unfold fX10_placeIfLegs
    rw [esc, eM]
    by_cases q : nn < L
    · rw [if_pos q]
      simp (disch := first | omega | assumption | (simp only [wL_1, wL_22, wI_2, wA_2, wQ_1, wQ_21] <;> first | assumption | omega)) only [LIT, LITm, nI_add, n_mul, fa_or, n_31m, n_shl0, n_le, n_lt, n_eq, Option.bind_some, B_K hn, B_dy hn, B_sn hn, B_s hn is_57, k2, ea, k2a, eb', c7', pc', q, ↓reduceIte]
    · rw [if_neg q]
      simp (disch := first | omega | assumption | (simp only [wL_1, wL_22, wI_2, wA_2, wQ_1, wQ_21] <;> first | assumption | omega)) only [LIT, LITm, nI_add, n_mul, fa_or, n_31m, n_shl0, n_le, n_lt, n_eq, Option.bind_some, B_K hn, B_dy hn, B_sn hn, B_s hn is_57, k2, ea, k2a, eb', c7', pc', q, ↓reduceIte]
  have e0 : (if nn ≤ 0 then nn else 0) = 0 := by split <;> omega
  rw [pre, show plD (aT A) w l 0 w = plD (aT A) w l (if nn ≤ 0 then nn else 0) w by rw [e0]]
  refine lp_up (F := fun f (s1 : zS) i => fX10_placeIfLegs_64 n f (mk s1) 1 (nI w) (nI nn) (nI M) (nI (plD (aT A) w l (if nn ≤ i then nn else 0) w)) (nI (i + 1))) (N := M) (P := fun i s1 => frV s s1 ∧ cSd s1.1 57 (aT A) (dyN (aT A) (OL (aT A) w l) i (S0 (aT A))) ∧ cOd s1 t 57 (aT A) (OL (aT A) w l) ∧ ∀ d, 1 ≤ d → d ≤ i → soP (aE A) d (plD (aT A) w l d)) (Q := fun r => ∃ (s' : zS) (b : Bool), (b = true ↔ fitP (aT A) (aE A) w l) ∧ r = some (if b = true then nI (plD (aT A) w l nn w) else m1, mk s') ∧ frV s s') ?_ ?_ M bi_K sc 0 (by omega) (by unfold bi_K; omega) ⟨fv, hSc, hOc, fun d h1 h2 => by omega⟩
  · rintro f s1 i hi ⟨g1, g2, g3, g4⟩
    have hK1 := cK_S hK (frV_S g1)
    obtain ⟨s2, e2, f2, h2⟩ := c_pass hn ht is_57 hW hK1.2.2.1 g3 g2 wOL (dyN_w hW (S0_w hW) i)
    have f2v := frV_t g1 (frD_V ht f2)
    have hK2 := cK_S hK (frV_S f2v)
    obtain ⟨b, hb, eb⟩ := c_isSo (d := i + 1) (pl := plD (aT A) w l (i + 1)) hn hK2.2.2.2.2.2.2.2.2 hE hW (fun j hj => by rw [f2v.1 75 j (by omega)]; exact hC j hj) (fun v hv => ⟨(h2.2.2 v hv).1, Nat.lt_of_lt_of_le (plD_lt hW hv) h0.1⟩) (by omega)
    cases b with
    | false =>
      right
      refine ⟨s2, false, ⟨fun h => (by cases h), fun h => hb.mpr (h (i + 1) (by omega) (by omega))⟩, ?_, f2v⟩
      show fX10_placeIfLegs_64b n (fX10_placeIfLegs_64 n f) (mk s1) 1 (nI w) (nI nn) (nI M) (nI (plD (aT A) w l (if nn ≤ i then nn else 0) w)) (nI (i + 1)) = _
      unfold fX10_placeIfLegs_64b
      simp (disch := first | omega | assumption | (simp only [wL_1, wL_22, wI_2, wA_2, wQ_1, wQ_21] <;> first | assumption | omega)) only [LIT, LITm, nI_add, n_mul, fa_or, n_31m, n_shl0, n_le, n_lt, n_eq, Option.bind_some, B_K hn, B_s hn is_57, e2, eb, Bool.toNat_false, not_true_eq_false, Bool.false_eq_true, if_false, show ¬ M < i + 1 by omega, ↓reduceIte]
    | true =>
      left
      refine ⟨s2, ?_, f2v, h2, cOd_D is_57 f2 g3, fun d h1 h2 => ?_⟩
      · show fX10_placeIfLegs_64b n (fX10_placeIfLegs_64 n f) (mk s1) 1 (nI w) (nI nn) (nI M) (nI (plD (aT A) w l (if nn ≤ i then nn else 0) w)) (nI (i + 1)) = fX10_placeIfLegs_64 n f (mk s2) 1 (nI w) (nI nn) (nI M) (nI (plD (aT A) w l (if nn ≤ i + 1 then nn else 0) w)) (nI (i + 1 + 1))
        unfold fX10_placeIfLegs_64b fX10_placeIfLegs_116
        have p2 : s2.1 60 w = nI (plD (aT A) w l (i + 1) w) := (h2.2.2 w hw).1
        by_cases q : i + 1 = nn
        · rw [if_pos (show nn ≤ i + 1 by omega), ← q]
          simp (disch := first | omega | assumption | (simp only [wL_1, wL_22, wI_2, wA_2, wQ_1, wQ_21] <;> first | assumption | omega)) only [LIT, LITm, nI_add, n_mul, fa_or, n_31m, n_shl0, n_le, n_lt, n_eq, Option.bind_some, B_K hn, B_s hn is_57, e2, eb, p2, Bool.toNat_true, Nat.reduceEqDiff, Nat.reduceLeDiff, not_false_eq_true, not_true_eq_false, show ¬ M < i + 1 by omega, ↓reduceIte]
        · have e : (if nn ≤ i + 1 then nn else 0) = (if nn ≤ i then nn else 0) := by
            by_cases r : nn ≤ i
            · rw [if_pos r, if_pos (by omega)]
            · rw [if_neg r, if_neg (by omega)]
          rw [e]
          obtain ⟨pz, epz⟩ : ∃ pz, pz = plD (aT A) w l (if nn ≤ i then nn else 0) w := ⟨_, rfl⟩
          rw [← epz]
          simp (disch := first | omega | assumption | (simp only [wL_1, wL_22, wI_2, wA_2, wQ_1, wQ_21] <;> first | assumption | omega)) only [LIT, LITm, nI_add, n_mul, fa_or, n_31m, n_shl0, n_le, n_lt, n_eq, Option.bind_some, B_K hn, B_s hn is_57, e2, eb, q, Bool.toNat_true, Nat.reduceEqDiff, Nat.reduceLeDiff, not_false_eq_true, show ¬ M < i + 1 by omega, ↓reduceIte]
      · by_cases q : d = i + 1
        · rw [q]; exact hb.mp rfl
        · exact g4 d h1 (by omega)
  · rintro f s1 ⟨g1, g2, g3, g4⟩
    refine ⟨s1, true, ⟨fun _ d h1 h2 => ?_, fun _ => rfl⟩, ?_, g1⟩
    · by_cases q : d ≤ M
      · exact g4 d h1 q
      · exact so_late hL (by omega)
    · show fX10_placeIfLegs_64b n (fX10_placeIfLegs_64 n f) (mk s1) 1 (nI w) (nI nn) (nI M) (nI (plD (aT A) w l (if nn ≤ M then nn else 0) w)) (nI (M + 1)) = _
      unfold fX10_placeIfLegs_64b
      rw [if_pos hM.1]
      simp (disch := first | omega | assumption | (simp only [wL_1, wL_22, wI_2, wA_2, wQ_1, wQ_21] <;> first | assumption | omega)) only [LIT, LITm, nI_add, n_mul, fa_or, n_31m, n_shl0, n_le, n_lt, n_eq, Option.bind_some, show M < M + 1 by omega, if_true, ↓reduceIte]
theorem frG_S {s' : zS} (h : frG s s') : frS s s' := ⟨fun a j ha => h.1 a j (fun q => ha (by unfold scr; omega)) (fun q => ha (by unfold scr; omega)), fun a _ => by rw [h.2], fun a _ => by rw [h.2]⟩
theorem c_legs (hn : 239 ≤ n) (hK : cK s t A) (hA : wfA A) : (∀ w F, w < aT A 0 2 → (∀ l, l < 10 → (F l = true ↔ fitP (aT A) (aE A) w l)) → ∃ s' : zS, fX10_legs n (mk s) 1 (nI w) = some (nI (goB F 10), mk s') ∧ frS s s') ∧ (inR x (aT A 0 2) = false → fX10_legs n (mk s) 1 x = some (m1, mk s)) := by
  have hW := hA.1
  have h0 := hW.1
  have hP := fun x => c_isWalker hn hK hA (x := x)
  refine ⟨fun w F hw hF => ?_, fun h => ?_⟩
  · obtain ⟨sa, L, ea, fa, ca, la, hL⟩ := c_sift hn hK.2.2.2.2.2.2.2.2 hA.2.2.2.2.2
    have fas := frG_S fa
    unfold fX10_legs
    simp (disch := first | omega | assumption | (simp only [wL_1, wL_22, wI_2, wA_2, wQ_1, wQ_21] <;> first | assumption | omega)) only [LIT, LITm, nI_add, n_mul, fa_or, n_31m, n_shl0, n_le, n_lt, n_eq, Option.bind_some, B_K hn, hP, inR_n hw (by omega), ea, Bool.toNat_true, Nat.reduceEqDiff, Nat.reduceLeDiff, not_false_eq_true, ↓reduceIte]
    refine lp_up (F := fun f (s1 : zS) i => fX10_legs_21 n f (mk s1) 1 (nI w) (nI (goB F i)) (nI i)) (N := 10) (P := fun i s1 => frV sa s1) (Q := fun r => ∃ s' : zS, r = some (nI (goB F 10), mk s') ∧ frS s s') ?_ ?_ 10 bi_K sa 0 (by omega) (by unfold bi_K; omega) ⟨fun _ _ _ => rfl, fun _ _ => rfl, fun _ _ => rfl⟩
    · intro f s1 i hi g1
      left
      have hK1 := cK_S hK (frS_t fas (frV_S g1))
      obtain ⟨s2, b, hb, e2, f2⟩ := c_placeIf (l := i) (nn := 0) hn hK1 hA (fun j hj => by rw [g1.1 75 j (by omega)]; exact ca j hj) (by rw [g1.1 70 7 (by omega)]; exact la) hL hw (by omega) (by omega)
      have bF' : F i = b := by
        cases b with
        | true => exact (hF i hi).mpr (hb.mp rfl)
        | false => exact bF (fun q => by have := hb.mpr ((hF i hi).mp q); cases this)
      refine ⟨s2, ?_, frV_t g1 f2⟩
      show fX10_legs_21b n (fX10_legs_21 n f) (mk s1) 1 (nI w) (nI (goB F i)) (nI i) = fX10_legs_21 n f (mk s2) 1 (nI w) (nI (goB F i ||| (if F i = true then 2 ^ i else 0))) (nI (i + 1))
      unfold fX10_legs_21b fX10_legs_43
      rw [bF']
      have pl7 := Nat.lt_of_lt_of_le (plD_lt (w := w) (l := i) (d := 0) hW hw) h0.1
      have nlt : (nI (plD (aT A) w i 0 w) < nI 0) = False := n_lt0 (by omega)
      cases b with
      | false =>
        simp only [Bool.false_eq_true, if_false] at e2
        simp (disch := first | omega | assumption | (simp only [wL_1, wL_22, wI_2, wA_2, wQ_1, wQ_21] <;> first | assumption | omega)) only [LIT, LITm, nI_add, n_mul, fa_or, n_31m, n_shl0, n_le, n_lt, n_eq, Option.bind_some, e2, n_m1lt, Bool.false_eq_true, Nat.or_zero, if_false, if_true, show ¬ 9 < i by omega, ↓reduceIte]
      | true =>
        simp only [if_true] at e2
        simp (disch := first | omega | assumption | (simp only [wL_1, wL_22, wI_2, wA_2, wQ_1, wQ_21] <;> first | assumption | omega)) only [LIT, LITm, nI_add, n_mul, fa_or, n_31m, n_shl0, n_le, n_lt, n_eq, Option.bind_some, e2, nlt, if_true, if_false, show ¬ 9 < i by omega, ↓reduceIte]
    · intro f s1 g1
      refine ⟨s1, ?_, frS_t fas (frV_S g1)⟩
      show fX10_legs_21b n (fX10_legs_21 n f) (mk s1) 1 (nI w) (nI (goB F 10)) (nI 10) = _
      unfold fX10_legs_21b
      simp (disch := first | omega | assumption | (simp only [wL_1, wL_22, wI_2, wA_2, wQ_1, wQ_21] <;> first | assumption | omega)) only [LIT, LITm, nI_add, n_mul, fa_or, n_31m, n_shl0, n_le, n_lt, n_eq, Option.bind_some, show 9 < 10 by omega, ↓reduceIte]
  · unfold fX10_legs
    simp (disch := first | omega | assumption | (simp only [wL_1, wL_22, wI_2, wA_2, wQ_1, wQ_21] <;> first | assumption | omega)) only [LIT, LITm, nI_add, n_mul, fa_or, n_31m, n_shl0, n_le, n_lt, n_eq, Option.bind_some, B_K hn, hP, h, Bool.toNat_false, not_true_eq_false, ↓reduceIte]
end Cl
