/-! ===== the class's calls that run days ===== -/
def inR (x : Int32) (m : Nat) : Bool := decide (¬ x < nI 0 ∧ ¬ nI m ≤ x)
theorem inR_t {x : Int32} {m : Nat} (hm : m < 2147483648) (h : inR x m = true) : ∃ j, j < m ∧ x = nI j := by
  have h := of_decide_eq_true h
  rcases n_row (x := x) hm with h1 | h1 | h1
  · exact h1
  · exact absurd h1 h.1
  · exact absurd h1 h.2
theorem inR_n {j m : Nat} (hj : j < m) (hm : m < 2147483648) : inR (nI j) m = true := by
  unfold inR
  rw [decide_eq_true]
  rw [n_lt (by omega) (by omega), n_le (by omega) (by omega)]
  omega
/-- so many days -/
def dyN (T : zT) (O : zO) : Nat → zD → zD
  | 0, S => S
  | k + 1, S => dayV T O (dyN T O k S)
theorem dyN_w {T : zT} {O : zO} {S : zD} (hW : WT T) (h : wD T S) : ∀ k, wD T (dyN T O k S)
  | 0 => h
  | k + 1 => dayV_w hW (dyN_w hW h k)
def pcV (k : Nat) : Nat := fb_ct (fun i => k.testBit i) 9
theorem pc_all : ∀ k : Fin 512, (fJ6_bitCount_0f7a4 0 ai_h0 (nI k.1)).map (·.1) = some (nI (pcV k.1)) := by decide +kernel
theorem c_bitCount {n k : Nat} {h : ai_H} (hk : k < 512) : fJ6_bitCount_0f7a4 n h (nI k) = some (nI (pcV k), h) := by
  have e : fJ6_bitCount_0f7a4 n h (nI k) = ((fJ6_bitCount_0f7a4 0 ai_h0 (nI k)).map (·.1)).map (fun x => (x, h)) := rfl
  rw [e, pc_all ⟨k, hk⟩]
  rfl
def wiV (a : Nat) (x : Int32) (b : Nat) : Bool := decide (nI a ≤ x ∧ x ≤ nI b)
theorem wiV_t {a b : Nat} {x : Int32} (ha : a < 2147483648) (hb : b < 2147483648) (h : wiV a x b = true) : ∃ j, a ≤ j ∧ j ≤ b ∧ x = nI j := by
  obtain ⟨h1, h2⟩ := of_decide_eq_true h
  rw [fa_le, nI_toInt ha] at h1
  rw [fa_le, nI_toInt hb] at h2
  have h3 : ¬ x < 0 := by
    rw [fa_lt, show (0 : Int32).toInt = 0 by decide]
    omega
  obtain ⟨j, hj, rfl⟩ := nI_of h3
  rw [nI_toInt hj] at h1 h2
  exact ⟨j, by omega, by omega, rfl⟩
theorem wiV_n {a b j : Nat} (h1 : a ≤ j) (h2 : j ≤ b) (hb : b < 2147483648) : wiV a (nI j) b = true := by
  unfold wiV
  rw [decide_eq_true]
  rw [n_le (by omega) (by omega), n_le (by omega) (by omega)]
  omega
theorem ite_nat {c : Prop} [Decidable c] : (if c then 1 else 0 : Nat) = (decide c).toNat := by
  by_cases h : c
  · rw [if_pos h, decide_eq_true h]
    rfl
  · rw [if_neg h, decide_eq_false h]
    rfl
theorem c_within {n a b : Nat} {h : ai_H} {x : Int32} : fX10_isWithin n h (nI a) x (nI b) = some (nI (wiV a x b).toNat, h) := by
  rw [c_isWithin, ite_nat]
  rfl
theorem m_within {n a b : Nat} {h : ai_H} {x : Int32} : fX11_isIn n h x (nI a) (nI b) = some (nI (wiV a x b).toNat, h) := by
  rw [m_isIn, ite_nat]
  rfl
theorem gz_b {b : Bool} : gZ (nI b.toNat) = some () := by cases b <;> decide
theorem cl_n {j : Nat} (h : j < 2147483648) : (nI j).toNatClampNeg = j := nI_clamp h
section Cr
variable {n t o p w : Nat} {s : zS} {T : zT} {O : zO} {S : zD} {A : zA}
theorem B_k3 {n t : Nat} (hn : 239 ≤ n) : ∀ s : zS, s.2.2 1 3 = t → pR n (mk s) 1 10 3 = some t := fun s h => by simp only [B_K hn, h]
theorem c_isPath (hn : 239 ≤ n) (hK : cK s t A) (hA : wfA A) {x : Int32} : fX10_isPath n (mk s) 1 x = some (nI (inR x (aT A 0 1)).toNat, mk s) := by
  have ht := cK_t hK
  have h0 := hA.1.1
  have e3 := hK.2.1
  have c1 : s.1 (t + 4) 4 = nI (aT A 0 1) := (CTp t (aT A)).2.1 s hK.2.2.1
  unfold fX10_isPath inR
  by_cases h1 : x < nI 0
  · rw [decide_eq_false (fun h => h.1 h1)]
    simp (disch := first | omega | assumption | (simp only [wL_1, wL_22, wI_2, wA_2, wQ_1, wQ_21] <;> first | assumption | omega)) only [LIT, LITm, nI_add, n_mul, fa_or, n_31m, n_shl0, n_le, n_lt, n_eq, Option.bind_some, B_K hn, h1, ↓reduceIte, Bool.toNat_false]
  · by_cases h2 : nI (aT A 0 1) ≤ x
    · rw [decide_eq_false (fun h => h.2 h2)]
      simp (disch := first | omega | assumption | (simp only [wL_1, wL_22, wI_2, wA_2, wQ_1, wQ_21] <;> first | assumption | omega)) only [LIT, LITm, nI_add, n_mul, fa_or, n_31m, n_shl0, n_le, n_lt, n_eq, Option.bind_some, B_K hn, e3, B_t hn ht, c1, h1, h2, ↓reduceIte, Bool.toNat_false]
    · rw [decide_eq_true ⟨h1, h2⟩]
      simp (disch := first | omega | assumption | (simp only [wL_1, wL_22, wI_2, wA_2, wQ_1, wQ_21] <;> first | assumption | omega)) only [LIT, LITm, nI_add, n_mul, fa_or, n_31m, n_shl0, n_le, n_lt, n_eq, Option.bind_some, B_K hn, e3, B_t hn ht, c1, h1, h2, ↓reduceIte, Bool.toNat_true]
theorem c_isPlace (hn : 239 ≤ n) (hK : cK s t A) (hA : wfA A) {x : Int32} : fX10_isPlace n (mk s) 1 x = some (nI (inR x (aT A 0 0)).toNat, mk s) := by
  have ht := cK_t hK
  have h0 := hA.1.1
  have e3 := hK.2.1
  have c1 : s.1 (t + 1) 4 = nI (aT A 0 0) := (CTp t (aT A)).1 s hK.2.2.1
  unfold fX10_isPlace inR
  by_cases h1 : x < nI 0
  · rw [decide_eq_false (fun h => h.1 h1)]
    simp (disch := first | omega | assumption | (simp only [wL_1, wL_22, wI_2, wA_2, wQ_1, wQ_21] <;> first | assumption | omega)) only [LIT, LITm, nI_add, n_mul, fa_or, n_31m, n_shl0, n_le, n_lt, n_eq, Option.bind_some, B_K hn, h1, ↓reduceIte, Bool.toNat_false]
  · by_cases h2 : nI (aT A 0 0) ≤ x
    · rw [decide_eq_false (fun h => h.2 h2)]
      simp (disch := first | omega | assumption | (simp only [wL_1, wL_22, wI_2, wA_2, wQ_1, wQ_21] <;> first | assumption | omega)) only [LIT, LITm, nI_add, n_mul, fa_or, n_31m, n_shl0, n_le, n_lt, n_eq, Option.bind_some, B_K hn, e3, B_t hn ht, c1, h1, h2, ↓reduceIte, Bool.toNat_false]
    · rw [decide_eq_true ⟨h1, h2⟩]
      simp (disch := first | omega | assumption | (simp only [wL_1, wL_22, wI_2, wA_2, wQ_1, wQ_21] <;> first | assumption | omega)) only [LIT, LITm, nI_add, n_mul, fa_or, n_31m, n_shl0, n_le, n_lt, n_eq, Option.bind_some, B_K hn, e3, B_t hn ht, c1, h1, h2, ↓reduceIte, Bool.toNat_true]
theorem c_isWalker (hn : 239 ≤ n) (hK : cK s t A) (hA : wfA A) {x : Int32} : fX10_isWalker n (mk s) 1 x = some (nI (inR x (aT A 0 2)).toNat, mk s) := by
  have ht := cK_t hK
  have h0 := hA.1.1
  have e3 := hK.2.1
  have c1 : s.1 (t + 7) 4 = nI (aT A 0 2) := (CTp t (aT A)).2.2.1 s hK.2.2.1
  unfold fX10_isWalker inR
  by_cases h1 : x < nI 0
  · rw [decide_eq_false (fun h => h.1 h1)]
    simp (disch := first | omega | assumption | (simp only [wL_1, wL_22, wI_2, wA_2, wQ_1, wQ_21] <;> first | assumption | omega)) only [LIT, LITm, nI_add, n_mul, fa_or, n_31m, n_shl0, n_le, n_lt, n_eq, Option.bind_some, B_K hn, h1, ↓reduceIte, Bool.toNat_false]
  · by_cases h2 : nI (aT A 0 2) ≤ x
    · rw [decide_eq_false (fun h => h.2 h2)]
      simp (disch := first | omega | assumption | (simp only [wL_1, wL_22, wI_2, wA_2, wQ_1, wQ_21] <;> first | assumption | omega)) only [LIT, LITm, nI_add, n_mul, fa_or, n_31m, n_shl0, n_le, n_lt, n_eq, Option.bind_some, B_K hn, e3, B_t hn ht, c1, h1, h2, ↓reduceIte, Bool.toNat_false]
    · rw [decide_eq_true ⟨h1, h2⟩]
      simp (disch := first | omega | assumption | (simp only [wL_1, wL_22, wI_2, wA_2, wQ_1, wQ_21] <;> first | assumption | omega)) only [LIT, LITm, nI_add, n_mul, fa_or, n_31m, n_shl0, n_le, n_lt, n_eq, Option.bind_some, B_K hn, e3, B_t hn ht, c1, h1, h2, ↓reduceIte, Bool.toNat_true]
/-- the scratch is now's copy, days stand ready on it as it goes -/
theorem c_ahead0 (hn : 239 ≤ n) (hK : cK s t A) (hA : wfA A) : ∃ s' : zS, fX10_beginAhead n (mk s) 1 = some ((), mk s') ∧ frS s s' ∧ cOd s' t 57 (aT A) (O0 (aT A) 1) ∧ cSd s'.1 57 (aT A) (aS A) := by
  have ht := cK_t hK
  have hW := hA.1
  have e3 := hK.2.1
  obtain ⟨sa, ea, fa, ha⟩ := c_copy hn is_57 is_52 (by omega) hW hK.2.2.2.1
  have hTa : cTd sa.1 t (aT A) := cTd_fr hK.2.2.1 (fun a h1 h2 => fa.1 a (by omega))
  obtain ⟨sb, eb, fb, hb⟩ := c_begin (b := 1) hn ht is_57 hW hTa
  have e3a : sa.2.2 1 3 = t := by rw [fa.2]; exact e3
  refine ⟨sb, ?_, ⟨fun a j hj => ?_, fun a h => ?_, fun a h => ?_⟩, hb, cSd_fr ha (fun a h1 h2 => fb.1 a (by omega) (by omega))⟩
  · unfold fX10_beginAhead
    simp (disch := first | omega | assumption | (simp only [wL_1, wL_22, wI_2, wA_2, wQ_1, wQ_21] <;> first | assumption | omega)) only [LIT, LITm, nI_add, n_mul, fa_or, n_31m, n_shl0, n_le, n_lt, n_eq, Option.bind_some, B_K hn, e3a, ea, eb]
  · unfold scr at hj
    rw [fb.1 a (by omega) (by omega), fa.1 a (by omega)]
  · rw [fb.2.2 a h, fa.2]
  · rw [fb.2.1, fa.2]
/-- now has changed -/
theorem cK_nw {s' : zS} {S' : zD} (h : cK s t A) (e1 : ∀ a j, a < 187 → ¬ scr a j → ¬ (52 ≤ a ∧ a ≤ 56) → s'.1 a j = s.1 a j) (e2 : ∀ a, a = 1 ∨ a = 67 → s'.2.2 a = s.2.2 a) (hS : cSd s'.1 52 (aT A) S') : cK s' t (A.1, S', A.2.2) := by
  obtain ⟨h1, h2, h3, h4, h5, h6, h7, h8, h9⟩ := h
  have ec : ∀ a, a < 187 → (a < 52 ∨ (62 ≤ a ∧ a < 68) ∨ (71 ≤ a ∧ a < 75) ∨ 87 ≤ a) → s'.1 a = s.1 a := fun a h1 h2 => funext fun j => e1 a j h1 (by unfold scr; omega) (by omega)
  refine ⟨by rw [e2 1 (by omega)]; exact h1, by rw [e2 1 (by omega)]; exact h2, cTd_fr h3 (fun a g1 g2 => ec a (by omega) (by omega)), hS, ⟨?_, fun g => ?_⟩, ⟨?_, h6.2.1, ?_, ?_, fun i hi => ?_⟩, ⟨?_, fun i hi => ?_⟩, ⟨?_, ?_⟩, ⟨?_, ?_, fun i hi => ?_⟩⟩
  · rw [ec 1 (by omega) (by omega)]; exact h5.1
  · exact cSd_fr (h5.2 g) (fun a g1 g2 => ec a (by omega) (by omega))
  · rw [ec 1 (by omega) (by omega)]; exact h6.1
  · rw [e2 67 (by omega)]; exact h6.2.2.1
  · rw [e2 67 (by omega)]; exact h6.2.2.2.1
  · rw [e2 67 (by omega)]
    obtain ⟨k, hk, e⟩ := h6.2.2.1 i (by have := h6.2.1; have : i < (aP A).1 := hi; omega)
    refine cSd_fr (h6.2.2.2.2 i hi) (fun a g1 g2 => ec a ?_ ?_) <;> omega
  · rw [ec 1 (by omega) (by omega)]; exact h7.1
  · rw [ec 2 (by omega) (by omega)]; exact h7.2 i hi
  · rw [ec 3 (by omega) (by omega)]; exact h8.1
  · rw [ec 3 (by omega) (by omega)]; exact h8.2
  · rw [e1 70 5 (by omega) (by unfold scr; omega) (by omega)]; exact h9.1
  · rw [e1 70 6 (by omega) (by unfold scr; omega) (by omega)]; exact h9.2.1
  · rw [ec 71 (by omega) (by omega), ec 72 (by omega) (by omega), ec 73 (by omega) (by omega), ec 74 (by omega) (by omega)]; exact h9.2.2 i hi
/-- nothing to undo -/
theorem cK_p0 (h : cK s t A) : cK (wI s 1 10 (nI 0)) t (A.1, A.2.1, A.2.2.1, (0, (aP A).2), A.2.2.2.2) := by
  obtain ⟨h1, h2, h3, h4, h5, h6, h7, h8, h9⟩ := h
  have ec : ∀ a, a ≠ 1 → (wI s 1 10 (nI 0)).1 a = s.1 a := fun a ha => wI_ne ha
  have ht : t = 6 ∨ t = 29 := by rcases h1 with h | h <;> omega
  refine ⟨h1, h2, cTd_fr h3 (fun a g1 g2 => ec a (by omega)), cSd_fr h4 (fun a g1 g2 => ec a (by omega)), ⟨?_, fun g => ?_⟩, ⟨?_, by show (0 : Nat) ≤ 20; omega, h6.2.2.1, h6.2.2.2.1, fun i hi => absurd hi (Nat.not_lt_zero i)⟩, ⟨?_, fun i hi => ?_⟩, ⟨?_, ?_⟩, ⟨?_, ?_, fun i hi => ?_⟩⟩
  · simp (disch := omega) only [wI_at, upd_ne]; exact h5.1
  · exact cSd_fr (h5.2 g) (fun a g1 g2 => ec a (by omega))
  · simp (disch := omega) only [wI_at, upd_at]
  · simp (disch := omega) only [wI_at, upd_ne]; exact h7.1
  · rw [ec 2 (by omega)]; exact h7.2 i hi
  · rw [ec 3 (by omega)]; exact h8.1
  · rw [ec 3 (by omega)]; exact h8.2
  · rw [ec 70 (by omega)]; exact h9.1
  · rw [ec 70 (by omega)]; exact h9.2.1
  · rw [ec 71 (by omega), ec 72 (by omega), ec 73 (by omega), ec 74 (by omega)]; exact h9.2.2 i hi
theorem c_go (hn : 239 ≤ n) (hK : cK s t A) (hA : wfA A) {x : Int32} : (wiV 0 x 400 = true ∧ ¬ nI 9000 < (aS A).1 0 + x → ∃ s' : zS, fX10_go n (mk s) 1 x = some ((dyN (aT A) (O0 (aT A) 0) x.toNatClampNeg (aS A)).1 0, mk s') ∧ frC s s' ∧ cK s' t (A.1, dyN (aT A) (O0 (aT A) 0) x.toNatClampNeg (aS A), A.2.2.1, (if x.toNatClampNeg = 0 then aP A else (0, (aP A).2)), A.2.2.2.2)) ∧
    (¬ (wiV 0 x 400 = true ∧ ¬ nI 9000 < (aS A).1 0 + x) → fX10_go n (mk s) 1 x = some (m1, mk s)) := by
  have ht := cK_t hK
  have hW := hA.1
  have e3 := hK.2.1
  have hd := hK.2.2.2.1.1.1
  have lel : ∀ y : Int32, (y ≤ nI 9000) = ¬ (nI 9000 < y) := fun y => propext ⟨fun h => by rw [fa_lt]; rw [fa_le] at h; omega, fun h => by rw [fa_le]; rw [fa_lt] at h; omega⟩
  refine ⟨fun h => ?_, fun h => ?_⟩
  · obtain ⟨j, -, hj, rfl⟩ := wiV_t (by omega) (by omega) h.1
    rw [cl_n (by omega)]
    obtain ⟨sa, ea, fa, ha⟩ := c_begin (b := 0) hn ht is_52 hW hK.2.2.1
    have hTa : cTd sa.1 t (aT A) := cTd_fr hK.2.2.1 (fun a h1 h2 => fa.1 a (by omega) (by omega))
    have hSa : cSd sa.1 52 (aT A) (aS A) := cSd_fr hK.2.2.2.1 (fun a h1 h2 => fa.1 a (by omega) (by omega))
    have pre : fX10_go n (mk s) 1 (nI j) = fX10_go_46 n bi_K (mk sa) 1 (nI j) (nI 0) := by
      unfold fX10_go
      simp (disch := first | omega | assumption | (simp only [wL_1, wL_22, wI_2, wA_2, wQ_1, wQ_21] <;> first | assumption | omega)) only [LIT, LITm, nI_add, n_mul, fa_or, n_31m, n_shl0, n_le, n_lt, n_eq, Option.bind_some, B_K hn, B_s hn is_52, hd, e3, c_within, wiV_n, lel, h.2, ea, Bool.toNat_true, Nat.reduceEqDiff, Nat.reduceLeDiff, not_false_eq_true, ↓reduceIte]
    rw [pre]
    refine lp_up (F := fun k (s1 : zS) i => fX10_go_46 n k (mk s1) 1 (nI j) (nI i)) (N := j) (P := fun i s1 => frD t 52 sa s1 ∧ cSd s1.1 52 (aT A) (dyN (aT A) (O0 (aT A) 0) i (aS A))) (Q := fun r => ∃ s' : zS, r = some ((dyN (aT A) (O0 (aT A) 0) j (aS A)).1 0, mk s') ∧ frC s s' ∧ cK s' t (A.1, dyN (aT A) (O0 (aT A) 0) j (aS A), A.2.2.1, (if j = 0 then aP A else (0, (aP A).2)), A.2.2.2.2)) ?_ ?_ j bi_K sa 0 (by omega) (by unfold bi_K; omega) ⟨frD_r, hSa⟩
    · intro k sy i hi hP
      obtain ⟨f, hS⟩ := hP
      left
      obtain ⟨sz, ez, fz, hz⟩ := c_pass hn ht is_52 hW (cTd_D ht is_52 f hTa) (cOd_D is_52 f ha) hS (O0_w hW (by omega)) (dyN_w hW hA.2.1 i)
      refine ⟨sz, ?_, frD_t f fz, hz⟩
      simp (disch := first | omega | assumption | (simp only [wL_1, wL_22, wI_2, wA_2, wQ_1, wQ_21] <;> first | assumption | omega)) only [fX10_go_46, fX10_go_46b, LIT, LITm, nI_add, n_mul, fa_or, n_31m, n_shl0, n_le, n_lt, n_eq, Option.bind_some, B_K hn, ez, show ¬ j ≤ i by omega, ↓reduceIte]
    · intro k sy hP
      obtain ⟨f, hS⟩ := hP
      have fC : frC s sy := ⟨fun a h1 => ⟨by rw [f.1 a (by omega), fa.1 a (by omega) (by omega)], by rw [f.2.2 a (by omega), fa.2.1], by rw [f.2.1, fa.2.2 a (by omega)]⟩, by rw [f.2.1, fa.2.2 1 (by omega)]⟩
      have cY : cK sy t (A.1, dyN (aT A) (O0 (aT A) 0) j (aS A), A.2.2) := cK_nw hK (fun a j h1 h2 h3 => by unfold scr at h2; rw [f.1 a (by omega), fa.1 a (by omega) (by omega)]) (fun a h1 => by rw [f.2.1, fa.2.2 a (by omega)]) hS
      by_cases j0 : j = 0
      · subst j0
        refine ⟨sy, ?_, fC, by rw [if_pos rfl]; exact cY⟩
        have d0 := hS.1.1
        simp (disch := first | omega | assumption | (simp only [wL_1, wL_22, wI_2, wA_2, wQ_1, wQ_21] <;> first | assumption | omega)) only [fX10_go_46, fX10_go_46b, LIT, LITm, nI_add, n_mul, fa_or, n_31m, n_shl0, n_le, n_lt, n_eq, Option.bind_some, B_K hn, B_s hn is_52, Nat.le_refl, ↓reduceIte, d0]
      · refine ⟨wI sy 1 10 (nI 0), ?_, frC_t fC ⟨fun a h1 => ⟨wI_ne (by omega), rfl, rfl⟩, rfl⟩, by rw [if_neg j0]; exact cK_p0 cY⟩
        have d0 := hS.1.1
        simp (disch := first | omega | assumption | (simp only [wL_1, wL_22, wI_2, wA_2, wQ_1, wQ_21] <;> first | assumption | omega)) only [fX10_go_46, fX10_go_46b, LIT, LITm, nI_add, n_mul, fa_or, n_31m, n_shl0, n_le, n_lt, n_eq, Option.bind_some, B_K hn, B_s hn is_52, Nat.le_refl, show ¬ j ≤ 0 by omega, wI_ne, ↓reduceIte, d0]
  · by_cases h1 : wiV 0 x 400 = true
    · have h2 : nI 9000 < (aS A).1 0 + x := Classical.byContradiction fun g => h ⟨h1, g⟩
      unfold fX10_go
      simp (disch := first | omega | assumption | (simp only [wL_1, wL_22, wI_2, wA_2, wQ_1, wQ_21] <;> first | assumption | omega)) only [LIT, LITm, nI_add, n_mul, fa_or, n_31m, n_shl0, n_le, n_lt, n_eq, Option.bind_some, B_K hn, B_s hn is_52, hd, c_within, h1, lel, h2, Bool.toNat_true, Nat.reduceEqDiff, Nat.reduceLeDiff, not_true_eq_false, ↓reduceIte]
    · have h1' : wiV 0 x 400 = false := by cases g : wiV 0 x 400 with
        | true => exact absurd g h1
        | false => rfl
      unfold fX10_go
      simp (disch := first | omega | assumption | (simp only [wL_1, wL_22, wI_2, wA_2, wQ_1, wQ_21] <;> first | assumption | omega)) only [LIT, LITm, nI_add, n_mul, fa_or, n_31m, n_shl0, n_le, n_lt, n_eq, Option.bind_some, B_K hn, c_within, h1', Bool.toNat_false, ↓reduceIte]
end Cr
