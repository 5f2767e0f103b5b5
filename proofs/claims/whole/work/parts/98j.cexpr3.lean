/-! ===== expressions on the class: all levels ===== -/
section Cj
variable {n t i N k l op : Nat} {B : Nat → Nat} {s s' s1 s2 : zS} {q q' : zQ}
/-! it always comes to an end -/
theorem tot_lo {f : zQ → zF} (hf : ∀ q, q.2.2 ≤ 64 → ∃ r, f q = some r) (hb : ∀ q q', f q = some (.ok q') → q.2.2 ≤ 64 → blS q q') : ∀ j q, q.2.2 ≤ 64 → 66 ≤ j + q.2.2 → ∃ r, loQ B N f l j q = some r := by
  intro j
  induction j with
  | zero => intro q h1 h2; omega
  | succ j ih =>
    intro q h1 h2
    show ∃ r, (if lvO q.1.1 = l then tkQ B N q (fun q1 => bdQ (f q1) (fun q2 => loQ B N f l j (emQ (q.1.1, 0) q2))) else some (.ok q)) = some r
    by_cases e : lvO q.1.1 = l
    · rw [if_pos e]
      unfold tkQ
      by_cases c : 64 ≤ q.2.2
      · rw [if_pos c]; exact ⟨_, rfl⟩
      · rw [if_neg c]
        have l1 : (kcQ B N q).2.2 ≤ 64 := by show q.2.2 + 1 ≤ 64; omega
        obtain ⟨r, hr⟩ := hf (kcQ B N q) l1
        show ∃ r, bdQ (f (kcQ B N q)) (fun q2 => loQ B N f l j (emQ (q.1.1, 0) q2)) = some r
        rw [hr]
        cases r with
        | error e => exact ⟨_, rfl⟩
        | ok q2 =>
          have b := hb _ _ hr l1
          have b1 : q.2.2 + 1 < q2.2.2 := b.1
          exact ih (emQ (q.1.1, 0) q2) b.2.1 (by show 66 ≤ j + q2.2.2; omega)
    · rw [if_neg e]; exact ⟨_, rfl⟩
theorem tot_nt {f : zQ → zF} (hf : ∀ q, q.2.2 ≤ 64 → ∃ r, f q = some r) : ∀ j c q, q.2.2 ≤ 64 → 66 ≤ j + q.2.2 → ∃ r, ntQ B N f j c q = some r := by
  intro j
  induction j with
  | zero => intro c q h1 h2; omega
  | succ j ih =>
    intro c q h1 h2
    show ∃ r, (if q.1.1 = 14 then tkQ B N q (ntQ B N f j (c + 1)) else bdQ (f q) (fun q2 => some (.ok (q2.1, psN c q2.2.1, q2.2.2)))) = some r
    by_cases e : q.1.1 = 14
    · rw [if_pos e]
      unfold tkQ
      by_cases c6 : 64 ≤ q.2.2
      · rw [if_pos c6]; exact ⟨_, rfl⟩
      · rw [if_neg c6]
        exact ih (c + 1) (kcQ B N q) (by show q.2.2 + 1 ≤ 64; omega) (by show 66 ≤ j + (q.2.2 + 1); omega)
    · rw [if_neg e]
      obtain ⟨r, hr⟩ := hf q h1
      rw [hr]
      cases r with
      | error e => exact ⟨_, rfl⟩
      | ok q2 => exact ⟨_, rfl⟩
theorem tot_all : ∀ k l op q, l ≤ 6 → op ≤ 8 → q.2.2 ≤ 64 → 7 * (8 - op) + (7 - l) ≤ k → ∃ r, plv B N k l op q = some r
  | 0, l, op, q, h1, h2, h3, h4 => by omega
  | k + 1, l, op, q, h1, h2, h3, h4 => by
    have ih := tot_all k
    show ∃ r, (if 6 ≤ l then ptQ B N (plv B N k 0 (op + 1)) op q else if l = 2 then ntQ B N (plv B N k 3 op) 66 0 q else bdQ (plv B N k (l + 1) op q) (fun q1 => if l = 3 then l1Q B N (plv B N k 4 op) q1 else loQ B N (plv B N k (l + 1) op) l 66 q1)) = some r
    by_cases c6 : 6 ≤ l
    · rw [if_pos c6]
      unfold ptQ
      by_cases e : q.1.1 = 25
      · rw [if_pos e]
        by_cases c : 8 ≤ op
        · rw [if_pos c]; exact ⟨_, rfl⟩
        · rw [if_neg c]
          obtain ⟨r, hr⟩ := ih 0 (op + 1) (adQ B N q) (by omega) (by omega) h3 (by omega)
          rw [hr]
          cases r with
          | error e => exact ⟨_, rfl⟩
          | ok q2 =>
            show ∃ r, (if q2.1.1 = 26 then _ else _) = some r
            by_cases g : q2.1.1 = 26
            · rw [if_pos g]; exact ⟨_, rfl⟩
            · rw [if_neg g]; exact ⟨_, rfl⟩
      · rw [if_neg e]
        by_cases lf : isLf q.1.1 = true
        · rw [if_pos lf]
          by_cases b : q.1.1 = 23 ∧ 9999 < q.1.2.1
          · rw [if_pos b]; exact ⟨_, rfl⟩
          · rw [if_neg b]
            unfold tkQ
            by_cases c : 64 ≤ q.2.2
            · rw [if_pos c]; exact ⟨_, rfl⟩
            · rw [if_neg c]; exact ⟨_, rfl⟩
        · rw [if_neg lf]; exact ⟨_, rfl⟩
    · rw [if_neg c6]
      by_cases c2 : l = 2
      · rw [if_pos c2]
        exact tot_nt (fun q h => ih 3 op q (by omega) h2 h (by omega)) 66 0 q h3 (by omega)
      · rw [if_neg c2]
        obtain ⟨r, hr⟩ := ih (l + 1) op q (by omega) h2 h3 (by omega)
        rw [hr]
        cases r with
        | error e => exact ⟨_, rfl⟩
        | ok q1 =>
          have b := bl_all k (l + 1) op q q1 hr h3
          show ∃ r, (if l = 3 then l1Q B N (plv B N k 4 op) q1 else loQ B N (plv B N k (l + 1) op) l 66 q1) = some r
          by_cases c3 : l = 3
          · rw [if_pos c3]
            unfold l1Q tkQ
            by_cases e : lvO q1.1.1 = 3
            · rw [if_pos e]
              by_cases c : 64 ≤ q1.2.2
              · rw [if_pos c]; exact ⟨_, rfl⟩
              · rw [if_neg c]
                obtain ⟨r, hr⟩ := ih 4 op (kcQ B N q1) (by omega) h2 (by show q1.2.2 + 1 ≤ 64; omega) (by omega)
                show ∃ r, bdQ (plv B N k 4 op (kcQ B N q1)) (fun q2 => some (.ok (emQ (q1.1.1, 0) q2))) = some r
                rw [hr]
                cases r with
                | error e => exact ⟨_, rfl⟩
                | ok q2 => exact ⟨_, rfl⟩
            · rw [if_neg e]; exact ⟨_, rfl⟩
          · rw [if_neg c3]
            exact tot_lo (fun q h => ih (l + 1) op q (by omega) h2 h (by omega)) (fun q q' => bl_all k (l + 1) op q q') 66 q1 b.2.1 (by omega)
/-! one comparison at most -/
theorem c_l1 {f F : Nat} {r : Except (Nat × Nat) zQ} (hn : 239 ≤ n) (ht : t = 6 ∨ t = 29) (ih : CC n B N t k) (hf : 2 * k ≤ f) (hop : op ≤ 8) (h : l1Q B N (plv B N k 4 op) q = some r) (hF : 2 ≤ F) (h64 : q.2.2 ≤ 64) (hlen : q.2.1.length ≤ q.2.2) (hX : cX B N t s q) :
    rdX B N t s (fX3_readLevel_46 n (fs1 n f).1 (fs1 n f).2.1 (fs1 n f).2.2 F (mk s) 3 (nI 3) (nI op) (nI 1) (nI 0)) r := by
  obtain ⟨F', rfl⟩ : ∃ F', F = F' + 2 := ⟨F - 2, by omega⟩
  unfold l1Q at h
  have w := hX.2.2.2.1.1
  have k4 := hX.2.2.1.1
  have lo := c_lvO (s := s) hn w
  have el := lv_el (k := q.1.1) (l := 3) (by omega) w
  show rdX B N t s (fX3_readLevel_46b n (fs1 n f).1 (fs1 n f).2.1 (fs1 n f).2.2 (fX3_readLevel_46 n (fs1 n f).1 (fs1 n f).2.1 (fs1 n f).2.2 (F' + 1)) (mk s) 3 (nI 3) (nI op) (nI 1) (nI 0)) r
  unfold fX3_readLevel_46b
  by_cases e : lvO q.1.1 = 3
  · rw [if_pos e] at h
    have el' : ((if lvO q.1.1 = 9 then m1 else nI (lvO q.1.1)) = nI 3) = True := by rw [el]; exact eq_true e
    simp (disch := first | omega | assumption | (simp only [wL_1, wL_22, wI_2, wA_2, wQ_1, wQ_21] <;> first | assumption | omega)) only [LIT, LITm, nI_add, n_mul, fa_or, n_31m, n_shl0, n_le, n_lt, n_eq, Option.bind_some, B_rd hn, k4, lo, el', not_true_eq_false, show ¬ 1 ≤ 0 by omega, ↓reduceIte]
    have tk := c_tkn hn ht hX h64
    rcases tkQ_ok h with ⟨c, g⟩ | ⟨c, g⟩
    · rw [g]
      exact bt_er (tk.1 c)
    · obtain ⟨s1, e1, f1, X1⟩ := tk.2 c
      rw [bt_ok e1]
      refine rdX_t f1 ?_
      obtain ⟨r1, g1, g2, g3⟩ := bdQ_s g
      have kc1 : (kcQ B N q).2.2 = q.2.2 + 1 := rfl
      have ln1 : (kcQ B N q).2.1 = q.2.1 := rfl
      refine rdX_bt (ih 4 op (kcQ B N q) s1 r1 g1 (by omega) hop (by omega) (by rw [ln1]; omega) X1 f hf) g2 ?_
      intro q2 s2 e2 f2 X2
      have b := bl_all k 4 op _ q2 (by rw [g1, e2]) (by omega)
      have b1 := b.1
      have b3 := b.2.2
      rw [kc1] at b1 b3
      rw [ln1] at b3
      have b2 := b.2.1
      obtain ⟨s3, e3, f3, X3⟩ := c_put (x := q.1.1) (y := 0) hn ht X2 (by omega)
      have r31 := B_31 hn ht X2.2.1
      simp (disch := first | omega | assumption | (simp only [wL_1, wL_22, wI_2, wA_2, wQ_1, wQ_21] <;> first | assumption | omega)) only [LIT, LITm, nI_add, n_mul, fa_or, n_31m, n_shl0, n_le, n_lt, n_eq, Option.bind_some, r31, B_t hn ht, e3]
      have g4 := g3 q2 e2
      cases g4
      refine ⟨s3, ?_, f3, X3⟩
      show fX3_readLevel_46b n (fs1 n f).1 (fs1 n f).2.1 (fs1 n f).2.2 (fX3_readLevel_46 n (fs1 n f).1 (fs1 n f).2.1 (fs1 n f).2.2 F') (mk s3) 3 (nI 3) (nI op) (nI 1) (nI (0 + 1)) = _
      unfold fX3_readLevel_46b
      simp (disch := first | omega | assumption | (simp only [wL_1, wL_22, wI_2, wA_2, wQ_1, wQ_21] <;> first | assumption | omega)) only [LIT, LITm, nI_add, n_mul, fa_or, n_31m, n_shl0, n_le, n_lt, n_eq, Option.bind_some, show 1 ≤ 0 + 1 by omega, ↓reduceIte]
  · rw [if_neg e] at h
    cases h
    have el' : ((if lvO q.1.1 = 9 then m1 else nI (lvO q.1.1)) = nI 3) = False := by rw [el]; exact eq_false e
    simp (disch := first | omega | assumption | (simp only [wL_1, wL_22, wI_2, wA_2, wQ_1, wQ_21] <;> first | assumption | omega)) only [LIT, LITm, nI_add, n_mul, fa_or, n_31m, n_shl0, n_le, n_lt, n_eq, Option.bind_some, B_rd hn, k4, lo, el', not_false_eq_true, show ¬ 1 ≤ 0 by omega, ↓reduceIte]
    exact ⟨s, rfl, frX_r, hX⟩
/-! nots -/
theorem psN_c (c : Nat) (o : List (Nat × Nat)) : psN c ((14, 0) :: o) = psN (c + 1) o := by
  induction c with
  | zero => rfl
  | succ c ih =>
    show (14, 0) :: psN c ((14, 0) :: o) = _
    rw [ih]
    rfl
theorem c_nt2 {c1 c2 : ai_H → Nat → Int32 → Option ((Unit ⊕ Nat) × ai_H)} {c3 : ai_H → Nat → Int32 → Int32 → Option ((Unit ⊕ Nat) × ai_H)} (hn : 239 ≤ n) (ht : t = 6 ∨ t = 29) : ∀ (m i c F : Nat) (q : zQ) (s : zS), c - i = m → i ≤ c → m < F → c ≤ 64 → q.2.1.length + (c - i) ≤ 64 → cX B N t s q → rdX B N t s (fX3_readNots_38 n c1 c2 c3 F (mk s) 3 (nI c) (nI i)) (.ok (q.1, psN (c - i) q.2.1, q.2.2)) := by
  intro m
  induction m with
  | zero =>
    intro i c F q s h1 h2 h3 h4 h5 hX
    obtain ⟨F', rfl⟩ : ∃ F', F = F' + 1 := ⟨F - 1, by omega⟩
    refine ⟨s, ?_, frX_r, ?_⟩
    · show fX3_readNots_38b n c1 c2 c3 (fX3_readNots_38 n c1 c2 c3 F') (mk s) 3 (nI c) (nI i) = _
      unfold fX3_readNots_38b
      simp (disch := first | omega | assumption | (simp only [wL_1, wL_22, wI_2, wA_2, wQ_1, wQ_21] <;> first | assumption | omega)) only [LIT, LITm, nI_add, n_mul, fa_or, n_31m, n_shl0, n_le, n_lt, n_eq, Option.bind_some, show c ≤ i by omega, ↓reduceIte]
    · rw [h1]
      exact hX
  | succ m ih =>
    intro i c F q s h1 h2 h3 h4 h5 hX
    obtain ⟨F', rfl⟩ : ∃ F', F = F' + 1 := ⟨F - 1, by omega⟩
    show rdX B N t s (fX3_readNots_38b n c1 c2 c3 (fX3_readNots_38 n c1 c2 c3 F') (mk s) 3 (nI c) (nI i)) _
    unfold fX3_readNots_38b
    obtain ⟨s3, e3, f3, X3⟩ := c_put (x := 14) (y := 0) hn ht hX (by omega)
    have r31 := B_31 hn ht hX.2.1
    simp (disch := first | omega | assumption | (simp only [wL_1, wL_22, wI_2, wA_2, wQ_1, wQ_21] <;> first | assumption | omega)) only [LIT, LITm, nI_add, n_mul, fa_or, n_31m, n_shl0, n_le, n_lt, n_eq, Option.bind_some, r31, B_t hn ht, e3, show ¬ c ≤ i by omega, ↓reduceIte]
    have g := ih (i + 1) c F' (emQ (14, 0) q) s3 (by omega) (by omega) (by omega) h4 (by show q.2.1.length + 1 + (c - (i + 1)) ≤ 64; omega) X3
    have e : psN (c - i) q.2.1 = psN (c - (i + 1)) (emQ (14, 0) q).2.1 := by
      show _ = psN (c - (i + 1)) ((14, 0) :: q.2.1)
      rw [psN_c]
      congr 1
      omega
    rw [e]
    exact rdX_t f3 g
theorem c_nt {f : Nat} (hn : 239 ≤ n) (ht : t = 6 ∨ t = 29) (ih : CC n B N t k) (hf : 2 * k ≤ f) (hop : op ≤ 8) : ∀ (j : Nat) (q : zQ) (s : zS) (r : Except (Nat × Nat) zQ) (c F : Nat), ntQ B N (plv B N k 3 op) j c q = some r → j ≤ F → q.2.1.length + c ≤ q.2.2 → q.2.2 ≤ 64 → cX B N t s q →
    rdX B N t s (fX3_readNots_2 n (fs1 n f).1 (fs1 n f).2.1 (fs1 n f).2.2 F (mk s) 3 (nI op) (nI c)) r := by
  intro j
  induction j with
  | zero => intro q s r c F h; cases h
  | succ j ihj =>
    intro q s r c F h hF hlen h64 hX
    obtain ⟨F', rfl⟩ : ∃ F', F = F' + 1 := ⟨F - 1, by omega⟩
    have h' : (if q.1.1 = 14 then tkQ B N q (ntQ B N (plv B N k 3 op) j (c + 1)) else bdQ (plv B N k 3 op q) (fun q2 => some (.ok (q2.1, psN c q2.2.1, q2.2.2)))) = some r := h
    have w := hX.2.2.2.1.1
    have k4 := hX.2.2.1.1
    show rdX B N t s (fX3_readNots_2b n (fs1 n f).1 (fs1 n f).2.1 (fs1 n f).2.2 (fX3_readNots_2 n (fs1 n f).1 (fs1 n f).2.1 (fs1 n f).2.2 F') (mk s) 3 (nI op) (nI c)) r
    unfold fX3_readNots_2b
    by_cases e : q.1.1 = 14
    · rw [if_pos e] at h'
      simp (disch := first | omega | assumption | (simp only [wL_1, wL_22, wI_2, wA_2, wQ_1, wQ_21] <;> first | assumption | omega)) only [LIT, LITm, nI_add, n_mul, fa_or, n_31m, n_shl0, n_le, n_lt, n_eq, Option.bind_some, B_rd hn, k4, e, not_true_eq_false, show ¬ 64 < c by omega, ↓reduceIte]
      have tk := c_tkn hn ht hX h64
      rcases tkQ_ok h' with ⟨c6, g⟩ | ⟨c6, g⟩
      · rw [g]
        exact bt_er (tk.1 c6)
      · obtain ⟨s1, e1, f1, X1⟩ := tk.2 c6
        rw [bt_ok e1]
        exact rdX_t f1 (ihj (kcQ B N q) s1 r (c + 1) F' g (by omega) (by show q.2.1.length + (c + 1) ≤ q.2.2 + 1; omega) (by show q.2.2 + 1 ≤ 64; omega) X1)
    · rw [if_neg e] at h'
      simp (disch := first | omega | assumption | (simp only [wL_1, wL_22, wI_2, wA_2, wQ_1, wQ_21] <;> first | assumption | omega)) only [LIT, LITm, nI_add, n_mul, fa_or, n_31m, n_shl0, n_le, n_lt, n_eq, Option.bind_some, B_rd hn, k4, e, not_false_eq_true, show ¬ 64 < c by omega, ↓reduceIte]
      unfold fX3_readNots_30
      obtain ⟨r1, g1, g2, g3⟩ := bdQ_s h'
      refine rdX_bt (ih 3 op q s r1 g1 (by omega) hop h64 (by omega) hX f hf) g2 ?_
      intro q2 s2 e2 f2 X2
      have b := bl_all k 3 op _ q2 (by rw [g1, e2]) h64
      have b1 := b.1
      have b3 := b.2.2
      have b2 := b.2.1
      have g4 := g3 q2 e2
      cases g4
      exact c_nt2 hn ht c 0 c bi_K q2 s2 rfl (by omega) (by unfold bi_K; omega) (by omega) (by omega) X2
end Cj
