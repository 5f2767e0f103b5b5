/-! ===== lines on the class: laws, any line, all lines ===== -/
section Cr6
variable {n t i N k a m L W τ v M : Nat} {B f : Nat → Nat} {s s' s0 s1 s2 : zS} {q q' : zQ} {T T' : zT} {x : zX} {I I' : Nat → Nat → Int32}
theorem ln_id {c : Option ((Unit ⊕ Nat) × ai_H)} {r : Except (Nat × Nat) zX} (h : lnC B N t s c r) : lnC B N t s (bt c fun _ h => some (.inl (), h)) r := by
  cases r with
  | error e => exact bt_er (h : erC t s c e)
  | ok x' =>
    obtain ⟨s', a, b⟩ := h
    exact ⟨s', by rw [bt_ok a], b⟩
theorem ex_ok {b : Nat × zQ} (h : exV B N k q = .ok b) : q.1.1 = k ∧ b = (0, adQ B N q) := by
  unfold exV at h
  by_cases g : q.1.1 = k
  · rw [if_pos g] at h; cases h; exact ⟨g, rfl⟩
  · rw [if_neg g] at h; cases h
theorem dT_law {w b c : Nat} (D : dT I t T) (hw : w < 3) (e0 : ∀ a, t ≤ a → a ≤ t + 18 → a ≠ t + 16 → a ≠ t + 17 → a ≠ t + 18 → I' a = I a) (e1 : I' (t + 17) = upd (I (t + 17)) w (nI b)) (e2 : I' (t + 18) = upd (I (t + 18)) w (nI c)) : dT I' t (cellU (cellU (cellU T 18 w 1) 19 w b) 20 w c) := by
  obtain ⟨d1, d2, d3⟩ := D
  refine ⟨fun τ hτ => ?_, ?_, fun w' hw' => ?_⟩
  · exact tbC_c (tbC_c (tbC_c (d1 τ hτ) hτ (by omega) rfl rfl rfl) hτ (by omega) rfl rfl rfl) hτ (by omega) (e0 _ (by omega) (by omega) (by omega) (by omega) (by omega)) (e0 _ (by omega) (by omega) (by omega) (by omega) (by omega)) (e0 _ (by omega) (by omega) (by omega) (by omega) (by omega))
  · rw [e0 t (by omega) (by omega) (by omega) (by omega) (by omega), cellU_ne (by omega), cellU_ne (by omega), cellU_ne (by omega), cellU_ne (by omega), cellU_ne (by omega), cellU_ne (by omega), cellU_ne (by omega), cellU_ne (by omega), cellU_ne (by omega)]
    exact d2
  · rw [e1, e2]
    by_cases ew : w' = w
    · subst ew
      rw [upd_at, upd_at, show cellU (cellU (cellU T 18 w' 1) 19 w' b) 20 w' c 18 w' = 1 by rw [cellU_ne (by omega), cellU_ne (by omega), cellU_at], show cellU (cellU (cellU T 18 w' 1) 19 w' b) 20 w' c 19 w' = b by rw [cellU_ne (by omega), cellU_at], cellU_at]
      exact ⟨fun h => by omega, fun _ => ⟨rfl, rfl⟩⟩
    · rw [upd_ne ew, upd_ne ew, cellU_ne (Or.inr ew), cellU_ne (Or.inr ew), cellU_ne (Or.inr ew), cellU_ne (Or.inr ew), cellU_ne (Or.inr ew), cellU_ne (Or.inr ew), cellU_ne (Or.inr ew), cellU_ne (Or.inr ew), cellU_ne (Or.inr ew)]
      exact d3 w' hw'
theorem wi_law (h : k ≤ 38) : (((0 : Int32) ≤ nI k - (9 : Int32) ∧ nI k - (9 : Int32) ≤ (2 : Int32)) = (9 ≤ k ∧ k ≤ 11)) ∧ (9 ≤ k → k ≤ 11 → nI k - (9 : Int32) = nI (k - 9)) := by
  have tab : ∀ k : Fin 39, (decide ((0 : Int32) ≤ nI k.1 - (9 : Int32) ∧ nI k.1 - (9 : Int32) ≤ (2 : Int32)) = decide (9 ≤ k.1 ∧ k.1 ≤ 11)) ∧ (9 ≤ k.1 → k.1 ≤ 11 → nI k.1 - (9 : Int32) = nI (k.1 - 9)) := by decide +kernel
  obtain ⟨t1, t2⟩ := tab ⟨k, by omega⟩
  exact ⟨propext (decide_eq_decide.1 t1), t2⟩
theorem c_lwl (hn : 239 ≤ n) (ht : t = 6 ∨ t = 29) (hL : cL B N t s x) (hM2 : x.2.2 < 4096) (hb : x.1.2.1.length = x.1.2.2) (h64 : x.1.2.2 ≤ 64) : lnC B N t s (bt (fX3_expect n (mk s) 3 (nI 8)) fun x40 h41 => bt (fX3_readLaw n h41 3) fun x42 h43 => some (.inl (), h43)) (lwlV B N x) := by
  obtain ⟨q, T, M⟩ := x
  obtain ⟨X, D, hM⟩ := hL
  have hb : q.2.1.length = q.2.2 := hb
  have h64 : q.2.2 ≤ 64 := h64
  unfold lwlV
  refine ln_bt ht (o_exp (k := 8) hn ht X (by omega)) frJ_r rfl ?_
  intro a s1 e1 f1 X1
  obtain ⟨-, rfl⟩ := ex_ok e1
  refine ln_id ?_
  have w1 : (adQ B N q).1.1 ≤ 38 := X1.2.2.2.1.1
  have k4 : s1.1 4 4 = nI (adQ B N q).1.1 := X1.2.2.1.1
  obtain ⟨wi, wv⟩ := wi_law w1
  have hM1 : s1.1 3 2 = nI M ∧ s1.1 3 3 = nI 0 ∧ s1.1 3 4 = m1 := by rw [f1.2.1 _ (by omega)]; exact hM
  show lnC B N t s1 _ (if 9 ≤ (adQ B N q).1.1 ∧ (adQ B N q).1.1 ≤ 11 then _ else _)
  unfold fX3_readLaw
  by_cases g : 9 ≤ (adQ B N q).1.1 ∧ (adQ B N q).1.1 ≤ 11
  · rw [if_pos g]
    have wt : ((0 : Int32) ≤ nI (adQ B N q).1.1 - (9 : Int32) ∧ nI (adQ B N q).1.1 - (9 : Int32) ≤ (2 : Int32)) = True := by rw [wi]; exact eq_true g
    have n1 : (nI 1 = (0 : Int32)) = False := by decide
    simp only [B_r0 hn, k4, c_isWithin, Option.bind_some, wt, if_true, n1, not_false_eq_true, ↓reduceIte]
    rw [wv g.1 g.2]
    unfold fX3_readLaw_25
    refine ln_bt ht (o_once hn ht X1 hM1.1 hM2 (by omega)) (frJ_w (by omega) (by omega)) (by rw [wI_ne (by omega)]) ?_
    intro b s2 e2 f2 X2
    obtain ⟨-, rfl⟩ := on_ok e2
    have r2 := B_31 hn ht X2.2.1
    have ln2 : (adQ B N (adQ B N q)).2.1 = q.2.1 := rfl
    have kc2 : (adQ B N (adQ B N q)).2.2 = q.2.2 := rfl
    have l2 : s2.1 (t + 16) 4 = nI q.2.1.length := X2.2.2.2.2.1
    simp (disch := first | omega | assumption | (simp only [wL_1, wL_22, wI_2, wA_2, wQ_1, wQ_21] <;> first | assumption | omega)) only [LIT, LITm, nI_add, n_mul, fa_or, n_31m, n_shl0, n_le, n_lt, n_eq, Option.bind_some, r2, B_t hn ht, l2]
    have X3 : cX B N t (wI s2 (t + 17) ((adQ B N q).1.1 - 9) (nI q.2.1.length)) (adQ B N (adQ B N q)) := cX_w X2 ht (by omega) (by omega) (by omega) (by omega) (by omega) (by omega) (by omega)
    refine lnC_t (s1 := wI s2 (t + 17) ((adQ B N q).1.1 - 9) (nI q.2.1.length)) (frJ_w (by omega) (by omega)) (by rw [wI_ne (by omega)]) ?_
    obtain ⟨r, hr⟩ := plE_t (B := B) (N := N) (q := adQ B N (adQ B N q)) h64
    have ce := c_expr hn ht (q := adQ B N (adQ B N q)) h64 (by rw [ln2, kc2]; omega) X3 hr
    have ed : exD B N (adQ B N (adQ B N q)) = r := by unfold exD; rw [hr]; rfl
    rw [ed]
    cases r with
    | error e => exact bt_er (ce : erC t _ _ e)
    | ok c =>
      obtain ⟨s4, e4, f4, X4⟩ := ce
      rw [bt_ok e4]
      have r4 := B_31 hn ht X4.2.1
      have l4 := X4.2.2.2.2.1
      refine ⟨wI s4 (t + 18) ((adQ B N q).1.1 - 9) (nI c.2.1.length), ?_, ?_, ⟨?_, ?_, ?_⟩, ?_⟩
      · simp (disch := first | omega | assumption | (simp only [wL_1, wL_22, wI_2, wA_2, wQ_1, wQ_21] <;> first | assumption | omega)) only [LIT, LITm, nI_add, n_mul, fa_or, n_31m, n_shl0, n_le, n_lt, n_eq, Option.bind_some, r4, B_t hn ht, l4]
      · exact frJ_t (frX_J f4) (frJ_w (by omega) (by omega))
      · exact cX_w X4 ht (by omega) (by omega) (by omega) (by omega) (by omega) (by omega) (by omega)
      · refine dT_law D (by omega) (fun a h1 h2 h3 h4 h5 => ?_) ?_ ?_
        · rw [wI_ne h5, f4.2.1 a (by omega) h3 (by omega) (by omega), wI_ne h4, f2.2.1 a (by omega), wI_ne (by omega), f1.2.1 a (by omega)]
        · rw [wI_ne (by omega), f4.2.1 _ (by omega) (by omega) (by omega) (by omega), wI_at, f2.2.1 _ (by omega), wI_ne (by omega), f1.2.1 _ (by omega)]
          rfl
        · rw [wI_at, f4.2.1 _ (by omega) (by omega) (by omega) (by omega), wI_ne (by omega), f2.2.1 _ (by omega), wI_ne (by omega), f1.2.1 _ (by omega)]
      · rw [wI_ne (by omega), f4.2.1 _ (by omega) (by omega) (by omega) (by omega), wI_ne (by omega), f2.2.1 _ (by omega), wI_at, upd_at, upd_ne (by omega), upd_ne (by omega)]
        exact ⟨rfl, hM1.2⟩
      · rw [wI_ne (by omega), f4.2.1 _ (by omega) (by omega) (by omega) (by omega)]
  · rw [if_neg g]
    have wt : ((0 : Int32) ≤ nI (adQ B N q).1.1 - (9 : Int32) ∧ nI (adQ B N q).1.1 - (9 : Int32) ≤ (2 : Int32)) = False := by rw [wi]; exact eq_false g
    have n1 : (nI 0 = (0 : Int32)) = True := by decide
    have fl := bt_er (c_fail (t := t) (k := 1) hn X1.2.2.1) (f := fun (x4 : Unit) h5 => fX3_readLaw_25 n h5 3 (nI (adQ B N q).1.1 - (9 : Int32)))
    simp only [B_r0 hn, k4, c_isWithin, Option.bind_some, wt, if_false, n1, not_true_eq_false, ↓reduceIte]
    exact fl
/-- any line -/
theorem c_ln0 (hn : 239 ≤ n) (ht : t = 6 ∨ t = 29) (hL : cL B N t s x) (hW : WX x.2.1) (hM2 : x.2.2 < 4096) (hb : x.1.2.1.length = x.1.2.2) (h64 : x.1.2.2 ≤ 64) : lnC B N t s (fX3_readLine n (mk s) 3) (ln0 B N x) := by
  have w1 := hL.1.2.2.2.1.1
  have k4 := hL.1.2.2.1.1
  have r0 := B_31 hn ht hL.1.2.1
  have ne : ∀ j : Nat, j < 100 → x.1.1.1 ≠ j → ¬ nI x.1.1.1 = nI j := fun j hj h => by rw [n_eq (by omega) (by omega)]; exact h
  have l8 : (8 : Int32) = nI 8 := rfl
  have ck : ∀ (k : Nat) (lo hi : Int32) (lo' hi' : Nat), lo = nI lo' → hi = nI hi' → (k = 6 ∨ k = 7 ∨ k = 8) → lo' ≤ 99999 → hi' ≤ 99999 → x.1.1.1 < 12 → lnC B N t s (bt (fX3_beginOnce n (mk s) 3) fun x22 h23 => (pR n h23 3 3 1).bind fun x24 => bt (fX3_readNumber n h23 3 lo hi) fun x25 h26 => (sF n h26 x24 8 k (.int) (.int x25)).bind fun h27 => some (.inl (), h27)) (oncV B N k lo' hi' x) := by
    rintro k lo hi lo' hi' rfl rfl h1 h2 h3 h4
    exact c_onc hn ht hL hM2 h4 h1 h2 h3
  unfold fX3_readLine ln0
  rw [(B_r0 hn).1, Option.bind_some, (B_r0 hn).2.1, Option.bind_some, (B_r0 hn).2.2.1, Option.bind_some, k4]
  by_cases c0 : x.1.1.1 = 0
  · rw [if_pos c0, if_pos (show nI x.1.1.1 = (0 : Int32) by rw [c0]; rfl), r0, Option.bind_some]
    have b0 : pR n (mk s) t 8 0 = some (t + 1) := by simp only [B_t hn ht]
    rw [b0, Option.bind_some]
    exact c_pla hn ht hL hW
  rw [if_neg c0, if_neg (show ¬ nI x.1.1.1 = (0 : Int32) from ne 0 (by omega) c0)]
  by_cases c1 : x.1.1.1 = 1
  · rw [if_pos c1, if_pos (show nI x.1.1.1 = (1 : Int32) by rw [c1]; rfl)]
    exact ln_id (c_pat hn ht hL hW)
  rw [if_neg c1, if_neg (show ¬ nI x.1.1.1 = (1 : Int32) from ne 1 (by omega) c1)]
  by_cases c2 : x.1.1.1 = 2
  · rw [if_pos c2, if_pos (show nI x.1.1.1 = (2 : Int32) by rw [c2]; rfl)]
    exact ln_id (c_wkr hn ht hL hW)
  rw [if_neg c2, if_neg (show ¬ nI x.1.1.1 = (2 : Int32) from ne 2 (by omega) c2)]
  by_cases c3 : x.1.1.1 = 3
  · rw [if_pos c3, if_pos (show nI x.1.1.1 = (3 : Int32) by rw [c3]; rfl)]
    exact ln_id (c_wlk hn ht hL hW)
  rw [if_neg c3, if_neg (show ¬ nI x.1.1.1 = (3 : Int32) from ne 3 (by omega) c3)]
  by_cases c4 : x.1.1.1 = 4
  · rw [if_pos c4, if_pos (show nI x.1.1.1 = (4 : Int32) by rw [c4]; rfl)]
    exact ln_id (c_bul hn ht hL hW)
  rw [if_neg c4, if_neg (show ¬ nI x.1.1.1 = (4 : Int32) from ne 4 (by omega) c4)]
  by_cases c5 : x.1.1.1 = 5
  · rw [if_pos c5, if_pos (show nI x.1.1.1 = (5 : Int32) by rw [c5]; rfl)]
    exact ck 6 1 400 1 400 rfl rfl (by omega) (by omega) (by omega) (by omega)
  rw [if_neg c5, if_neg (show ¬ nI x.1.1.1 = (5 : Int32) from ne 5 (by omega) c5)]
  by_cases c6 : x.1.1.1 = 6
  · rw [if_pos c6, if_pos (show nI x.1.1.1 = (6 : Int32) by rw [c6]; rfl)]
    exact ck 7 0 100 0 100 rfl rfl (by omega) (by omega) (by omega) (by omega)
  rw [if_neg c6, if_neg (show ¬ nI x.1.1.1 = (6 : Int32) from ne 6 (by omega) c6)]
  by_cases c7 : x.1.1.1 = 7
  · rw [if_pos c7, if_pos (show nI x.1.1.1 = (7 : Int32) by rw [c7]; rfl)]
    exact ck 8 0 99999 0 99999 rfl rfl (by omega) (by omega) (by omega) (by omega)
  rw [if_neg c7, if_neg (show ¬ nI x.1.1.1 = (7 : Int32) from ne 7 (by omega) c7)]
  exact c_lwl hn ht hL hM2 hb h64
end Cr6
