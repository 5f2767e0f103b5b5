/-! ===== the text, by the class: the call ===== -/
section Cd4
variable {n N k a m t i c : Nat} {B f : Nat → Nat} {s s' s0 s1 s2 : zS} {T : zT} {I I' : Nat → Nat → Int32} {x y : zX} {o o' : List (Nat × Nat)} {A : zA}
theorem ls_at : ∀ (o : List (Nat × Nat)), lsC I t o → ∀ i, i < o.length → I (t + 19) i = nI (o.getD (o.length - (i + 1)) (0, 0)).1 ∧ I (t + 20) i = nI (o.getD (o.length - (i + 1)) (0, 0)).2
  | [], _, i, h => absurd h (Nat.not_lt_zero _)
  | z :: o, h, i, hi => by
    have hi : i < o.length + 1 := hi
    by_cases e : i = o.length
    · subst e
      rw [List.length_cons, Nat.sub_self]
      exact h.1
    · have g := ls_at o h.2 i (by omega)
      rw [List.length_cons, show o.length + 1 - (i + 1) = (o.length - (i + 1)) + 1 by omega, List.getD_cons_succ]
      exact g
/-- the class's draft, read whole, is what is told -/
theorem cL_Td (hI : IV N c x) (h : cL B N t s x) : cTd s.1 t (fnT x) := by
  obtain ⟨⟨-, -, -, -, -, h5, h6⟩, ⟨d1, d2, d3⟩, -⟩ := h
  have f0 : ∀ i, i ≠ 5 → fnT x 0 i = x.2.1 0 i := fun i hi => fn_o (by omega) (by omega) (Or.inr hi)
  have fa : ∀ a i, a ≠ 0 → a ≠ 21 → a ≠ 22 → fnT x a i = x.2.1 a i := fun a i h1 h2 h3 => fn_o h2 h3 (Or.inl h1)
  have e1 : t + 1 + 3 * 0 = t + 1 := by omega
  have e2 : t + 1 + 3 * 1 = t + 4 := by omega
  have e3 : t + 1 + 3 * 2 = t + 7 := by omega
  have e4 : t + 1 + 3 * 3 = t + 10 := by omega
  have e5 : t + 1 + 3 * 4 = t + 13 := by omega
  have t0 := d1 0 (by omega)
  have t1 := d1 1 (by omega)
  have t2 := d1 2 (by omega)
  have t3 := d1 3 (by omega)
  have t4 := d1 4 (by omega)
  rw [e1] at t0
  rw [e2] at t1
  rw [e3] at t2
  rw [e4] at t3
  rw [e5] at t4
  refine ⟨?_, ⟨?_, ?_⟩, fun i hi => ?_, fun p hp => ⟨?_, fun c hc => ?_⟩, fun w hw => ⟨?_, fun c hc => ?_⟩, fun k hk c hc => ?_, fun b hb c hc => ?_, fun w hw => ⟨fun g => ?_, fun g => ?_⟩⟩
  · rw [f0 0 (by omega), f0 1 (by omega), f0 2 (by omega), f0 3 (by omega), f0 4 (by omega)]
    exact ⟨t0.1, t1.1, t2.1, t3.1, t4.1⟩
  · rw [fn_5, hI.2.1.1]; exact h5
  · rw [f0 6 (by omega), f0 7 (by omega), f0 8 (by omega)]; exact d2
  · rw [f0 0 (by omega)] at hi
    rw [fa 1 i (by omega) (by omega) (by omega)]; exact (t0.2 i hi).1 (by omega)
  · rw [f0 1 (by omega)] at hp
    rw [fa 2 p (by omega) (by omega) (by omega)]; exact (t1.2 p hp).1 (by omega)
  · rw [f0 1 (by omega)] at hp
    rw [fa (3 + c) p (by omega) (by omega) (by omega)]; exact (t1.2 p hp).2 c hc
  · rw [f0 2 (by omega)] at hw
    rw [fa 8 w (by omega) (by omega) (by omega)]; exact (t2.2 w hw).1 (by omega)
  · rw [f0 2 (by omega)] at hw
    rw [fa (9 + c) w (by omega) (by omega) (by omega)]; exact (t2.2 w hw).2 c hc
  · rw [f0 3 (by omega)] at hk
    rw [fa (12 + c) k (by omega) (by omega) (by omega)]; exact (t3.2 k hk).2 c hc
  · rw [f0 4 (by omega)] at hb
    rw [fa (15 + c) b (by omega) (by omega) (by omega)]; exact (t4.2 b hb).2 c hc
  · rw [fa 18 w (by omega) (by omega) (by omega)] at g
    exact (d3 w hw).1 g
  · rw [fa 18 w (by omega) (by omega) (by omega)] at g
    rw [fa 19 w (by omega) (by omega) (by omega), fa 20 w (by omega) (by omega) (by omega)]
    obtain ⟨g1, g2⟩ := (d3 w hw).2 g
    refine ⟨g1, g2, fun i h1 h2 => ?_⟩
    have l := ((hI.2.2.2.2 w hw).2 g).2
    exact ls_at x.1.2.1 h6 i (by omega)
theorem c_textN (hn : 239 ≤ n) (hK : cK s t A) (hwf : wfA A) {v : Int32} (h : v < 0 ∨ nI (aB A).1 < v) : bi_sp 308 91 [.ref 1, .int v] (mk s) n (.inl (some (.int (-2))), mk s, n, 0, 0) := by
  have hB := hwf.2.2.2.2.1.1
  have p1 : pI n (mk s) 1 10 1 = some (nI (aB A).1) := by
    have e : pI n (mk s) 1 10 1 = some (s.1 1 1) := by simp only [B_K hn]
    rw [e, hK.2.2.2.2.2.2.1.1]
  refine lz_en (T := tX10_text) rfl (Nat.le_of_ble_eq_true rfl) (D := 307) ?_
  refine lz_il (pc := 0) rfl rfl ?_
  by_cases h0 : v < 0
  · exact lz_b1t rfl (decide_eq_true h0) (lz_pi rfl (lz_ret rfl rfl rfl))
  · have h1 : nI (aB A).1 < v := by
      rcases h with h | h
      · exact absurd h h0
      · exact h
    refine lz_b1f rfl (decide_eq_false h0) (lz_il rfl rfl (lz_al rfl rfl (lz_gfI rfl p1 (lz_b2f rfl (decide_eq_false (fun g => ?_)) (lz_pi rfl (lz_ret rfl rfl rfl))))))
    rw [Int32.le_iff_toInt_le] at g
    rw [Int32.lt_iff_toInt_lt] at h1
    omega
/-- what the class's text gives -/
theorem c_textC (hn : 239 ≤ n) (hw : ∀ k, k < 22 → s.1 5 k = nI (WD k)) (hK : cK s t A) (hwf : wfA A) (hwf' : WT (aT (txN A N).2)) (hN : N ≤ (aB A).1) : ∃ (s' : zS) (t' c1 s1 : Nat), bi_sp 308 91 [.ref 1, .int (nI N)] (mk s) n (.inl (some (.int (txN A N).1)), mk s', n, c1, s1) ∧ c1 ≤ 1 ∧ s1 ≤ 6 ∧ frC s s' ∧ cK s' t' (txN A N).2 := by
  obtain ⟨-, -, -, -, ⟨hB7, hB⟩, -⟩ := hwf
  obtain ⟨k1, k2, k3, k4, k5, k6, k7, k8, k9⟩ := hK
  obtain ⟨u, hu, hut, ht', ht⟩ : ∃ u, s.2.2 1 4 = u ∧ ((t = 6 ∧ u = 29) ∨ (t = 29 ∧ u = 6)) ∧ (u = 6 ∨ u = 29) ∧ (t = 6 ∨ t = 29) := by
    rcases k1 with ⟨h1, h2⟩ | ⟨h1, h2⟩
    · exact ⟨29, h2, Or.inl ⟨h1, rfl⟩, Or.inr rfl, Or.inl h1⟩
    · exact ⟨6, h2, Or.inr ⟨h1, rfl⟩, Or.inl rfl, Or.inr h1⟩
  obtain ⟨sa, ea⟩ : ∃ sa : zS, sa = wI s 1 1 (nI 0) := ⟨_, rfl⟩
  have oa : ∀ b, b ≠ 1 → sa.1 b = s.1 b := fun b h => by rw [ea, wI_ne h]
  have oa1 : ∀ j, j ≠ 1 → sa.1 1 j = s.1 1 j := fun j h => by rw [ea, wI_at, upd_ne h]
  have oaq : sa.2 = s.2 := by rw [ea]; rfl
  have rt := c_rtext (n := n) (s := sa) (t := u) (N := N) (B := (aB A).2) hn ht' (by omega) (fun k hk => by rw [oa 5 (by omega)]; exact hw k hk) hB (fun i hi => by rw [oa 2 (by omega)]; exact k7.2 i (by omega))
  have pI1 : ∀ s, pI n (mk s) 1 10 1 = some (s.1 1 1) := fun s => by simp only [B_K hn]
  have w1 : ∀ (s : zS) (x : Int32), sF n (mk s) 1 10 1 .int (.int x) = some (mk (wI s 1 1 x)) := fun s x => by simp only [B_K hn]
  have r0 : ∀ s, pR n (mk s) 1 10 0 = some 2 := fun s => (B_K hn).2.1 s
  have r2 : ∀ s, pR n (mk s) 1 10 2 = some 3 := fun s => (B_K hn).2.2.2.2.1 s
  have r3 : ∀ s, pR n (mk s) 1 10 3 = some (s.2.2 1 3) := fun s => (B_K hn).2.2.2.2.2.1 s
  have r4 : ∀ s, pR n (mk s) 1 10 4 = some (s.2.2 1 4) := fun s => (B_K hn).2.2.2.2.2.2.2.1 s
  have w3 : ∀ (s : zS) (x : Nat), sF n (mk s) 1 10 3 (.object "PathsKept$Told") (.ref x) = some (mk (wQ s 1 3 x)) := (B_K hn).2.2.2.2.2.2.1
  have w4 : ∀ (s : zS) (x : Nat), sF n (mk s) 1 10 4 (.object "PathsKept$Told") (.ref x) = some (mk (wQ s 1 4 x)) := (B_K hn).2.2.2.2.2.2.2.2.1
  have r5 : ∀ s, pR n (mk s) 1 10 5 = some 52 := (B_K hn).2.2.2.2.2.2.2.2.2.1
  have w8 : ∀ s : zS, sF n (mk s) 1 10 8 .boolean (.int 0) = some (mk (wI s 1 8 0)) := fun s => by simp only [B_K hn]
  have w10 : ∀ (s : zS) (x : Int32), sF n (mk s) 1 10 10 .int (.int x) = some (mk (wI s 1 10 x)) := fun s x => by simp only [B_K hn]
  have r12 : ∀ s, pR n (mk s) 1 10 12 = some 70 := fun s => by simp only [B_K hn]
  have g0 : ¬ nI N < (0 : Int32) := by
    show ¬ nI N < nI 0
    rw [n_lt (by omega) (by omega)]; omega
  have g1 : nI N ≤ nI (aB A).1 := by rw [n_le (by omega) (by omega)]; exact hN
  have e11 : pI n (mk s) 1 10 1 = some (nI (aB A).1) := by rw [pI1, k7.1]
  have e4 : pR n (mk sa) 1 10 4 = some u := by rw [r4, oaq, hu]
  have head : ∀ (o : ai_Ou) , (lz 307 tX10_text (ai_Hd 91) o 33 (lv_args 0 [.ref 1, .int (nI N)]) [.ref u, .int (nI N), .ref 2, .ref 3] (mk sa, n, 0, 0)) → bi_sp 308 91 [.ref 1, .int (nI N)] (mk s) n o := fun o g => by
    refine lz_en (T := tX10_text) rfl (Nat.le_of_ble_eq_true rfl) (D := 307) ?_
    refine lz_il (pc := 0) rfl rfl (lz_b1f rfl (decide_eq_false g0) (lz_il rfl rfl (lz_al rfl rfl (lz_gfI rfl e11 (lz_b2t rfl (decide_eq_true g1) ?_)))))
    refine lz_al (pc := 15) rfl rfl (lz_pi rfl (lz_pf (h1 := mk sa) rfl (by rw [ea]; exact w1 s (nI 0)) ?_))
    exact lz_al (pc := 20) rfl rfl (lz_gfR rfl (r2 sa) (lz_al rfl rfl (lz_gfR rfl (r0 sa) (lz_il rfl rfl (lz_al rfl rfl (lz_gfR rfl e4 g))))))
  unfold txN at hwf' ⊢
  cases hr : txA (aB A).2 N with
  | error e =>
    rw [hr] at rt hwf'
    obtain ⟨s2, c1, c2, c3, c4⟩ := rt
    refine ⟨s2, t, 1, 6, head _ ?_, Nat.le_refl _, Nat.le_refl _, ?_, ?_⟩
    · refine lz_ivX (pc := 33) rfl rfl (gX3_readText c1) (Nat.le_of_ble_eq_true rfl) (bi_up (sX3_readText c1) (by decide)) rfl ?_
      exact lz_pi (pc := 40) rfl (lz_ret rfl rfl rfl)
    · refine ⟨fun a ha => ⟨?_, ?_, ?_⟩, ?_⟩
      · by_cases e5 : a = 5
        · subst e5
          rw [c2.1 5 (by omega) (by omega) (by omega), oa 5 (by omega)]
        · rw [c2.1 a (by omega) (by omega) (by omega), oa a (by omega)]
      · rw [c2.2.1, oaq]
      · rw [c2.2.2 a (by omega) (by omega), oaq]
      · rw [c2.2.2 1 (by omega) (by omega), oaq]
    · have o2 : ∀ b, (b < u ∨ u + 22 < b) → b ≠ 1 → b ≠ 3 → b ≠ 4 → s2.1 b = s.1 b := fun b h1 h2 h3 h4 => by rw [c2.1 b h1 h3 h4, oa b h2]
      have o21 : ∀ j, j ≠ 1 → s2.1 1 j = s.1 1 j := fun j hj => by rw [c2.1 1 (by omega) (by omega) (by omega), oa1 j hj]
      have q2 : ∀ b, b ≠ 3 → b ≠ 4 → s2.2.2 b = s.2.2 b := fun b h1 h2 => by rw [c2.2.2 b h1 h2, oaq]
      refine ⟨by rw [q2 1 (by omega) (by omega)]; exact k1, by rw [q2 1 (by omega) (by omega)]; exact k2, cTd_fr k3 (fun a h1 h2 => o2 a (by omega) (by omega) (by omega) (by omega)), cSd_fr k4 (fun a h1 h2 => o2 a (by omega) (by omega) (by omega) (by omega)), ⟨?_, fun g => cSd_fr (k5.2 g) (fun a h1 h2 => o2 a (by omega) (by omega) (by omega) (by omega))⟩, ⟨?_, k6.2.1, ?_, ?_, fun i hi => ?_⟩, ⟨?_, fun i hi => absurd hi (Nat.not_lt_zero _)⟩, ⟨c3, c4⟩, ⟨?_, ?_, fun i hi => ?_⟩⟩
      · rw [o21 8 (by omega)]; exact k5.1
      · rw [o21 10 (by omega)]; exact k6.1
      · rw [q2 67 (by omega) (by omega)]; exact k6.2.2.1
      · rw [q2 67 (by omega) (by omega)]; exact k6.2.2.2.1
      · rw [q2 67 (by omega) (by omega)]
        have hi : i < (aP A).1 := hi
        obtain ⟨k, hk, e⟩ := k6.2.2.1 i (by have := k6.2.1; omega)
        exact cSd_fr (k6.2.2.2.2 i hi) (fun a h1 h2 => o2 a (by omega) (by omega) (by omega) (by omega))
      · show s2.1 1 1 = nI 0
        rw [c2.1 1 (by omega) (by omega) (by omega), ea, wI_at, upd_at]
      · rw [o2 70 (by omega) (by omega) (by omega) (by omega)]; exact k9.1
      · rw [o2 70 (by omega) (by omega) (by omega) (by omega)]; exact k9.2.1
      · rw [o2 71 (by omega) (by omega) (by omega) (by omega), o2 72 (by omega) (by omega) (by omega) (by omega), o2 73 (by omega) (by omega) (by omega) (by omega), o2 74 (by omega) (by omega) (by omega) (by omega)]; exact k9.2.2 i hi
  | ok z =>
    rw [hr] at rt hwf'
    obtain ⟨s2, c1, c2, c3, c4, c5, c6, c7⟩ := rt
    have hW : WT (fnT z.2) := hwf'
    have q2 : ∀ b, b ≠ 3 → b ≠ 4 → s2.2.2 b = s.2.2 b := fun b h1 h2 => by rw [c2.2.2 b h1 h2, oaq]
    obtain ⟨s3, e3⟩ : ∃ s3 : zS, s3 = wQ (wQ s2 1 3 u) 1 4 t := ⟨_, rfl⟩
    have o31 : s3.1 = s2.1 := by rw [e3]; rfl
    have q31 : s3.2.1 = s2.2.1 := by rw [e3]; rfl
    have q3 : ∀ b, b ≠ 1 → s3.2.2 b = s2.2.2 b := fun b h => by rw [e3, wQ_ne h, wQ_ne h]
    have q13 : s3.2.2 1 3 = u := by
      rw [e3, wQ_at]
      unfold va_up
      rw [if_neg (by omega), wQ_at]
      unfold va_up
      rw [if_pos rfl]
    have q14 : s3.2.2 1 4 = t := by
      rw [e3, wQ_at]
      unfold va_up
      rw [if_pos rfl]
    have q1o : ∀ j, j ≠ 3 → j ≠ 4 → s3.2.2 1 j = s.2.2 1 j := fun j h1 h2 => by
      rw [e3, wQ_at]
      unfold va_up
      rw [if_neg h2, wQ_at]
      unfold va_up
      rw [if_neg h1, q2 1 (by omega) (by omega)]
    have hT3 : cTd s3.1 u (fnT z.2) := by rw [o31]; exact cL_Td c5 c3
    obtain ⟨s4, d1, d2, d3⟩ := c_sbeg (n := n) (o := 52) hn ht' (Or.inl rfl) hW hT3
    obtain ⟨s5, e5⟩ : ∃ s5 : zS, s5 = wI (wI (wI (wI s4 70 5 (nI 0)) 70 6 m1) 1 8 0) 1 10 (nI 0) := ⟨_, rfl⟩
    have em : fX4_empty n (mk s4) 70 = some ((), mk (wI (wI s4 70 5 (nI 0)) 70 6 m1)) := by
      unfold fX4_empty
      simp (disch := first | omega | assumption | (simp only [wL_1, wL_22, wI_2, wA_2, wQ_1, wQ_21] <;> first | assumption | omega)) only [LIT, LITm, nI_add, n_mul, fa_or, n_31m, n_shl0, n_le, n_lt, n_eq, Option.bind_some, B_sn hn]
    have e13 : pR n (mk s2) 1 10 3 = some t := by rw [r3, q2 1 (by omega) (by omega), k2]
    have e14 : pR n (mk s2) 1 10 4 = some u := by rw [r4, q2 1 (by omega) (by omega), hu]
    have p9 : pI n (mk s5) u 8 9 = some (nI z.1) := by
      have p9 : pI n (mk s5) u 8 9 = some (s5.1 u 9) := by simp only [B_t hn ht']
      rw [p9, e5, wI_ne (by omega), wI_ne (by omega), wI_ne (by omega), wI_ne (by omega), d2.1 u (by omega), o31, c4]
    have o5 : ∀ b, b ≠ 1 → b ≠ 70 → s5.1 b = s4.1 b := fun b h1 h2 => by rw [e5, wI_ne h1, wI_ne h1, wI_ne h2, wI_ne h2]
    have q5 : s5.2 = s3.2 := by rw [e5]; show s4.2 = _; exact d2.2
    have o52 : ∀ b, (b < u ∨ u + 22 < b) → (b < 52 ∨ 56 < b) → b ≠ 1 → b ≠ 3 → b ≠ 4 → b ≠ 70 → s5.1 b = s.1 b := fun b h1 h2 h3 h4 h5 h6 => by
      rw [o5 b h3 h6, d2.1 b (by omega), o31, c2.1 b h1 h4 h5, oa b h3]
    refine ⟨s5, u, 0, 0, head _ ?_, Nat.zero_le _, Nat.zero_le _, ?_, ?_⟩
    · refine lz_iv (pc := 33) (v := none) rfl rfl (gX3_readText c1) (Nat.le_of_ble_eq_true rfl) (bi_up (sX3_readText c1) (by decide)) ?_
      refine lz_goto (pc := 36) rfl (lz_al rfl rfl (lz_gfR rfl e13 (lz_as rfl ?_)))
      refine lz_al (pc := 47) rfl rfl (lz_al rfl rfl (lz_gfR rfl e14 (lz_pf rfl (w3 s2 u) ?_)))
      refine lz_al (pc := 55) rfl rfl (lz_al rfl rfl (lz_pf (h1 := mk s3) rfl (by rw [e3]; exact w4 _ t) ?_))
      refine lz_al (pc := 60) rfl rfl (lz_gfR rfl (r5 s3) (lz_al rfl rfl (lz_gfR rfl (by rw [r3, q13]) ?_)))
      refine lz_iv (pc := 68) (v := none) rfl rfl (gX5_begin d1) (Nat.le_of_ble_eq_true rfl) (bi_up (sX5_begin d1) (Nat.le_of_ble_eq_true rfl)) ?_
      refine lz_al (pc := 71) rfl rfl (lz_gfR rfl (r12 s4) (lz_iv (v := none) rfl rfl (gX4_empty em) (Nat.le_of_ble_eq_true rfl) (bi_up (sX4_empty em) (Nat.le_of_ble_eq_true rfl)) ?_))
      refine lz_al (pc := 78) rfl rfl (lz_pi rfl (lz_pf rfl (w8 _) ?_))
      refine lz_al (pc := 83) rfl rfl (lz_pi rfl (lz_pf (h1 := mk s5) rfl (by rw [e5]; exact w10 _ (nI 0)) ?_))
      refine lz_al (pc := 88) rfl rfl (lz_gfR rfl (by rw [r3, q5, q13]) (lz_gfI rfl p9 ?_))
      exact lz_ret rfl rfl rfl
    · refine ⟨fun a ha => ⟨?_, ?_, ?_⟩, ?_⟩
      · by_cases e5 : a = 5
        · subst e5
          exact o52 5 (by omega) (by omega) (by omega) (by omega) (by omega) (by omega)
        · exact o52 a (by omega) (by omega) (by omega) (by omega) (by omega) (by omega)
      · rw [q5, q31, c2.2.1, oaq]
      · rw [q5, q3 a (by omega), q2 a (by omega) (by omega)]
      · rw [q5, q1o 14 (by omega) (by omega)]
    · have z1 : ∀ j, j ≠ 8 → j ≠ 10 → s5.1 1 j = s2.1 1 j := fun j h1 h2 => by
        rw [e5, wI_at, upd_ne h2, wI_at, upd_ne h1, wI_ne (by omega), wI_ne (by omega), d2.1 1 (by omega), o31]
      refine ⟨?_, by rw [q5]; exact q13, cTd_fr hT3 (fun a h1 h2 => by rw [o5 a (by omega) (by omega), d2.1 a (by omega)]), cSd_fr d3 (fun a h1 h2 => o5 a (by omega) (by omega)), ⟨?_, (fun h => by cases h)⟩, ⟨?_, Nat.zero_le _, ?_, ?_, fun i hi => absurd hi (Nat.not_lt_zero _)⟩, ⟨?_, fun i hi => absurd hi (Nat.not_lt_zero _)⟩, ⟨?_, ?_⟩, ⟨?_, ?_, fun i hi => absurd hi (Nat.not_lt_zero _)⟩⟩
      · rw [q5, q14]; omega
      · show s5.1 1 8 = nI 0
        rw [e5, wI_at, upd_ne (by omega), wI_at, upd_at]; rfl
      · show s5.1 1 10 = nI 0
        rw [e5, wI_at, upd_at]
      · rw [q5, q3 67 (by omega), q2 67 (by omega) (by omega)]; exact k6.2.2.1
      · rw [q5, q3 67 (by omega), q2 67 (by omega) (by omega)]; exact k6.2.2.2.1
      · show s5.1 1 1 = nI 0
        rw [z1 1 (by omega) (by omega), c2.1 1 (by omega) (by omega) (by omega), ea, wI_at, upd_at]
      · show s5.1 3 3 = nI 0
        rw [o5 3 (by omega) (by omega), d2.1 3 (by omega), o31]; exact c6
      · show s5.1 3 4 = m1
        rw [o5 3 (by omega) (by omega), d2.1 3 (by omega), o31]; exact c7
      · show s5.1 70 5 = nI 0
        rw [e5, wI_ne (by omega), wI_ne (by omega), wI_at, upd_ne (by omega), wI_at, upd_at]
      · show s5.1 70 6 = m1
        rw [e5, wI_ne (by omega), wI_ne (by omega), wI_at, upd_at]
end Cd4
