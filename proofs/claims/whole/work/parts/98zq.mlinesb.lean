/-! ===== lines on the reference: laws; any line ===== -/
section Mq11
variable {n N k l op a r p m L v b τ M i c : Nat} {B f : Nat → Nat} {s s' s0 s1 s2 : zS} {q q' : zQ} {tok : zK} {T : zT} {I I' : Nat → Nat → Int32} {cs : List Nat} {x y : zX} {o o' : List (Nat × Nat)}
theorem tk_1 (hT : mTk s tok) (hz : tok.1 ≤ 38) : (s.1 187 8 = nI 1 ↔ tok.1 < 22) ∧ (tok.1 < 22 → s.1 187 9 = nI (sw tok.1)) := by
  have ne : ∀ v, v < 100 → v ≠ 1 → s.1 187 8 = nI v → ¬ tok.1 < 22 → (s.1 187 8 = nI 1 ↔ tok.1 < 22) ∧ (tok.1 < 22 → s.1 187 9 = nI (sw tok.1)) := fun v h1 h2 h3 h4 => by
    rw [h3, n_eq (by omega) (by omega)]
    exact ⟨⟨fun g => absurd g h2, fun g => absurd g h4⟩, fun g => absurd g h4⟩
  rcases hT.1 with ⟨e, b⟩ | ⟨e, b, c⟩ | ⟨e, b, c⟩ | ⟨e, b, c⟩ | ⟨e, e', b, c⟩ | ⟨e, b, c⟩ | ⟨e, b⟩
  · exact ne 0 (by omega) (by omega) b (by omega)
  · exact ⟨⟨fun _ => e, fun _ => b⟩, fun _ => c⟩
  · exact ne 2 (by omega) (by omega) b (by omega)
  · exact ne 3 (by omega) (by omega) b (by omega)
  · exact ne 5 (by omega) (by omega) b (by omega)
  · have sl : ∀ k : Fin 39, sgC k.1 ≠ 0 → 24 ≤ k.1 := by decide +kernel
    have : 24 ≤ tok.1 := sl ⟨tok.1, by omega⟩ e
    exact ne 4 (by omega) (by omega) b (by omega)
  · rcases b with b | ⟨b, _⟩
    · exact ne 6 (by omega) (by omega) b (by omega)
    · exact ne 4 (by omega) (by omega) b (by omega)
theorem mG_f (h : mG I T M) (e0 : ∀ b, 190 ≤ b → b ≤ 211 → I' b = I b) (e1 : ∀ j, 18 ≤ j → j ≤ 22 → I' 187 j = I 187 j) : mG I' T M := by
  obtain ⟨h1, h2, h3, h4⟩ := h
  refine ⟨fun τ hτ => ?_, by rw [e0 191 (by omega) (by omega)]; exact h2, by rw [e0 190 (by omega) (by omega)]; exact h3, by rw [e0 209 (by omega) (by omega), e0 210 (by omega) (by omega), e0 211 (by omega) (by omega)]; exact h4⟩
  obtain ⟨g1, g2⟩ := h1 τ hτ
  have := aF1 hτ
  refine ⟨by rw [e1 _ (by omega) (by omega)]; exact g1, fun i hi c hc => ?_⟩
  rw [e0 _ (by omega) (by omega)]
  exact g2 i hi c hc
theorem mL_R (hL : mL B N s (q, T, M)) (f : frR s s1) (hH : mHd B N s1 q'.1) (e : q'.2 = q.2) : mL B N s1 (q', T, M) := by
  obtain ⟨h1, h2, ⟨h3, h4, h45⟩, h5⟩ := hL
  refine ⟨hH, mG_f h2 (fun b g1 g2 => f.2.1 b (by omega)) (fun j g1 g2 => f.2.2 j (by omega) (by omega) (by omega) (by omega)), ⟨?_, ?_, ?_, ?_⟩, fun w hw g => ?_⟩
  · show s1.1 187 23 = nI q'.2.1.length
    rw [e, f.2.2 23 (by omega) (by omega) (by omega) (by omega)]; exact h3
  · show s1.1 187 54 = nI q'.2.2
    rw [e, f.2.2 54 (by omega) (by omega) (by omega) (by omega)]; exact h4
  · rw [f.2.2 4 (by omega) (by omega) (by omega) (by omega)]; exact h45.1
  · rw [f.2.2 5 (by omega) (by omega) (by omega) (by omega)]; exact h45.2
  · show lkM s1.1 (T 19 w) (T 20 w) q'.2.1
    rw [e]
    refine lk_f (h5 w hw g) (fun i _ => ?_)
    rw [f.2.1 212 (by omega), f.2.1 213 (by omega), f.2.1 214 (by omega)]
    exact ⟨rfl, rfl, rfl⟩
def en24 (B : Nat → Nat) (N : Nat) (y : zX) : Except (Nat × Nat) zX := eB (exV B N 24 y.1) fun a => .ok (a.2, y.2)
theorem n_246ok (hn : 239 ≤ n) (hL : mL B N s y) : lnM B N s (fX11_lineRead_246 n (mk s) 187 (nI 1)) (en24 B N y) := by
  obtain ⟨q, T, M⟩ := y
  have hH : mHd B N s q.1 := hL.1
  have sg : fX11_isSign n (mk s) 187 (59 : Int32) = some (nI (decide (q.1.1 = 24)).toNat, mk s) := m_isSign (n := n) (k := 24) (q := q) hn hH.2.1 hH.2.2.1 (by decide) (by omega)
  unfold fX11_lineRead_246 en24 exV
  rw [if_pos (show ¬ nI 1 = (0 : Int32) by decide), sg, Option.bind_some]
  show lnM B N s _ (eB (if q.1.1 = 24 then _ else _) _)
  by_cases c : q.1.1 = 24
  · rw [if_pos c, decide_eq_true c, if_pos (show ¬ nI (true.toNat) = (0 : Int32) by decide)]
    obtain ⟨s1, b1, b2, b3⟩ := n_adv hn hH
    refine ⟨s1, ?_, frN_Dt (frR_N b2), mL_R (q' := adQ B N q) hL b2 b3 rfl⟩
    show ((fX11_token n (mk s) 187).bind _) = _
    rw [b1]
    rfl
  · rw [if_neg c, decide_eq_false c, if_neg (show ¬ ¬ nI (false.toNat) = (0 : Int32) from fun g => g rfl)]
    exact er_ln frDt_r (n_wr (k := 1) hn hH)
theorem n_246 {c : Option (Int32 × ai_H)} {r : Except (Nat × Nat) zX} (hn : 239 ≤ n) (h : lnM B N s c r) : lnM B N s (c.bind fun q => fX11_lineRead_246 n q.2 187 q.1) (eB r (en24 B N)) := by
  cases r with
  | error e =>
    obtain ⟨s', g1, g2, g3⟩ := h
    refine ⟨s', ?_, g2, g3⟩
    rw [g1, Option.bind_some]
    unfold fX11_lineRead_246
    rw [if_neg (show ¬ ¬ nI 0 = (0 : Int32) from fun g => g rfl)]
    rfl
  | ok y =>
    obtain ⟨s', g1, g2, g3⟩ := h
    rw [g1, Option.bind_some]
    exact lnM_t g2 (n_246ok hn g3)
theorem lnV_en : lnV B N x = eB (ln0 B N x) (en24 B N) := rfl
/-- a law -/
theorem n_law (hn : 239 ≤ n) (hL : mL B N s x) (hI : IV N c x) (hx : x.1.1.1 = 8) : lnM B N s (fX11_lineRead n (mk s) 187) (lnV B N x) := by
  obtain ⟨q, T, M⟩ := x
  have hx : q.1.1 = 8 := hx
  have hH : mHd B N s q.1 := hL.1
  have hG : mG s.1 T M := hL.2.1
  have k23 : s.1 187 23 = nI q.2.1.length := hL.2.2.1.1
  have k54 : s.1 187 54 = nI q.2.2 := hL.2.2.1.2.1
  have k45 : s.1 187 4 = nI 0 ∧ s.1 187 5 = m1 := hL.2.2.1.2.2
  have klk : ∀ w, w < 3 → T 18 w ≠ 0 → lkM s.1 (T 19 w) (T 20 w) q.2.1 := hL.2.2.2
  have hlen : q.2.1.length = q.2.2 := hI.2.1.1
  have h64 : q.2.2 ≤ 64 := hI.2.1.2
  have htk : tkP N c q.1 := hI.2.2.2.1
  have hw20 : ∀ w, w < 3 → T 18 w ≠ 0 → T 20 w ≤ q.2.1.length := fun w hw g => ((hI.2.2.2.2 w hw).2 g).2
  have p8 : ∀ s, pI n (mk s) 187 11 8 = some (s.1 187 8) := fun s => by simp only [B_m hn]
  have p9 : ∀ s, pI n (mk s) 187 11 9 = some (s.1 187 9) := fun s => by simp only [B_m hn]
  have p23 : ∀ s, pI n (mk s) 187 11 23 = some (s.1 187 23) := fun s => by simp only [B_m hn]
  have r43 : ∀ s, pR n (mk s) 187 11 43 = some 209 := fun s => by simp only [B_m hn]
  have r44 : ∀ s, pR n (mk s) 187 11 44 = some 210 := fun s => by simp only [B_m hn]
  have r45 : ∀ s, pR n (mk s) 187 11 45 = some 211 := fun s => by simp only [B_m hn]
  have g206 : ∀ (s : zS) (j : Nat), j < 6 → gB n (mk s) 209 (nI j) = some (s.1 209 j) := fun s j hj => by simp (disch := omega) only [B_ma hn]
  have w206 : ∀ (s : zS) (j : Nat) (x : Int32), j < 6 → wB n (mk s) 209 (nI j) x = some (mk (wI s 209 j (vp_nar .boolean x))) := fun s j x hj => by simp (disch := omega) only [B_ma hn]
  have w207 : ∀ (s : zS) (j : Nat) (x : Int32), j < 6 → wX 1 (fun x => x) n (mk s) 210 (nI j) x = some (mk (wI s 210 j x)) := fun s j x hj => by simp (disch := omega) only [B_ma hn]
  have w208 : ∀ (s : zS) (j : Nat) (x : Int32), j < 6 → wX 1 (fun x => x) n (mk s) 211 (nI j) x = some (mk (wI s 211 j x)) := fun s j x hj => by simp (disch := omega) only [B_ma hn]
  obtain ⟨t1, t1v⟩ := tk_1 hH.2.1 hH.2.2.1
  have v8 : s.1 187 8 = (1 : Int32) := t1.2 (by omega)
  have v9 : s.1 187 9 = nI 8 := by rw [t1v (by omega), hx]; rfl
  obtain ⟨A, eA⟩ : ∃ A, A = adQ B N q := ⟨_, rfl⟩
  have A2 : A.2 = q.2 := by rw [eA]; rfl
  have pure1 : lnV B N (q, T, M) = eB (if 9 ≤ A.1.1 ∧ A.1.1 ≤ 11 then eB (onV B N M A) (fun b => eB (exD B N b.2) fun c => .ok (c, cellU (cellU (cellU T 18 (A.1.1 - 9) 1) 19 (A.1.1 - 9) b.2.2.1.length) 20 (A.1.1 - 9) c.2.1.length, b.1)) else .error (1, A.1.2.2.1)) (en24 B N) := by
    rw [lnV_en]
    have e8 : exV B N 8 q = .ok (0, adQ B N q) := by unfold exV; rw [if_pos hx]
    have e0 : ln0 B N (q, T, M) = lwlV B N (q, T, M) := by
      unfold ln0
      rw [if_neg (show ¬ q.1.1 = 0 by omega), if_neg (show ¬ q.1.1 = 1 by omega), if_neg (show ¬ q.1.1 = 2 by omega), if_neg (show ¬ q.1.1 = 3 by omega), if_neg (show ¬ q.1.1 = 4 by omega), if_neg (show ¬ q.1.1 = 5 by omega), if_neg (show ¬ q.1.1 = 6 by omega), if_neg (show ¬ q.1.1 = 7 by omega)]
    rw [e0]
    unfold lwlV
    show eB (eB (exV B N 8 q) _) _ = _
    rw [e8, eA]
    rfl
  rw [pure1]
  unfold fX11_lineRead
  rw [(B_m hn).1, Option.bind_some, p8, Option.bind_some, if_neg (show ¬ ¬ s.1 187 8 = (1 : Int32) from fun g => g v8), p9, Option.bind_some, v9, if_pos (show nI 8 ≤ (8 : Int32) by decide), Option.bind_some,
    if_neg (show ¬ nI 8 = (0 : Int32) by decide), if_neg (show ¬ nI 8 = (1 : Int32) by decide), if_neg (show ¬ nI 8 = (2 : Int32) by decide), if_neg (show ¬ nI 8 = (3 : Int32) by decide), if_neg (show ¬ nI 8 = (4 : Int32) by decide), if_neg (show ¬ nI 8 = (5 : Int32) by decide), if_neg (show ¬ nI 8 = (6 : Int32) by decide), if_neg (show ¬ nI 8 = (7 : Int32) by decide)]
  obtain ⟨s1, b1, b2, b3⟩ := n_adv hn hH
  have H1 : mHd B N s1 A.1 := by rw [eA]; exact b3
  have f1 : frDt s s1 := frN_Dt (frR_N b2)
  obtain ⟨u1, u1v⟩ := tk_1 H1.2.1 H1.2.2.1
  have A38 : A.1.1 ≤ 38 := H1.2.2.1
  rw [b1, Option.bind_some, p8, Option.bind_some]
  have wr1 : lnM B N s (fX11_lineRead_179 n (mk s1) 187) (.error (1, A.1.2.2.1)) := er_ln f1 (n_wr (k := 1) hn H1)
  by_cases aw : A.1.1 < 22
  · have a8 : s1.1 187 8 = (1 : Int32) := u1.2 aw
    have a9 : s1.1 187 9 = nI (sw A.1.1) := u1v aw
    have sw1 : (A.1.1 ≤ 11 → sw A.1.1 = A.1.1) ∧ (11 < A.1.1 → 11 < sw A.1.1 ∧ sw A.1.1 < 40) := by
      unfold sw
      by_cases x1 : A.1.1 = 12
      · rw [if_pos x1]; omega
      · rw [if_neg x1]
        by_cases x2 : A.1.1 = 13
        · rw [if_pos x2]; omega
        · rw [if_neg x2]; omega
    rw [if_neg (show ¬ ¬ s1.1 187 8 = (1 : Int32) from fun g => g a8), p9, Option.bind_some, a9]
    by_cases a11 : 11 < A.1.1
    · have := sw1.2 a11
      rw [if_neg (show ¬ nI (sw A.1.1) < (9 : Int32) by
        show ¬ nI (sw A.1.1) < nI 9
        rw [n_lt (by omega) (by omega)]; omega), Option.bind_some, if_neg (show ¬ nI (sw A.1.1) ≤ (11 : Int32) by
        show ¬ nI (sw A.1.1) ≤ nI 11
        rw [n_le (by omega) (by omega)]; omega), if_neg (show ¬ (9 ≤ A.1.1 ∧ A.1.1 ≤ 11) by omega)]
      exact wr1
    rw [sw1.1 (by omega)]
    by_cases a9' : A.1.1 < 9
    · rw [if_pos (show nI A.1.1 < (9 : Int32) by
        show nI A.1.1 < nI 9
        rw [n_lt (by omega) (by omega)]; exact a9'), if_neg (show ¬ (9 ≤ A.1.1 ∧ A.1.1 ≤ 11) by omega)]
      exact wr1
    rw [if_neg (show ¬ nI A.1.1 < (9 : Int32) by
        show ¬ nI A.1.1 < nI 9
        rw [n_lt (by omega) (by omega)]; exact a9'), Option.bind_some, if_pos (show nI A.1.1 ≤ (11 : Int32) by
        show nI A.1.1 ≤ nI 11
        rw [n_le (by omega) (by omega)]; omega), Option.bind_some, r43, Option.bind_some, if_pos (show 9 ≤ A.1.1 ∧ A.1.1 ≤ 11 by omega)]
    obtain ⟨w, ew⟩ : ∃ w, w = A.1.1 - 9 := ⟨_, rfl⟩
    have aw9 : A.1.1 = 9 + w := by omega
    have hw : w < 3 := by omega
    rw [← ew, show ((3 : Int32) + nI A.1.1) - (9 : Int32) = nI (3 + w) by
      show (nI 3 + nI A.1.1) - nI 9 = _
      rw [nI_add, n_sub (by omega)]
      congr 1
      omega, g206 _ _ (by omega), Option.bind_some, b2.2.1 209 (by omega), (hG.2.2.2 w hw).1]
    unfold onV
    by_cases tb : M.testBit (9 + w) = true
    · rw [if_pos (show M.testBit A.1.1 = true by rw [aw9]; exact tb), tb, if_neg (show ¬ nI (true.toNat) = (0 : Int32) by decide)]
      exact er_ln f1 (n_wr (k := 3) hn H1)
    rw [if_neg (show ¬ M.testBit A.1.1 = true by rw [aw9]; exact tb), Bool.eq_false_iff.mpr tb, if_pos (show nI (false.toNat) = (0 : Int32) from rfl), Option.bind_some, w206 _ _ _ (by omega), Option.bind_some, show vp_nar .boolean (1 : Int32) = nI 1 from rfl]
    have H2 : mHd B N (wI s1 209 (3 + w) (nI 1)) A.1 := mHd_f H1 (fun j _ _ => by rw [wI_ne (by omega)]) (wI_ne (by omega)) (wI_ne (by omega))
    obtain ⟨s3, d1, d2, d3⟩ := n_adv hn H2
    have d23 : s3.1 187 23 = nI q.2.1.length := by rw [d2.2.2 23 (by omega) (by omega) (by omega) (by omega), wI_ne (by omega), b2.2.2 23 (by omega) (by omega) (by omega) (by omega)]; exact k23
    obtain ⟨s4, e4⟩ : ∃ s4 : zS, s4 = wI s3 210 (3 + w) (nI q.2.1.length) := ⟨_, rfl⟩
    rw [d1, Option.bind_some, r44, Option.bind_some, p23, Option.bind_some, d23, w207 _ _ _ (by omega), Option.bind_some, ← e4]
    have H4 : mHd B N s4 (adQ B N A).1 := by
      rw [e4]
      exact mHd_f d3 (fun j _ _ => by rw [wI_ne (by omega)]) (wI_ne (by omega)) (wI_ne (by omega))
    have f4 : frDt s s4 := by
      rw [e4]
      exact frDt_t f1 (frDt_t (frDt_up (by omega) (by omega)) (frDt_t (frN_Dt (frR_N d2)) (frDt_up (by omega) (by omega))))
    have o4 : ∀ b, b ≠ 187 → b ≠ 209 → b ≠ 210 → s4.1 b = s.1 b := fun b g1 g2 g3 => by rw [e4, wI_ne g3, d2.2.1 b g1, wI_ne g2, b2.2.1 b g1]
    have o4k : ∀ j, ¬ (7 ≤ j ∧ j ≤ 10) → s4.1 187 j = s.1 187 j := fun j g => by rw [e4, wI_ne (by omega), d2.2.2 j (by omega) (by omega) (by omega) (by omega), wI_ne (by omega), b2.2.2 j (by omega) (by omega) (by omega) (by omega)]
    have o206 : ∀ j, s4.1 209 j = if j = 3 + w then nI 1 else s.1 209 j := fun j => by
      rw [e4, wI_ne (by omega), d2.2.1 209 (by omega), wI_at]
      by_cases e : j = 3 + w
      · rw [e, upd_at, if_pos rfl]
      · rw [upd_ne e, if_neg e, b2.2.1 209 (by omega)]
    have o207 : ∀ j, s4.1 210 j = if j = 3 + w then nI q.2.1.length else s.1 210 j := fun j => by
      rw [e4, wI_at]
      by_cases e : j = 3 + w
      · rw [e, upd_at, if_pos rfl]
      · rw [upd_ne e, if_neg e, d2.2.1 210 (by omega), wI_ne (by omega), b2.2.1 210 (by omega)]
    have h23' : s4.1 187 23 = nI q.2.1.length := by rw [o4k 23 (by omega)]; exact k23
    have h54' : s4.1 187 54 = nI q.2.2 := by rw [o4k 54 (by omega)]; exact k54
    have etok : tkP N c (adQ B N A).1 := by rw [eA]; exact ad_P (ad_P htk)
    have qe : adQ B N A = ((adQ B N A).1, q.2.1, q.2.2) := by
      show (_, A.2.1, A.2.2) = _
      rw [A2]
      rfl
    obtain ⟨r0, hr0⟩ := plE_t (B := B) (N := N) (q := adQ B N A) (by rw [qe]; exact h64)
    have hD : exD B N (adQ B N A) = r0 := by unfold exD; rw [hr0]; rfl
    have fail : ∀ e, exQ B N 63 (adQ B N A) = some (.error e) → lnM B N s ((fX11_sumRead n (mk s4) 187).bind fun q25 => (pR n q25.2 187 11 45).bind fun x26 => (pI n q25.2 187 11 23).bind fun x27 => (wX 1 (fun x => x) n q25.2 x26 (nI (3 + w)) x27).bind fun h28 => fX11_lineRead_246 n h28 187 q25.1) (.error e) := fun e he => by
      rw [qe] at he
      have sm := m_sum (B := B) (N := N) (o := q.2.1) (kc := q.2.2) (p := c) hn H4 etok h23' h54' hlen h64 he
      obtain ⟨s5, m1, m2, m3, m4⟩ := sm
      refine ⟨wI s5 211 (3 + w) (s5.1 187 23), ?_, frDt_t f4 (frDt_t (frE3_Dt m2) (frDt_up (by omega) (by omega))), ?_, ?_⟩
      · rw [m1, Option.bind_some, r45, Option.bind_some, p23, Option.bind_some, w208 _ _ _ (by omega), Option.bind_some]
        unfold fX11_lineRead_246
        rw [if_neg (show ¬ ¬ nI 0 = (0 : Int32) from fun g => g rfl)]
        rfl
      · rw [wI_ne (by omega)]; exact m3
      · rw [wI_ne (by omega)]; exact m4
    show lnM B N s _ (eB (eB (exD B N (adQ B N A)) fun c => .ok (c, cellU (cellU (cellU T 18 w 1) 19 w A.2.1.length) 20 w c.2.1.length, M ||| 2 ^ A.1.1)) (en24 B N))
    rw [hD]
    cases r0 with
    | error e =>
      refine fail e ?_
      unfold exQ
      show bdQ (plE B N (adQ B N A)) _ = _
      rw [hr0]
      rfl
    | ok y =>
      show lnM B N s _ (en24 B N (y, cellU (cellU (cellU T 18 w 1) 19 w A.2.1.length) 20 w y.2.1.length, M ||| 2 ^ A.1.1))
      have ex : exQ B N 63 (adQ B N A) = if y.1.1 = 24 then some (.ok y) else some (.error (1, y.1.2.2.1)) := by
        unfold exQ
        show bdQ (plE B N (adQ B N A)) _ = _
        rw [hr0]
        rfl
      by_cases y24 : y.1.1 = 24
      · rw [if_pos y24] at ex
        have sx : q.2.1 <:+ y.2.1 := sx_all 63 0 0 (adQ B N A) y hr0 (by rw [qe]; exact List.suffix_refl _)
        rw [qe] at ex
        have sm := m_sum (B := B) (N := N) (o := q.2.1) (kc := q.2.2) (p := c) hn H4 etok h23' h54' hlen h64 ex
        obtain ⟨s5, m1, m2, m3, m4, may, m5, m6⟩ := sm
        obtain ⟨⟨m7, m8, _⟩, _, _, m9⟩ := m5
        obtain ⟨s6, e6⟩ : ∃ s6 : zS, s6 = wI s5 211 (3 + w) (nI y.2.1.length) := ⟨_, rfl⟩
        rw [m1, Option.bind_some, r45, Option.bind_some, p23, Option.bind_some, m7, w208 _ _ _ (by omega), Option.bind_some, ← e6]
        have o6 : ∀ b, b ≠ 187 → b ≠ 209 → b ≠ 210 → b ≠ 211 → ¬ (212 ≤ b ∧ b ≤ 216) → s6.1 b = s.1 b := fun b g1 g2 g3 g4 g5 => by rw [e6, wI_ne g4, m2.2.1 b g1 (by omega) (by omega) (by omega) (by omega) (by omega), o4 b g1 g2 g3]
        have o6k : ∀ j, 18 ≤ j → j ≤ 22 → s6.1 187 j = s.1 187 j := fun j g1 g2 => by rw [e6, wI_ne (by omega), m2.2.2.1 j (by omega) (by omega) (by omega) (by omega) (by omega) (by omega) (by omega) (by omega), o4k j (by omega)]
        have q206 : ∀ j, s6.1 209 j = if j = 3 + w then nI 1 else s.1 209 j := fun j => by rw [e6, wI_ne (by omega), m2.2.1 209 (by omega) (by omega) (by omega) (by omega) (by omega) (by omega), o206]
        have q207 : ∀ j, s6.1 210 j = if j = 3 + w then nI q.2.1.length else s.1 210 j := fun j => by rw [e6, wI_ne (by omega), m2.2.1 210 (by omega) (by omega) (by omega) (by omega) (by omega) (by omega), o207]
        have q208 : ∀ j, s6.1 211 j = if j = 3 + w then nI y.2.1.length else s.1 211 j := fun j => by
          rw [e6, wI_at]
          by_cases e : j = 3 + w
          · rw [e, upd_at, if_pos rfl]
          · rw [upd_ne e, if_neg e, m2.2.1 211 (by omega) (by omega) (by omega) (by omega) (by omega) (by omega), o4 211 (by omega) (by omega) (by omega)]
        have kn6 : ∀ j, s6.1 212 j = s5.1 212 j ∧ s6.1 213 j = s5.1 213 j ∧ s6.1 214 j = s5.1 214 j := fun j => by rw [e6, wI_ne (by omega), wI_ne (by omega), wI_ne (by omega)]; exact ⟨rfl, rfl, rfl⟩
        have f6 : frDt s s6 := by
          rw [e6]
          exact frDt_t f4 (frDt_t (frE2_Dt m2) (frDt_up (by omega) (by omega)))
        refine lnM_t f6 (n_246ok hn ⟨?_, ⟨fun τ hτ => ?_, ?_, ?_, fun w' hw' => ?_⟩, ⟨?_, ?_, ?_, ?_⟩, fun w' hw' => ?_⟩)
        · rw [e6]
          exact mHd_f m3 (fun j _ _ => by rw [wI_ne (by omega)]) (wI_ne (by omega)) (wI_ne (by omega))
        · obtain ⟨g1, g2⟩ := hG.1 τ hτ
          obtain ⟨a1, a2, a3⟩ := aF1 hτ
          obtain ⟨x1, x2, _, _, _⟩ := tF1 hτ
          have cn : ∀ a j, a < 18 → cellU (cellU (cellU T 18 w 1) 19 w A.2.1.length) 20 w y.2.1.length a j = T a j := fun a j h => by rw [cellU_ne (by omega), cellU_ne (by omega), cellU_ne (by omega)]
          refine ⟨?_, fun i hi d hd => ?_⟩
          · show s6.1 187 (18 + τ) = nI (cellU (cellU (cellU T 18 w 1) 19 w A.2.1.length) 20 w y.2.1.length 0 τ)
            rw [cn 0 τ (by omega), o6k _ (by omega) (by omega)]; exact g1
          · have hi : i < cellU (cellU (cellU T 18 w 1) 19 w A.2.1.length) 20 w y.2.1.length 0 τ := hi
            rw [cn 0 τ (by omega)] at hi
            show s6.1 (arF τ + d) (lmF τ + i) = nI (cellU (cellU (cellU T 18 w 1) 19 w A.2.1.length) 20 w y.2.1.length (baF τ + d) i)
            rw [cn _ _ (by omega), o6 _ (by omega) (by omega) (by omega) (by omega) (by omega)]; exact g2 i hi d hd
        · show s6.1 191 3 = nI (cellU (cellU (cellU T 18 w 1) 19 w A.2.1.length) 20 w y.2.1.length 0 6) ∧ s6.1 191 4 = nI (cellU (cellU (cellU T 18 w 1) 19 w A.2.1.length) 20 w y.2.1.length 0 7) ∧ s6.1 191 5 = nI (cellU (cellU (cellU T 18 w 1) 19 w A.2.1.length) 20 w y.2.1.length 0 8)
          rw [o6 191 (by omega) (by omega) (by omega) (by omega) (by omega)]
          simp (disch := omega) only [cellU_k]
          exact hG.2.1
        · intro i hi
          show s6.1 190 i = nI ((M ||| 2 ^ A.1.1).testBit (5 + i)).toNat
          rw [o6 190 (by omega) (by omega) (by omega) (by omega) (by omega), or_bit, decide_eq_false (by omega), Bool.or_false]
          exact hG.2.2.1 i hi
        · show s6.1 209 (3 + w') = nI ((M ||| 2 ^ A.1.1).testBit (9 + w')).toNat ∧ (cellU (cellU (cellU T 18 w 1) 19 w A.2.1.length) 20 w y.2.1.length 18 w' ≠ 0 → s6.1 210 (3 + w') = nI (cellU (cellU (cellU T 18 w 1) 19 w A.2.1.length) 20 w y.2.1.length 19 w') ∧ s6.1 211 (3 + w') = nI (cellU (cellU (cellU T 18 w 1) 19 w A.2.1.length) 20 w y.2.1.length 20 w'))
          rw [q206, q207, q208, or_bit]
          by_cases e : w' = w
          · subst e
            rw [if_pos rfl, if_pos rfl, if_pos rfl, decide_eq_true aw9, Bool.or_true, show cellU (cellU (cellU T 18 w' 1) 19 w' A.2.1.length) 20 w' y.2.1.length 19 w' = A.2.1.length by rw [cellU_ne (by omega), cellU_at], cellU_at, A2]
            exact ⟨rfl, fun _ => ⟨rfl, rfl⟩⟩
          · rw [if_neg (by omega), if_neg (by omega), if_neg (by omega), decide_eq_false (by omega), Bool.or_false, cellU_ne (Or.inr e), cellU_ne (Or.inr e), cellU_ne (Or.inr e), cellU_ne (Or.inr e), cellU_ne (Or.inr e), cellU_ne (Or.inr e), cellU_ne (Or.inr e), cellU_ne (Or.inr e), cellU_ne (Or.inr e)]
            exact hG.2.2.2 w' hw'
        · show s6.1 187 23 = nI y.2.1.length
          rw [e6, wI_ne (by omega)]; exact m7
        · show s6.1 187 54 = nI y.2.2
          rw [e6, wI_ne (by omega)]; exact m8
        · rw [e6, wI_ne (by omega), m2.2.2.1 4 (by omega) (by omega) (by omega) (by omega) (by omega) (by omega) (by omega) (by omega), o4k 4 (by omega)]; exact k45.1
        · rw [e6, wI_ne (by omega), m2.2.2.1 5 (by omega) (by omega) (by omega) (by omega) (by omega) (by omega) (by omega) (by omega), o4k 5 (by omega)]; exact k45.2
        · show cellU (cellU (cellU T 18 w 1) 19 w A.2.1.length) 20 w y.2.1.length 18 w' ≠ 0 → lkM s6.1 (cellU (cellU (cellU T 18 w 1) 19 w A.2.1.length) 20 w y.2.1.length 19 w') (cellU (cellU (cellU T 18 w 1) 19 w A.2.1.length) 20 w y.2.1.length 20 w') y.2.1
          by_cases e : w' = w
          · subst e
            rw [show cellU (cellU (cellU T 18 w' 1) 19 w' A.2.1.length) 20 w' y.2.1.length 19 w' = A.2.1.length by rw [cellU_ne (by omega), cellU_at], cellU_at, A2]
            intro _
            have j2 : (hdK q.2.1.length y.2.1).length + 0 = 0 + 1 := m6.2.1
            have j3 : q.2.1.length ≤ y.2.1.length := m6.2.2.1
            refine ⟨?_, Nat.le_refl _, by rw [sf_all]; omega, fun i g1 g2 => ?_⟩
            · rcases Nat.lt_or_ge q.2.1.length y.2.1.length with g | g
              · exact g
              · rw [show q.2.1.length = y.2.1.length by omega, hd_0] at j2
                cases j2
            · obtain ⟨z, z1, z2⟩ := kn_lk y.2.1 m9 i g1 g2
              exact ⟨z, z1, kE_f z2 (kn6 _).1 (kn6 _).2.1 (kn6 _).2.2⟩
          · rw [cellU_ne (Or.inr e), cellU_ne (Or.inr e), cellU_ne (Or.inr e), cellU_ne (Or.inr e), cellU_ne (Or.inr e), cellU_ne (Or.inr e), cellU_ne (Or.inr e), cellU_ne (Or.inr e), cellU_ne (Or.inr e)]
            intro g
            refine lk_sx (lk_f (klk w' hw' g) (fun i hi => ?_)) sx
            have hl := hw20 w' hw' g
            have f := m2.2.2.2 (64 + i) (by omega)
            obtain ⟨k1, k2, k3⟩ := kn6 (64 + i)
            rw [k1, k2, k3, f.1, f.2.1, f.2.2, o4 212 (by omega) (by omega) (by omega), o4 213 (by omega) (by omega) (by omega), o4 214 (by omega) (by omega) (by omega)]
            exact ⟨rfl, rfl, rfl⟩
      · rw [if_neg y24] at ex
        have en : en24 B N (y, cellU (cellU (cellU T 18 w 1) 19 w A.2.1.length) 20 w y.2.1.length, M ||| 2 ^ A.1.1) = .error (1, y.1.2.2.1) := by
          unfold en24 exV
          show eB (if y.1.1 = 24 then _ else _) _ = _
          rw [if_neg y24]
          rfl
        rw [en]
        exact fail _ ex
  · rw [if_pos (show ¬ s1.1 187 8 = (1 : Int32) from fun g => aw (u1.1 g)), if_neg (show ¬ (9 ≤ A.1.1 ∧ A.1.1 ≤ 11) by omega)]
    exact wr1
/-- a line, read whole -/
theorem n_line (hn : 239 ≤ n) (hL : mL B N s x) (hI : IV N c x) : lnM B N s (fX11_lineRead n (mk s) 187) (lnV B N x) := by
  have hW : WX x.2.1 := hI.1
  have hH : mHd B N s x.1.1 := hL.1
  have z38 : x.1.1.1 ≤ 38 := hH.2.2.1
  by_cases x8 : x.1.1.1 = 8
  · exact n_law hn hL hI x8
  have p8 : ∀ s, pI n (mk s) 187 11 8 = some (s.1 187 8) := fun s => by simp only [B_m hn]
  have p9 : ∀ s, pI n (mk s) 187 11 9 = some (s.1 187 9) := fun s => by simp only [B_m hn]
  obtain ⟨t1, t1v⟩ := tk_1 hH.2.1 z38
  have wr1 : 8 < x.1.1.1 → lnM B N s (fX11_lineRead_17 n (mk s) 187) (lnV B N x) := fun g => by
    have e0 : ln0 B N x = lwlV B N x := by
      unfold ln0
      rw [if_neg (show ¬ x.1.1.1 = 0 by omega), if_neg (show ¬ x.1.1.1 = 1 by omega), if_neg (show ¬ x.1.1.1 = 2 by omega), if_neg (show ¬ x.1.1.1 = 3 by omega), if_neg (show ¬ x.1.1.1 = 4 by omega), if_neg (show ¬ x.1.1.1 = 5 by omega), if_neg (show ¬ x.1.1.1 = 6 by omega), if_neg (show ¬ x.1.1.1 = 7 by omega)]
    have e8 : exV B N 8 x.1 = .error (1, x.1.1.2.2.1) := by unfold exV; rw [if_neg x8]
    rw [lnV_en, e0]
    unfold lwlV
    rw [e8]
    exact er_ln frDt_r (n_wr (k := 1) hn hH)
  unfold fX11_lineRead
  rw [(B_m hn).1, Option.bind_some, p8, Option.bind_some]
  by_cases aw : x.1.1.1 < 22
  · have v8 : s.1 187 8 = (1 : Int32) := t1.2 aw
    have v9 : s.1 187 9 = nI (sw x.1.1.1) := t1v aw
    rw [if_neg (show ¬ ¬ s.1 187 8 = (1 : Int32) from fun g => g v8), p9, Option.bind_some, v9]
    by_cases g8 : 8 < x.1.1.1
    · have : 8 < sw x.1.1.1 ∧ sw x.1.1.1 < 40 := by
        unfold sw
        by_cases x1 : x.1.1.1 = 12
        · rw [if_pos x1]; omega
        · rw [if_neg x1]
          by_cases x2 : x.1.1.1 = 13
          · rw [if_pos x2]; omega
          · rw [if_neg x2]; omega
      rw [if_neg (show ¬ nI (sw x.1.1.1) ≤ (8 : Int32) by
        show ¬ nI (sw x.1.1.1) ≤ nI 8
        rw [n_le (by omega) (by omega)]; omega)]
      exact wr1 g8
    have sw0 : sw x.1.1.1 = x.1.1.1 := by
      unfold sw
      rw [if_neg (by omega), if_neg (by omega)]
    rw [sw0, if_pos (show nI x.1.1.1 ≤ (8 : Int32) by
      show nI x.1.1.1 ≤ nI 8
      rw [n_le (by omega) (by omega)]; omega), Option.bind_some, lnV_en]
    unfold ln0
    rcases (by omega : x.1.1.1 = 0 ∨ x.1.1.1 = 1 ∨ x.1.1.1 = 2 ∨ x.1.1.1 = 3 ∨ x.1.1.1 = 4 ∨ x.1.1.1 = 5 ∨ x.1.1.1 = 6 ∨ x.1.1.1 = 7) with e | e | e | e | e | e | e | e
    · rw [e, if_pos rfl, if_pos (show nI 0 = (0 : Int32) from rfl)]
      exact n_246 hn (n_pla hn hL hW)
    · rw [e, if_neg (show ¬ 1 = 0 by omega), if_pos rfl, if_neg (show ¬ nI 1 = (0 : Int32) by decide), if_pos (show nI 1 = (1 : Int32) from rfl)]
      exact n_246 hn (n_pat hn hL hW)
    · rw [e, if_neg (show ¬ 2 = 0 by omega), if_neg (show ¬ 2 = 1 by omega), if_pos rfl, if_neg (show ¬ nI 2 = (0 : Int32) by decide), if_neg (show ¬ nI 2 = (1 : Int32) by decide), if_pos (show nI 2 = (2 : Int32) from rfl)]
      exact n_246 hn (n_wkr hn hL hW)
    · rw [e, if_neg (show ¬ 3 = 0 by omega), if_neg (show ¬ 3 = 1 by omega), if_neg (show ¬ 3 = 2 by omega), if_pos rfl, if_neg (show ¬ nI 3 = (0 : Int32) by decide), if_neg (show ¬ nI 3 = (1 : Int32) by decide), if_neg (show ¬ nI 3 = (2 : Int32) by decide), if_pos (show nI 3 = (3 : Int32) from rfl)]
      exact n_246 hn (n_wlk hn hL hW)
    · rw [e, if_neg (show ¬ 4 = 0 by omega), if_neg (show ¬ 4 = 1 by omega), if_neg (show ¬ 4 = 2 by omega), if_neg (show ¬ 4 = 3 by omega), if_pos rfl, if_neg (show ¬ nI 4 = (0 : Int32) by decide), if_neg (show ¬ nI 4 = (1 : Int32) by decide), if_neg (show ¬ nI 4 = (2 : Int32) by decide), if_neg (show ¬ nI 4 = (3 : Int32) by decide), if_pos (show nI 4 = (4 : Int32) from rfl)]
      exact n_246 hn (n_bul hn hL hW)
    · rw [e, if_neg (show ¬ 5 = 0 by omega), if_neg (show ¬ 5 = 1 by omega), if_neg (show ¬ 5 = 2 by omega), if_neg (show ¬ 5 = 3 by omega), if_neg (show ¬ 5 = 4 by omega), if_pos rfl, if_neg (show ¬ nI 5 = (0 : Int32) by decide), if_neg (show ¬ nI 5 = (1 : Int32) by decide), if_neg (show ¬ nI 5 = (2 : Int32) by decide), if_neg (show ¬ nI 5 = (3 : Int32) by decide), if_neg (show ¬ nI 5 = (4 : Int32) by decide), if_pos (show nI 5 = (5 : Int32) from rfl)]
      exact n_246 hn (n_onc (k := 0) (lo := 1) (hi := 400) hn hL (by omega) e (by omega) (by omega))
    · rw [e, if_neg (show ¬ 6 = 0 by omega), if_neg (show ¬ 6 = 1 by omega), if_neg (show ¬ 6 = 2 by omega), if_neg (show ¬ 6 = 3 by omega), if_neg (show ¬ 6 = 4 by omega), if_neg (show ¬ 6 = 5 by omega), if_pos rfl, if_neg (show ¬ nI 6 = (0 : Int32) by decide), if_neg (show ¬ nI 6 = (1 : Int32) by decide), if_neg (show ¬ nI 6 = (2 : Int32) by decide), if_neg (show ¬ nI 6 = (3 : Int32) by decide), if_neg (show ¬ nI 6 = (4 : Int32) by decide), if_neg (show ¬ nI 6 = (5 : Int32) by decide), if_pos (show nI 6 = (6 : Int32) from rfl)]
      exact n_246 hn (n_onc (k := 1) (lo := 0) (hi := 100) hn hL (by omega) e (by omega) (by omega))
    · rw [e, if_neg (show ¬ 7 = 0 by omega), if_neg (show ¬ 7 = 1 by omega), if_neg (show ¬ 7 = 2 by omega), if_neg (show ¬ 7 = 3 by omega), if_neg (show ¬ 7 = 4 by omega), if_neg (show ¬ 7 = 5 by omega), if_neg (show ¬ 7 = 6 by omega), if_pos rfl, if_neg (show ¬ nI 7 = (0 : Int32) by decide), if_neg (show ¬ nI 7 = (1 : Int32) by decide), if_neg (show ¬ nI 7 = (2 : Int32) by decide), if_neg (show ¬ nI 7 = (3 : Int32) by decide), if_neg (show ¬ nI 7 = (4 : Int32) by decide), if_neg (show ¬ nI 7 = (5 : Int32) by decide), if_neg (show ¬ nI 7 = (6 : Int32) by decide), if_pos (show nI 7 = (7 : Int32) from rfl)]
      exact n_246 hn (n_onc (k := 2) (lo := 0) (hi := 99999) hn hL (by omega) e (by omega) (by omega))
  · rw [if_pos (show ¬ s.1 187 8 = (1 : Int32) from fun g => aw (t1.1 g))]
    exact wr1 (by omega)
end Mq11
