/-! ===== lines on the reference: paths ===== -/
section Mn8
variable {n N k a r p m L v b τ M i : Nat} {B f : Nat → Nat} {s s' s0 s1 s2 : zS} {q : zQ} {tok : zK} {T : zT} {I I' : Nat → Nat → Int32} {cs : List Nat} {x : zX}
theorem eB_a {α β γ : Type} {r : Except (Nat × Nat) α} {f : α → Except (Nat × Nat) β} {g : β → Except (Nat × Nat) γ} : eB (eB r f) g = eB r (fun a => eB (f a) g) := by
  cases r <;> rfl
theorem n_wr2 (hn : 239 ≤ n) (h : s.1 187 10 = nI p) : erN s ((fX11_wrong n (mk s) 187 (nI k)).bind fun q => (gZ q.1).bind fun _ => some (q.1, q.2)) (k, p) := by
  refine ⟨wI (wI s 187 4 (nI k)) 187 5 (s.1 187 10), ?_, frNe_t (frNe_w (by omega)) (frNe_w (by omega)), ?_, ?_⟩
  · unfold fX11_wrong
    simp (disch := first | omega | assumption | (simp only [wL_1, wL_22, wI_2, wA_2, wQ_1, wQ_21] <;> first | assumption | omega)) only [LIT, LITm, nI_add, n_mul, fa_or, n_31m, n_shl0, n_le, n_lt, n_eq, Option.bind_some, B_m hn, wI_at, upd_ne, ne_eq, gz_0]
  · rw [wI_at, upd_ne (by omega), wI_at, upd_at]
  · rw [wI_at, upd_at]; exact h
theorem n_bdW {c : Option (Int32 × ai_H)} {K : Int32 × ai_H → Option (Int32 × ai_H)} {r0 : Except (Nat × Nat) (Nat × zQ)} {G : Nat × zQ → Except (Nat × Nat) zX} (f : frDt s s1) (h : ouW B N s1 s0 c r0) (hk : ∀ b s', r0 = .ok b → frN s0 s' → mHd B N s' b.2.1 → lnM B N s (K (nI 1, mk s')) (G b)) : lnM B N s (c.bind fun q => if ¬ q.1 = (0 : Int32) then K q else some ((0 : Int32), q.2)) (eB r0 G) := by
  cases r0 with
  | error e =>
    obtain ⟨s', g1, g2, g3, g4⟩ := h
    refine ⟨s', ?_, frDt_t f (frNe_Dt g2), g3, g4⟩
    rw [g1, Option.bind_some, if_neg (show ¬ ¬ nI 0 = (0 : Int32) from fun g => g rfl)]
    rfl
  | ok b =>
    obtain ⟨s', g1, g2, g3⟩ := h
    rw [g1, Option.bind_some, if_pos (show ¬ nI 1 = (0 : Int32) by decide)]
    exact hk b s' rfl g2 g3
theorem n_pat (hn : 239 ≤ n) (hL : mL B N s x) (hW : WX x.2.1) : lnM B N s (fX11_pathLine n (mk s) 187) (patV B N x) := by
  obtain ⟨q, T, M⟩ := x
  have hH : mHd B N s q.1 := hL.1
  have hG : mG s.1 T M := hL.2.1
  have s7 : T 0 0 ≤ 7 := hW.1.1
  have s9 : T 0 1 ≤ 9 := hW.1.2.1
  have h18 : s.1 187 18 = nI (T 0 0) := (hG.1 0 (by omega)).1
  have h19 : s.1 187 19 = nI (T 0 1) := (hG.1 1 (by omega)).1
  have p18 : ∀ s, pI n (mk s) 187 11 18 = some (s.1 187 18) := fun s => by simp only [B_m hn]
  have p19 : ∀ s, pI n (mk s) 187 11 19 = some (s.1 187 19) := fun s => by simp only [B_m hn]
  have p11 : ∀ s, pI n (mk s) 187 11 11 = some (s.1 187 11) := fun s => by simp only [B_m hn]
  have p10 : ∀ s, pI n (mk s) 187 11 10 = some (s.1 187 10) := fun s => by simp only [B_m hn]
  have w19 : ∀ (s : zS) (x : Int32), sF n (mk s) 187 11 19 .int (.int x) = some (mk (wI s 187 19 x)) := fun s x => by simp only [B_m hn]
  have w10 : ∀ (s : zS) (x : Int32), sF n (mk s) 187 11 10 .int (.int x) = some (mk (wI s 187 10 x)) := fun s x => by simp only [B_m hn]
  have r26 : ∀ s, pR n (mk s) 187 11 26 = some 192 := fun s => by simp only [B_m hn]
  have r27 : ∀ s, pR n (mk s) 187 11 27 = some 193 := fun s => by simp only [B_m hn]
  have r28 : ∀ s, pR n (mk s) 187 11 28 = some 194 := fun s => by simp only [B_m hn]
  have r29 : ∀ s, pR n (mk s) 187 11 29 = some 195 := fun s => by simp only [B_m hn]
  have r30 : ∀ s, pR n (mk s) 187 11 30 = some 196 := fun s => by simp only [B_m hn]
  have r31 : ∀ s, pR n (mk s) 187 11 31 = some 197 := fun s => by simp only [B_m hn]
  have r32 : ∀ s, pR n (mk s) 187 11 32 = some 198 := fun s => by simp only [B_m hn]
  have g189 : ∀ (s : zS) (j : Nat), j < 7 + 7 → gX 1 n (mk s) 192 (nI j) = some (s.1 192 j) := fun s j hj => by simp (disch := omega) only [B_ma hn]
  have g190 : ∀ (s : zS) (j : Nat), j < 9 + 9 → gX 1 n (mk s) 193 (nI j) = some (s.1 193 j) := fun s j hj => by simp (disch := omega) only [B_ma hn]
  have g191 : ∀ (s : zS) (j : Nat), j < 9 + 9 → gX 1 n (mk s) 194 (nI j) = some (s.1 194 j) := fun s j hj => by simp (disch := omega) only [B_ma hn]
  have w190 : ∀ (s : zS) (j : Nat) (x : Int32), j < 9 + 9 → wX 1 (fun x => x) n (mk s) 193 (nI j) x = some (mk (wI s 193 j x)) := fun s j x hj => by simp (disch := omega) only [B_ma hn]
  have w191 : ∀ (s : zS) (j : Nat) (x : Int32), j < 9 + 9 → wX 1 (fun x => x) n (mk s) 194 (nI j) x = some (mk (wI s 194 j x)) := fun s j x hj => by simp (disch := omega) only [B_ma hn]
  have w192 : ∀ (s : zS) (j : Nat) (x : Int32), j < 9 + 9 → wX 1 (fun x => x) n (mk s) 195 (nI j) x = some (mk (wI s 195 j x)) := fun s j x hj => by simp (disch := omega) only [B_ma hn]
  have w193 : ∀ (s : zS) (j : Nat) (x : Int32), j < 9 + 9 → wX 1 (fun x => x) n (mk s) 196 (nI j) x = some (mk (wI s 196 j x)) := fun s j x hj => by simp (disch := omega) only [B_ma hn]
  have w194 : ∀ (s : zS) (j : Nat) (x : Int32), j < 9 + 9 → wX 1 (fun x => x) n (mk s) 197 (nI j) x = some (mk (wI s 197 j x)) := fun s j x hj => by simp (disch := omega) only [B_ma hn]
  have w195 : ∀ (s : zS) (j : Nat) (x : Int32), j < 9 + 9 → wX 1 (fun x => x) n (mk s) 198 (nI j) x = some (mk (wI s 198 j x)) := fun s j x hj => by simp (disch := omega) only [B_ma hn]
  have l9 : (9 : Int32) = nI 9 := rfl
  unfold fX11_pathLine patV rwV
  rw [(B_m hn).1, Option.bind_some, p19, Option.bind_some, h19]
  by_cases c7 : 9 ≤ T 0 1
  · rw [if_neg (show ¬ ¬ nI (T 0 1) = (9 : Int32) from fun g => g (by rw [show T 0 1 = 9 by omega]; rfl))]
    show lnM B N s _ (eB (if 9 ≤ T 0 1 then _ else _) _)
    rw [if_pos c7]
    exact er_ln frDt_r (n_wr (k := 2) hn hH)
  · rw [if_pos (show ¬ nI (T 0 1) = (9 : Int32) by
      show ¬ nI (T 0 1) = nI 9
      rw [n_eq (by omega) (by omega)]; omega)]
    show lnM B N s _ (eB (if 9 ≤ T 0 1 then _ else _) _)
    rw [if_neg c7]
    obtain ⟨s1, b1, b2, b3⟩ := n_adv hn hH
    have e19 : s1.1 187 19 = nI (T 0 1) := by rw [b2.2.2 19 (by omega) (by omega) (by omega) (by omega)]; exact h19
    have P1 : rwN 1 (T 0 1) s s1 [] := rwN_0 (by omega) (frR_N b2)
    have nm : ∀ i, i < T 0 1 → s1.1 193 (9 + i) = nI (T 2 i) ∧ T 2 i < 1073741824 := fun i hi => ⟨by rw [b2.2.1 193 (by omega)]; exact (hG.1 1 (by omega)).2 i hi 0 (by decide), hW.2.2.2.2.2.2.2.1 i hi⟩
    have nw := n_new (B := B) (N := N) (s := s1) (q := adQ B N q) (b := 193) (L := 9) (m := T 0 1) (f := T 2) hn b3 (g190 s1) (w190 s1) (by omega) (by omega) (by omega) nm
    rw [b1, Option.bind_some, r27, Option.bind_some, p19, Option.bind_some, e19]
    show lnM B N s ((fX11_newName n (mk s1) 187 193 (nI 9) (nI (T 0 1))).bind _) (eB (nwV B N (T 2) (T 0 1) (adQ B N q)) _)
    refine n_bdW (frN_Dt (frR_N b2)) nw ?_
    intro b s2 hb f2 H2
    dsimp only
    obtain ⟨-, eb⟩ := nw_ok hb
    have vb : b.1 = (adQ B N q).1.2.1 := by rw [eb]
    have P2 : rwN 1 (T 0 1) s s2 [b.1] := by
      rw [vb]
      exact rwN_N (by omega) (rwN_p (v := (adQ B N q).1.2.1) (by omega) P1 (by decide)) f2
    have e19b : s2.1 187 19 = nI (T 0 1) := by rw [P2.2.2.1 19 (by omega) (by omega) (by omega)]; exact h19
    have e18b : s2.1 187 18 = nI (T 0 0) := by rw [P2.2.2.1 18 (by omega) (by omega) (by omega)]; exact h18
    have pm : ∀ s' : zS, (∀ j, s'.1 192 j = s.1 192 j) → ∀ i, i < T 0 0 → s'.1 192 (7 + i) = nI (T 1 i) ∧ T 1 i < 1073741824 := fun s' h i hi => ⟨by rw [h]; exact (hG.1 0 (by omega)).2 i hi 0 (by decide), hW.2.2.2.2.2.2.1 i hi⟩
    have th := n_there (B := B) (N := N) (s := s2) (q := b.2) (b := 192) (L := 7) (m := T 0 0) (f := T 1) hn H2 (g189 s2) (by omega) s7 (pm s2 (fun j => by rw [P2.2.1 192 (by omega) (show ¬ (193 ≤ 192 ∧ _) from fun h => absurd h.1 (by omega))]))
    rw [p19, Option.bind_some, e19b, r26, Option.bind_some, p18, Option.bind_some, e18b]
    show lnM B N s ((fX11_thereIn n (mk s2) 187 192 (nI 7) (nI (T 0 0))).bind _) (eB (tdV B N (T 1) (T 0 0) b.2) _)
    refine n_bd2 (rwN_Dt (by omega) P2) th ?_
    intro c s3 hc f3 v3 H3
    dsimp only
    obtain ⟨s3', es3⟩ : ∃ s3' : zS, s3' = wI s3 194 (9 + T 0 1) (nI c.1) := ⟨_, rfl⟩
    have P3 : rwN 1 (T 0 1) s s3' [b.1, c.1] := by
      rw [es3]
      exact rwN_p (v := c.1) (by omega) (rwN_N (by omega) P2 f3) (show 1 < lnF 1 by decide)
    have H3' : mHd B N s3' c.2.1 := by
      rw [es3]
      exact mHd_f H3 (fun j _ _ => by rw [wI_ne (by omega)]) (wI_ne (by omega)) (wI_ne (by omega))
    have e18c : s3'.1 187 18 = nI (T 0 0) := by rw [P3.2.2.1 18 (by omega) (by omega) (by omega)]; exact h18
    have th2 := n_there (B := B) (N := N) (s := s3') (q := c.2) (b := 192) (L := 7) (m := T 0 0) (f := T 1) hn H3' (g189 s3') (by omega) s7 (pm s3' (fun j => by rw [P3.2.1 192 (by omega) (show ¬ (193 ≤ 192 ∧ _) from fun h => absurd h.1 (by omega))]))
    rw [r28, Option.bind_some, p11, Option.bind_some, v3, l9, nI_add, w191 _ _ _ (by omega), Option.bind_some, ← es3, p10, Option.bind_some, r26, Option.bind_some, p18, Option.bind_some, e18c, eB_a]
    show lnM B N s ((fX11_thereIn n (mk s3') 187 192 (nI 7) (nI (T 0 0))).bind _) (eB (tdV B N (T 1) (T 0 0) c.2) _)
    refine n_bd2 (rwN_Dt (by omega) P3) th2 ?_
    intro d s4 hd f4 v4 H4
    dsimp only
    have P4a : rwN 1 (T 0 1) s s4 [b.1, c.1] := rwN_N (by omega) P3 f4
    have c191 : s4.1 194 (9 + T 0 1) = nI c.1 := P4a.2.2.2.2 1 (show 1 < 2 by omega)
    have lc : c.1 < T 0 0 := by
      obtain ⟨-, x2, x3⟩ := td_ok hc
      rw [x3]; exact x2
    have ld : d.1 < T 0 0 := by
      obtain ⟨-, x2, x3⟩ := td_ok hd
      rw [x3]; exact x2
    rw [p11, Option.bind_some, v4, r28, Option.bind_some, g191 _ _ (by omega), Option.bind_some, c191]
    by_cases dc : d.1 = c.1
    · rw [if_neg (show ¬ ¬ nI d.1 = nI c.1 from fun g => g (by rw [dc]))]
      show lnM B N s _ (eB (if d.1 = c.1 then _ else _) _)
      rw [if_pos dc, w10, Option.bind_some]
      exact er_ln (frDt_t (rwN_Dt (by omega) P4a) (frDt_w (by omega))) (n_wr2 (k := 5) hn (by rw [wI_at, upd_at]; exact H3'.2.1.2.1))
    rw [if_pos (show ¬ nI d.1 = nI c.1 by rw [n_eq (by omega) (by omega)]; exact dc)]
    show lnM B N s _ (eB (if d.1 = c.1 then _ else _) _)
    rw [if_neg dc]
    have P4 : rwN 1 (T 0 1) s (wI s4 195 (9 + T 0 1) (nI d.1)) [b.1, c.1, d.1] := rwN_p (v := d.1) (by omega) P4a (show 2 < lnF 1 by decide)
    have H4' : mHd B N (wI s4 195 (9 + T 0 1) (nI d.1)) d.2.1 := mHd_f H4 (fun j _ _ => by rw [wI_ne (by omega)]) (wI_ne (by omega)) (wI_ne (by omega))
    rw [r29, Option.bind_some, Option.bind_some, w192 _ _ _ (by omega), Option.bind_some]
    show lnM B N s _ (eB (nbV B N 1 99 d.2) _)
    refine n_bd2 (rwN_Dt (by omega) P4) (n_num (q := d.2) (lo := 1) (hi := 99) hn H4' (by omega) (by omega)) ?_
    intro e s5 he f5 v5 H5
    dsimp only
    have P5 : rwN 1 (T 0 1) s (wI s5 196 (9 + T 0 1) (nI e.1)) [b.1, c.1, d.1, e.1] := rwN_p (v := e.1) (by omega) (rwN_N (by omega) P4 f5) (show 3 < lnF 1 by decide)
    have H5' : mHd B N (wI s5 196 (9 + T 0 1) (nI e.1)) e.2.1 := mHd_f H5 (fun j _ _ => by rw [wI_ne (by omega)]) (wI_ne (by omega)) (wI_ne (by omega))
    rw [r30, Option.bind_some, p11, Option.bind_some, v5, w193 _ _ _ (by omega), Option.bind_some]
    refine n_bd2 (rwN_Dt (by omega) P5) (n_num (q := e.2) (lo := 0) (hi := 9) hn H5' (by omega) (by omega)) ?_
    intro g s6 hg f6 v6 H6
    dsimp only
    have P6 : rwN 1 (T 0 1) s (wI s6 197 (9 + T 0 1) (nI g.1)) [b.1, c.1, d.1, e.1, g.1] := rwN_p (v := g.1) (by omega) (rwN_N (by omega) P5 f6) (show 4 < lnF 1 by decide)
    have H6' : mHd B N (wI s6 197 (9 + T 0 1) (nI g.1)) g.2.1 := mHd_f H6 (fun j _ _ => by rw [wI_ne (by omega)]) (wI_ne (by omega)) (wI_ne (by omega))
    rw [r31, Option.bind_some, p11, Option.bind_some, v6, w194 _ _ _ (by omega), Option.bind_some]
    refine n_bd2 (rwN_Dt (by omega) P6) (n_num (q := g.2) (lo := 0) (hi := 399) hn H6' (by omega) (by omega)) ?_
    intro h s7 hh f7 v7 H7
    dsimp only
    have P7 : rwN 1 (T 0 1) s (wI s7 198 (9 + T 0 1) (nI h.1)) [b.1, c.1, d.1, e.1, g.1, h.1] := rwN_p (v := h.1) (by omega) (rwN_N (by omega) P6 f7) (show 5 < lnF 1 by decide)
    have H7' : mHd B N (wI s7 198 (9 + T 0 1) (nI h.1)) h.2.1 := mHd_f H7 (fun j _ _ => by rw [wI_ne (by omega)]) (wI_ne (by omega)) (wI_ne (by omega))
    have e19' : (wI s7 198 (9 + T 0 1) (nI h.1)).1 187 19 = nI (T 0 1) := by rw [P7.2.2.1 19 (by omega) (by omega) (by omega)]; exact h19
    have q' : h.2.2 = q.2 := by
      obtain ⟨-, -, x1⟩ := td_ok hc
      obtain ⟨-, -, x2⟩ := td_ok hd
      obtain ⟨-, -, x3⟩ := nb_ok he
      obtain ⟨-, -, x4⟩ := nb_ok hg
      obtain ⟨-, -, x5⟩ := nb_ok hh
      rw [x5, x4, x3, x2, x1, eb]
      rfl
    have fr := fin_rowN (q' := h.2) (τ := 1) (by omega) hL P7 H7' q' rfl
    refine ⟨wI (wI s7 198 (9 + T 0 1) (nI h.1)) 187 (18 + 1) (nI (T 0 1 + 1)), ?_, fr.1, fr.2⟩
    rw [r32, Option.bind_some, p11, Option.bind_some, v7, w195 _ _ _ (by omega), Option.bind_some, p19, Option.bind_some, e19']
    show ((sF n (mk _) 187 11 19 .int (.int (nI (T 0 1) + nI 1))).bind _) = _
    rw [nI_add, w19, Option.bind_some]
    rfl
end Mn8
