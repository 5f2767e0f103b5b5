/-! ===== lines on the reference: walkers ===== -/
section Mo9
variable {n N k a r p m L v b τ M i : Nat} {B f : Nat → Nat} {s s' s0 s1 s2 : zS} {q : zQ} {tok : zK} {T : zT} {I I' : Nat → Nat → Int32} {cs : List Nat} {x : zX}
theorem n_wkr (hn : 239 ≤ n) (hL : mL B N s x) (hW : WX x.2.1) : lnM B N s (fX11_walkerLine n (mk s) 187) (wkrV B N x) := by
  obtain ⟨q, T, M⟩ := x
  have hH : mHd B N s q.1 := hL.1
  have hG : mG s.1 T M := hL.2.1
  have s7 : T 0 0 ≤ 7 := hW.1.1
  have s4 : T 0 2 ≤ 4 := hW.1.2.2.1
  have h18 : s.1 187 18 = nI (T 0 0) := (hG.1 0 (by omega)).1
  have h20 : s.1 187 20 = nI (T 0 2) := (hG.1 2 (by omega)).1
  have p18 : ∀ s, pI n (mk s) 187 11 18 = some (s.1 187 18) := fun s => by simp only [B_m hn]
  have p20 : ∀ s, pI n (mk s) 187 11 20 = some (s.1 187 20) := fun s => by simp only [B_m hn]
  have p11 : ∀ s, pI n (mk s) 187 11 11 = some (s.1 187 11) := fun s => by simp only [B_m hn]
  have w20 : ∀ (s : zS) (x : Int32), sF n (mk s) 187 11 20 .int (.int x) = some (mk (wI s 187 20 x)) := fun s x => by simp only [B_m hn]
  have r26 : ∀ s, pR n (mk s) 187 11 26 = some 192 := fun s => by simp only [B_m hn]
  have r33 : ∀ s, pR n (mk s) 187 11 33 = some 199 := fun s => by simp only [B_m hn]
  have r34 : ∀ s, pR n (mk s) 187 11 34 = some 200 := fun s => by simp only [B_m hn]
  have r35 : ∀ s, pR n (mk s) 187 11 35 = some 201 := fun s => by simp only [B_m hn]
  have r36 : ∀ s, pR n (mk s) 187 11 36 = some 202 := fun s => by simp only [B_m hn]
  have g189 : ∀ (s : zS) (j : Nat), j < 7 + 7 → gX 1 n (mk s) 192 (nI j) = some (s.1 192 j) := fun s j hj => by simp (disch := omega) only [B_ma hn]
  have g196 : ∀ (s : zS) (j : Nat), j < 4 + 4 → gX 1 n (mk s) 199 (nI j) = some (s.1 199 j) := fun s j hj => by simp (disch := omega) only [B_ma hn]
  have w196 : ∀ (s : zS) (j : Nat) (x : Int32), j < 4 + 4 → wX 1 (fun x => x) n (mk s) 199 (nI j) x = some (mk (wI s 199 j x)) := fun s j x hj => by simp (disch := omega) only [B_ma hn]
  have w197 : ∀ (s : zS) (j : Nat) (x : Int32), j < 4 + 4 → wX 1 (fun x => x) n (mk s) 200 (nI j) x = some (mk (wI s 200 j x)) := fun s j x hj => by simp (disch := omega) only [B_ma hn]
  have w198 : ∀ (s : zS) (j : Nat) (x : Int32), j < 4 + 4 → wX 1 (fun x => x) n (mk s) 201 (nI j) x = some (mk (wI s 201 j x)) := fun s j x hj => by simp (disch := omega) only [B_ma hn]
  have w199 : ∀ (s : zS) (j : Nat) (x : Int32), j < 4 + 4 → wX 1 (fun x => x) n (mk s) 202 (nI j) x = some (mk (wI s 202 j x)) := fun s j x hj => by simp (disch := omega) only [B_ma hn]
  have l4 : (4 : Int32) = nI 4 := rfl
  unfold fX11_walkerLine wkrV rwV
  rw [(B_m hn).1, Option.bind_some, p20, Option.bind_some, h20]
  by_cases c7 : 4 ≤ T 0 2
  · rw [if_neg (show ¬ ¬ nI (T 0 2) = (4 : Int32) from fun g => g (by rw [show T 0 2 = 4 by omega]; rfl))]
    show lnM B N s _ (eB (if 4 ≤ T 0 2 then _ else _) _)
    rw [if_pos c7]
    exact er_ln frDt_r (n_wr (k := 2) hn hH)
  · rw [if_pos (show ¬ nI (T 0 2) = (4 : Int32) by
      show ¬ nI (T 0 2) = nI 4
      rw [n_eq (by omega) (by omega)]; omega)]
    show lnM B N s _ (eB (if 4 ≤ T 0 2 then _ else _) _)
    rw [if_neg c7]
    obtain ⟨s1, b1, b2, b3⟩ := n_adv hn hH
    have e20 : s1.1 187 20 = nI (T 0 2) := by rw [b2.2.2 20 (by omega) (by omega) (by omega) (by omega)]; exact h20
    have P1 : rwN 2 (T 0 2) s s1 [] := rwN_0 (by omega) (frR_N b2)
    have nm : ∀ i, i < T 0 2 → s1.1 199 (4 + i) = nI (T 8 i) ∧ T 8 i < 1073741824 := fun i hi => ⟨by rw [b2.2.1 199 (by omega)]; exact (hG.1 2 (by omega)).2 i hi 0 (by decide), hW.2.2.2.2.2.2.2.2 i hi⟩
    have nw := n_new (B := B) (N := N) (s := s1) (q := adQ B N q) (b := 199) (L := 4) (m := T 0 2) (f := T 8) hn b3 (g196 s1) (w196 s1) (by omega) (by omega) (by omega) nm
    rw [b1, Option.bind_some, r33, Option.bind_some, p20, Option.bind_some, e20]
    show lnM B N s ((fX11_newName n (mk s1) 187 199 (nI 4) (nI (T 0 2))).bind _) (eB (nwV B N (T 8) (T 0 2) (adQ B N q)) _)
    refine n_bdW (frN_Dt (frR_N b2)) nw ?_
    intro b s2 hb f2 H2
    dsimp only
    obtain ⟨-, eb⟩ := nw_ok hb
    have vb : b.1 = (adQ B N q).1.2.1 := by rw [eb]
    have P2 : rwN 2 (T 0 2) s s2 [b.1] := by
      rw [vb]
      exact rwN_N (by omega) (rwN_p (v := (adQ B N q).1.2.1) (by omega) P1 (by decide)) f2
    have e20b : s2.1 187 20 = nI (T 0 2) := by rw [P2.2.2.1 20 (by omega) (by omega) (by omega)]; exact h20
    have e18b : s2.1 187 18 = nI (T 0 0) := by rw [P2.2.2.1 18 (by omega) (by omega) (by omega)]; exact h18
    have pm : ∀ s' : zS, (∀ j, s'.1 192 j = s.1 192 j) → ∀ i, i < T 0 0 → s'.1 192 (7 + i) = nI (T 1 i) ∧ T 1 i < 1073741824 := fun s' h i hi => ⟨by rw [h]; exact (hG.1 0 (by omega)).2 i hi 0 (by decide), hW.2.2.2.2.2.2.1 i hi⟩
    have th := n_there (B := B) (N := N) (s := s2) (q := b.2) (b := 192) (L := 7) (m := T 0 0) (f := T 1) hn H2 (g189 s2) (by omega) s7 (pm s2 (fun j => by rw [P2.2.1 192 (by omega) (show ¬ (199 ≤ 192 ∧ _) from fun h => absurd h.1 (by omega))]))
    rw [p20, Option.bind_some, e20b, r26, Option.bind_some, p18, Option.bind_some, e18b]
    show lnM B N s ((fX11_thereIn n (mk s2) 187 192 (nI 7) (nI (T 0 0))).bind _) (eB (tdV B N (T 1) (T 0 0) b.2) _)
    refine n_bd2 (rwN_Dt (by omega) P2) th ?_
    intro c s3 hc f3 v3 H3
    dsimp only
    have P3 : rwN 2 (T 0 2) s (wI s3 200 (4 + T 0 2) (nI c.1)) [b.1, c.1] := rwN_p (v := c.1) (by omega) (rwN_N (by omega) P2 f3) (show 1 < lnF 2 by decide)
    have H3' : mHd B N (wI s3 200 (4 + T 0 2) (nI c.1)) c.2.1 := mHd_f H3 (fun j _ _ => by rw [wI_ne (by omega)]) (wI_ne (by omega)) (wI_ne (by omega))
    rw [r34, Option.bind_some, p11, Option.bind_some, v3, l4, nI_add, w197 _ _ _ (by omega), Option.bind_some]
    refine n_bd2 (rwN_Dt (by omega) P3) (n_num (q := c.2) (lo := 0) (hi := 9) hn H3' (by omega) (by omega)) ?_
    intro d s4 hd f4 v4 H4
    dsimp only
    have P4 : rwN 2 (T 0 2) s (wI s4 201 (4 + T 0 2) (nI d.1)) [b.1, c.1, d.1] := rwN_p (v := d.1) (by omega) (rwN_N (by omega) P3 f4) (show 2 < lnF 2 by decide)
    have H4' : mHd B N (wI s4 201 (4 + T 0 2) (nI d.1)) d.2.1 := mHd_f H4 (fun j _ _ => by rw [wI_ne (by omega)]) (wI_ne (by omega)) (wI_ne (by omega))
    rw [r35, Option.bind_some, p11, Option.bind_some, v4, w198 _ _ _ (by omega), Option.bind_some]
    refine n_bd2 (rwN_Dt (by omega) P4) (n_num (q := d.2) (lo := 1) (hi := 99) hn H4' (by omega) (by omega)) ?_
    intro e s5 he f5 v5 H5
    dsimp only
    have P5 : rwN 2 (T 0 2) s (wI s5 202 (4 + T 0 2) (nI e.1)) [b.1, c.1, d.1, e.1] := rwN_p (v := e.1) (by omega) (rwN_N (by omega) P4 f5) (show 3 < lnF 2 by decide)
    have H5' : mHd B N (wI s5 202 (4 + T 0 2) (nI e.1)) e.2.1 := mHd_f H5 (fun j _ _ => by rw [wI_ne (by omega)]) (wI_ne (by omega)) (wI_ne (by omega))
    have e20' : (wI s5 202 (4 + T 0 2) (nI e.1)).1 187 20 = nI (T 0 2) := by rw [P5.2.2.1 20 (by omega) (by omega) (by omega)]; exact h20
    have q' : e.2.2 = q.2 := by
      obtain ⟨-, -, x1⟩ := td_ok hc
      obtain ⟨-, -, x2⟩ := nb_ok hd
      obtain ⟨-, -, x3⟩ := nb_ok he
      rw [x3, x2, x1, eb]
      rfl
    have fr := fin_rowN (q' := e.2) (τ := 2) (by omega) hL P5 H5' q' rfl
    refine ⟨wI (wI s5 202 (4 + T 0 2) (nI e.1)) 187 (18 + 2) (nI (T 0 2 + 1)), ?_, fr.1, fr.2⟩
    rw [r36, Option.bind_some, p11, Option.bind_some, v5, w199 _ _ _ (by omega), Option.bind_some, p20, Option.bind_some, e20']
    show ((sF n (mk _) 187 11 20 .int (.int (nI (T 0 2) + nI 1))).bind _) = _
    rw [nI_add, w20, Option.bind_some]
    rfl
end Mo9
