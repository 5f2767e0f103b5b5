/-! ===== lines on the reference: walks ===== -/
section Mm7
variable {n N k a r p m L v b τ M i : Nat} {B f : Nat → Nat} {s s' s0 s1 s2 : zS} {q : zQ} {tok : zK} {T : zT} {I I' : Nat → Nat → Int32} {cs : List Nat} {x : zX}
theorem n_wlk (hn : 239 ≤ n) (hL : mL B N s x) (hW : WX x.2.1) : lnM B N s (fX11_walkLine n (mk s) 187) (wlkV B N x) := by
  obtain ⟨q, T, M⟩ := x
  have hH : mHd B N s q.1 := hL.1
  have hG : mG s.1 T M := hL.2.1
  have s6 : T 0 3 ≤ 12 := hW.1.2.2.2.1
  have s9 : T 0 1 ≤ 9 := hW.1.2.1
  have h21 : s.1 187 21 = nI (T 0 3) := (hG.1 3 (by omega)).1
  have h19 : s.1 187 19 = nI (T 0 1) := (hG.1 1 (by omega)).1
  have p21 : ∀ s, pI n (mk s) 187 11 21 = some (s.1 187 21) := fun s => by simp only [B_m hn]
  have p19 : ∀ s, pI n (mk s) 187 11 19 = some (s.1 187 19) := fun s => by simp only [B_m hn]
  have p11 : ∀ s, pI n (mk s) 187 11 11 = some (s.1 187 11) := fun s => by simp only [B_m hn]
  have w21 : ∀ (s : zS) (x : Int32), sF n (mk s) 187 11 21 .int (.int x) = some (mk (wI s 187 21 x)) := fun s x => by simp only [B_m hn]
  have r27 : ∀ s, pR n (mk s) 187 11 27 = some 193 := fun s => by simp only [B_m hn]
  have r37 : ∀ s, pR n (mk s) 187 11 37 = some 203 := fun s => by simp only [B_m hn]
  have r38 : ∀ s, pR n (mk s) 187 11 38 = some 204 := fun s => by simp only [B_m hn]
  have r39 : ∀ s, pR n (mk s) 187 11 39 = some 205 := fun s => by simp only [B_m hn]
  have g190 : ∀ (s : zS) (j : Nat), j < 9 + 9 → gX 1 n (mk s) 193 (nI j) = some (s.1 193 j) := fun s j hj => by simp (disch := omega) only [B_ma hn]
  have w200 : ∀ (s : zS) (j : Nat) (x : Int32), j < 24 → wX 1 (fun x => x) n (mk s) 203 (nI j) x = some (mk (wI s 203 j x)) := fun s j x hj => by simp (disch := omega) only [B_ma hn]
  have w201 : ∀ (s : zS) (j : Nat) (x : Int32), j < 24 → wX 1 (fun x => x) n (mk s) 204 (nI j) x = some (mk (wI s 204 j x)) := fun s j x hj => by simp (disch := omega) only [B_ma hn]
  have w202 : ∀ (s : zS) (j : Nat) (x : Int32), j < 24 → wX 1 (fun x => x) n (mk s) 205 (nI j) x = some (mk (wI s 205 j x)) := fun s j x hj => by simp (disch := omega) only [B_ma hn]
  have l12 : (12 : Int32) = nI 12 := rfl
  have s4 : T 0 2 ≤ 4 := hW.1.2.2.1
  have h20 : s.1 187 20 = nI (T 0 2) := (hG.1 2 (by omega)).1
  have p20 : ∀ s, pI n (mk s) 187 11 20 = some (s.1 187 20) := fun s => by simp only [B_m hn]
  have r33 : ∀ s, pR n (mk s) 187 11 33 = some 199 := fun s => by simp only [B_m hn]
  have g196 : ∀ (s : zS) (j : Nat), j < 4 + 4 → gX 1 n (mk s) 199 (nI j) = some (s.1 199 j) := fun s j hj => by simp (disch := omega) only [B_ma hn]
  unfold fX11_walkLine wlkV rwV
  rw [(B_m hn).1, Option.bind_some, p21, Option.bind_some, h21]
  by_cases c7 : 12 ≤ T 0 3
  · rw [if_neg (show ¬ ¬ nI (T 0 3) = (12 : Int32) from fun g => g (by rw [show T 0 3 = 12 by omega]; rfl))]
    show lnM B N s _ (eB (if 12 ≤ T 0 3 then _ else _) _)
    rw [if_pos c7]
    exact er_ln frDt_r (n_wr (k := 2) hn hH)
  · rw [if_pos (show ¬ nI (T 0 3) = (12 : Int32) by
      show ¬ nI (T 0 3) = nI 12
      rw [n_eq (by omega) (by omega)]; omega)]
    show lnM B N s _ (eB (if 12 ≤ T 0 3 then _ else _) _)
    rw [if_neg c7]
    obtain ⟨s1, b1, b2, b3⟩ := n_adv hn hH
    have e21 : s1.1 187 21 = nI (T 0 3) := by rw [b2.2.2 21 (by omega) (by omega) (by omega) (by omega)]; exact h21
    have P1 : rwN 3 (T 0 3) s s1 [] := rwN_0 (by omega) (frR_N b2)
    have nm : ∀ i, i < T 0 2 → s1.1 199 (4 + i) = nI (T 8 i) ∧ T 8 i < 1073741824 := fun i hi => ⟨by rw [b2.2.1 199 (by omega)]; exact (hG.1 2 (by omega)).2 i hi 0 (by decide), hW.2.2.2.2.2.2.2.2 i hi⟩
    have th := n_there (B := B) (N := N) (s := s1) (q := adQ B N q) (b := 199) (L := 4) (m := T 0 2) (f := T 8) hn b3 (g196 s1) (by omega) s4 nm
    have e20 : s1.1 187 20 = nI (T 0 2) := by rw [b2.2.2 20 (by omega) (by omega) (by omega) (by omega)]; exact h20
    rw [b1, Option.bind_some, p21, Option.bind_some, e21, r33, Option.bind_some, p20, Option.bind_some, e20]
    show lnM B N s ((fX11_thereIn n (mk s1) 187 199 (nI 4) (nI (T 0 2))).bind _) (eB (tdV B N (T 8) (T 0 2) (adQ B N q)) _)
    refine n_bd2 (frN_Dt (frR_N b2)) th ?_
    intro c s2 hc f2 v2 H2
    dsimp only
    have P2 : rwN 3 (T 0 3) s (wI s2 203 (12 + T 0 3) (nI c.1)) [c.1] := rwN_p (v := c.1) (by omega) (rwN_N (by omega) P1 f2) (by decide)
    have H2' : mHd B N (wI s2 203 (12 + T 0 3) (nI c.1)) c.2.1 := mHd_f H2 (fun j _ _ => by rw [wI_ne (by omega)]) (wI_ne (by omega)) (wI_ne (by omega))
    rw [r37, Option.bind_some, p11, Option.bind_some, v2, l12, nI_add, w200 _ _ _ (by omega), Option.bind_some, r27, Option.bind_some, p19, Option.bind_some, show (wI s2 203 (12 + T 0 3) (nI c.1)).1 187 19 = nI (T 0 1) by rw [P2.2.2.1 19 (by omega) (by omega) (by omega)]; exact h19]
    have nm2 : ∀ i, i < T 0 1 → (wI s2 203 (12 + T 0 3) (nI c.1)).1 193 (9 + i) = nI (T 2 i) ∧ T 2 i < 1073741824 := fun i hi => ⟨by rw [P2.2.1 193 (by omega) (by decide)]; exact (hG.1 1 (by omega)).2 i hi 0 (by decide), hW.2.2.2.2.2.2.2.1 i hi⟩
    refine n_bd2 (rwN_Dt (by omega) P2) (n_there (q := c.2) (b := 193) (L := 9) (m := T 0 1) (f := T 2) hn H2' (g190 _) (by omega) s9 nm2) ?_
    intro d s3 hd f3 v3 H3
    dsimp only
    have P3 : rwN 3 (T 0 3) s (wI s3 204 (12 + T 0 3) (nI d.1)) [c.1, d.1] := rwN_p (v := d.1) (by omega) (rwN_N (by omega) P2 f3) (show 1 < lnF 3 by decide)
    have H3' : mHd B N (wI s3 204 (12 + T 0 3) (nI d.1)) d.2.1 := mHd_f H3 (fun j _ _ => by rw [wI_ne (by omega)]) (wI_ne (by omega)) (wI_ne (by omega))
    rw [r38, Option.bind_some, p11, Option.bind_some, v3, w201 _ _ _ (by omega), Option.bind_some]
    refine n_bd2 (rwN_Dt (by omega) P3) (n_num (q := d.2) (lo := 0) (hi := 99) hn H3' (by omega) (by omega)) ?_
    intro e s4 he f4 v4 H4
    dsimp only
    have P4 : rwN 3 (T 0 3) s (wI s4 205 (12 + T 0 3) (nI e.1)) [c.1, d.1, e.1] := rwN_p (v := e.1) (by omega) (rwN_N (by omega) P3 f4) (show 2 < lnF 3 by decide)
    have H4' : mHd B N (wI s4 205 (12 + T 0 3) (nI e.1)) e.2.1 := mHd_f H4 (fun j _ _ => by rw [wI_ne (by omega)]) (wI_ne (by omega)) (wI_ne (by omega))
    have e21' : (wI s4 205 (12 + T 0 3) (nI e.1)).1 187 21 = nI (T 0 3) := by rw [P4.2.2.1 21 (by omega) (by omega) (by omega)]; exact h21
    have q' : e.2.2 = q.2 := by
      obtain ⟨-, -, x1⟩ := td_ok hc
      obtain ⟨-, -, x2⟩ := td_ok hd
      obtain ⟨-, -, x3⟩ := nb_ok he
      rw [x3, x2, x1]
      rfl
    have fr := fin_rowN (q' := e.2) (τ := 3) (by omega) hL P4 H4' q' rfl
    refine ⟨wI (wI s4 205 (12 + T 0 3) (nI e.1)) 187 (18 + 3) (nI (T 0 3 + 1)), ?_, fr.1, fr.2⟩
    rw [r39, Option.bind_some, p11, Option.bind_some, v4, w202 _ _ _ (by omega), Option.bind_some, p21, Option.bind_some, e21']
    show ((sF n (mk _) 187 11 21 .int (.int (nI (T 0 3) + nI 1))).bind _) = _
    rw [nI_add, w21, Option.bind_some]
    rfl
end Mm7
