/-! ===== lines on the reference: bulls ===== -/
section Ml6
variable {n N k a r p m L v b τ M i : Nat} {B f : Nat → Nat} {s s' s0 s1 s2 : zS} {q : zQ} {tok : zK} {T : zT} {I I' : Nat → Nat → Int32} {cs : List Nat} {x : zX}
theorem n_bd2 {c : Option (Int32 × ai_H)} {K : Int32 × ai_H → Option (Int32 × ai_H)} {r0 : Except (Nat × Nat) (Nat × zQ)} {G : Nat × zQ → Except (Nat × Nat) zX} (f : frDt s s1) (h : ouN B N s1 c r0) (hk : ∀ b s', r0 = .ok b → frN s1 s' → s'.1 187 11 = nI b.1 → mHd B N s' b.2.1 → lnM B N s (K (nI 1, mk s')) (G b)) : lnM B N s (c.bind fun q => if ¬ q.1 = (0 : Int32) then K q else some ((0 : Int32), q.2)) (eB r0 G) := by
  cases r0 with
  | error e =>
    obtain ⟨s', g1, g2, g3, g4⟩ := h
    refine ⟨s', ?_, frDt_t f (frNe_Dt g2), g3, g4⟩
    rw [g1, Option.bind_some, if_neg (show ¬ ¬ nI 0 = (0 : Int32) from fun g => g rfl)]
    rfl
  | ok b =>
    obtain ⟨s', g1, g2, g3, g4⟩ := h
    rw [g1, Option.bind_some, if_pos (show ¬ nI 1 = (0 : Int32) by decide)]
    exact hk b s' rfl g2 g3 g4
theorem n_bul (hn : 239 ≤ n) (hL : mL B N s x) (hW : WX x.2.1) : lnM B N s (fX11_bullLine n (mk s) 187) (bulV B N x) := by
  obtain ⟨q, T, M⟩ := x
  have hH : mHd B N s q.1 := hL.1
  have hG : mG s.1 T M := hL.2.1
  have s6 : T 0 4 ≤ 6 := hW.1.2.2.2.2
  have s9 : T 0 1 ≤ 9 := hW.1.2.1
  have h22 : s.1 187 22 = nI (T 0 4) := (hG.1 4 (by omega)).1
  have h19 : s.1 187 19 = nI (T 0 1) := (hG.1 1 (by omega)).1
  have p22 : ∀ s, pI n (mk s) 187 11 22 = some (s.1 187 22) := fun s => by simp only [B_m hn]
  have p19 : ∀ s, pI n (mk s) 187 11 19 = some (s.1 187 19) := fun s => by simp only [B_m hn]
  have p11 : ∀ s, pI n (mk s) 187 11 11 = some (s.1 187 11) := fun s => by simp only [B_m hn]
  have w22 : ∀ (s : zS) (x : Int32), sF n (mk s) 187 11 22 .int (.int x) = some (mk (wI s 187 22 x)) := fun s x => by simp only [B_m hn]
  have r27 : ∀ s, pR n (mk s) 187 11 27 = some 193 := fun s => by simp only [B_m hn]
  have r40 : ∀ s, pR n (mk s) 187 11 40 = some 206 := fun s => by simp only [B_m hn]
  have r41 : ∀ s, pR n (mk s) 187 11 41 = some 207 := fun s => by simp only [B_m hn]
  have r42 : ∀ s, pR n (mk s) 187 11 42 = some 208 := fun s => by simp only [B_m hn]
  have g190 : ∀ (s : zS) (j : Nat), j < 9 + 9 → gX 1 n (mk s) 193 (nI j) = some (s.1 193 j) := fun s j hj => by simp (disch := omega) only [B_ma hn]
  have w203 : ∀ (s : zS) (j : Nat) (x : Int32), j < 12 → wX 1 (fun x => x) n (mk s) 206 (nI j) x = some (mk (wI s 206 j x)) := fun s j x hj => by simp (disch := omega) only [B_ma hn]
  have w204 : ∀ (s : zS) (j : Nat) (x : Int32), j < 12 → wX 1 (fun x => x) n (mk s) 207 (nI j) x = some (mk (wI s 207 j x)) := fun s j x hj => by simp (disch := omega) only [B_ma hn]
  have w205 : ∀ (s : zS) (j : Nat) (x : Int32), j < 12 → wX 1 (fun x => x) n (mk s) 208 (nI j) x = some (mk (wI s 208 j x)) := fun s j x hj => by simp (disch := omega) only [B_ma hn]
  have l6 : (6 : Int32) = nI 6 := rfl
  unfold fX11_bullLine bulV rwV
  rw [(B_m hn).1, Option.bind_some, p22, Option.bind_some, h22]
  by_cases c7 : 6 ≤ T 0 4
  · rw [if_neg (show ¬ ¬ nI (T 0 4) = (6 : Int32) from fun g => g (by rw [show T 0 4 = 6 by omega]; rfl))]
    show lnM B N s _ (eB (if 6 ≤ T 0 4 then _ else _) _)
    rw [if_pos c7]
    exact er_ln frDt_r (n_wr (k := 2) hn hH)
  · rw [if_pos (show ¬ nI (T 0 4) = (6 : Int32) by
      show ¬ nI (T 0 4) = nI 6
      rw [n_eq (by omega) (by omega)]; omega)]
    show lnM B N s _ (eB (if 6 ≤ T 0 4 then _ else _) _)
    rw [if_neg c7]
    obtain ⟨s1, b1, b2, b3⟩ := n_adv hn hH
    have e22 : s1.1 187 22 = nI (T 0 4) := by rw [b2.2.2 22 (by omega) (by omega) (by omega) (by omega)]; exact h22
    have e19 : s1.1 187 19 = nI (T 0 1) := by rw [b2.2.2 19 (by omega) (by omega) (by omega) (by omega)]; exact h19
    have P1 : rwN 4 (T 0 4) s s1 [] := rwN_0 (by omega) (frR_N b2)
    have nm : ∀ i, i < T 0 1 → s1.1 193 (9 + i) = nI (T 2 i) ∧ T 2 i < 1073741824 := fun i hi => ⟨by rw [b2.2.1 193 (by omega)]; exact (hG.1 1 (by omega)).2 i hi 0 (by decide), hW.2.2.2.2.2.2.2.1 i hi⟩
    have th := n_there (B := B) (N := N) (s := s1) (q := adQ B N q) (b := 193) (L := 9) (m := T 0 1) (f := T 2) hn b3 (g190 s1) (by omega) s9 nm
    rw [b1, Option.bind_some, p22, Option.bind_some, e22, r27, Option.bind_some, p19, Option.bind_some, e19]
    show lnM B N s ((fX11_thereIn n (mk s1) 187 193 (nI 9) (nI (T 0 1))).bind _) (eB (tdV B N (T 2) (T 0 1) (adQ B N q)) _)
    refine n_bd2 (frN_Dt (frR_N b2)) th ?_
    intro c s2 hc f2 v2 H2
    dsimp only
    have P2 : rwN 4 (T 0 4) s (wI s2 206 (6 + T 0 4) (nI c.1)) [c.1] := rwN_p (v := c.1) (by omega) (rwN_N (by omega) P1 f2) (by decide)
    have H2' : mHd B N (wI s2 206 (6 + T 0 4) (nI c.1)) c.2.1 := mHd_f H2 (fun j _ _ => by rw [wI_ne (by omega)]) (wI_ne (by omega)) (wI_ne (by omega))
    rw [r40, Option.bind_some, p11, Option.bind_some, v2, l6, nI_add, w203 _ _ _ (by omega), Option.bind_some]
    refine n_bd2 (rwN_Dt (by omega) P2) (n_num (q := c.2) (lo := 0) (hi := 99) hn H2' (by omega) (by omega)) ?_
    intro d s3 hd f3 v3 H3
    dsimp only
    have P3 : rwN 4 (T 0 4) s (wI s3 207 (6 + T 0 4) (nI d.1)) [c.1, d.1] := rwN_p (v := d.1) (by omega) (rwN_N (by omega) P2 f3) (show 1 < lnF 4 by decide)
    have H3' : mHd B N (wI s3 207 (6 + T 0 4) (nI d.1)) d.2.1 := mHd_f H3 (fun j _ _ => by rw [wI_ne (by omega)]) (wI_ne (by omega)) (wI_ne (by omega))
    rw [r41, Option.bind_some, p11, Option.bind_some, v3, w204 _ _ _ (by omega), Option.bind_some]
    refine n_bd2 (rwN_Dt (by omega) P3) (n_num (q := d.2) (lo := 0) (hi := 99) hn H3' (by omega) (by omega)) ?_
    intro e s4 he f4 v4 H4
    dsimp only
    have P4 : rwN 4 (T 0 4) s (wI s4 208 (6 + T 0 4) (nI e.1)) [c.1, d.1, e.1] := rwN_p (v := e.1) (by omega) (rwN_N (by omega) P3 f4) (show 2 < lnF 4 by decide)
    have H4' : mHd B N (wI s4 208 (6 + T 0 4) (nI e.1)) e.2.1 := mHd_f H4 (fun j _ _ => by rw [wI_ne (by omega)]) (wI_ne (by omega)) (wI_ne (by omega))
    have e22' : (wI s4 208 (6 + T 0 4) (nI e.1)).1 187 22 = nI (T 0 4) := by rw [P4.2.2.1 22 (by omega) (by omega) (by omega)]; exact h22
    have q' : e.2.2 = q.2 := by
      obtain ⟨-, -, x1⟩ := td_ok hc
      obtain ⟨-, -, x2⟩ := nb_ok hd
      obtain ⟨-, -, x3⟩ := nb_ok he
      rw [x3, x2, x1]
      rfl
    have fr := fin_rowN (q' := e.2) (τ := 4) (by omega) hL P4 H4' q' rfl
    refine ⟨wI (wI s4 208 (6 + T 0 4) (nI e.1)) 187 (18 + 4) (nI (T 0 4 + 1)), ?_, fr.1, fr.2⟩
    rw [r42, Option.bind_some, p11, Option.bind_some, v4, w205 _ _ _ (by omega), Option.bind_some, p22, Option.bind_some, e22']
    show ((sF n (mk _) 187 11 22 .int (.int (nI (T 0 4) + nI 1))).bind _) = _
    rw [nI_add, w22, Option.bind_some]
    rfl
end Ml6
