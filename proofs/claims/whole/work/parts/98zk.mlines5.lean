/-! ===== lines on the reference: places ===== -/
section Mk5
variable {n N k a r p m L v b τ M i : Nat} {B f : Nat → Nat} {s s' s0 s1 s2 : zS} {q : zQ} {tok : zK} {T : zT} {I I' : Nat → Nat → Int32} {cs : List Nat} {x : zX}
theorem er_ln {c : Option (Int32 × ai_H)} {e : Nat × Nat} (f : frDt s s1) (h : erN s1 c e) : lnM B N s c (.error e) := by
  obtain ⟨s', g1, g2, g3, g4⟩ := h
  exact ⟨s', g1, frDt_t f (frNe_Dt g2), g3, g4⟩
/-- after a step that may fail -/
theorem n_if {c : Option (Int32 × ai_H)} {K : ai_H → Option (Int32 × ai_H)} {e : Nat × Nat} (f : frDt s s1) (h : erN s1 c e) : lnM B N s (c.bind fun q => if ¬ q.1 = (0 : Int32) then K q.2 else some ((0 : Int32), q.2)) (.error e) := by
  obtain ⟨s', g1, g2, g3, g4⟩ := h
  refine ⟨s', ?_, frDt_t f (frNe_Dt g2), g3, g4⟩
  rw [g1, Option.bind_some, if_neg (show ¬ ¬ nI 0 = (0 : Int32) from fun g => g rfl)]
  rfl
theorem n_pla (hn : 239 ≤ n) (hL : mL B N s x) (hW : WX x.2.1) : lnM B N s (fX11_placeLine n (mk s) 187) (plaV B N x) := by
  obtain ⟨q, T, M⟩ := x
  have hH : mHd B N s q.1 := hL.1
  have hG : mG s.1 T M := hL.2.1
  have s7 : T 0 0 ≤ 7 := hW.1.1
  have h18 : s.1 187 18 = nI (T 0 0) := (hG.1 0 (by omega)).1
  have p18 : ∀ s, pI n (mk s) 187 11 18 = some (s.1 187 18) := fun s => by simp only [B_m hn]
  have w18 : ∀ (s : zS) (x : Int32), sF n (mk s) 187 11 18 .int (.int x) = some (mk (wI s 187 18 x)) := fun s x => by simp only [B_m hn]
  have r26 : ∀ s, pR n (mk s) 187 11 26 = some 192 := fun s => by simp only [B_m hn]
  have g189 : ∀ (s : zS) (j : Nat), j < 7 + 7 → gX 1 n (mk s) 192 (nI j) = some (s.1 192 j) := fun s j hj => by simp (disch := omega) only [B_ma hn]
  have w189 : ∀ (s : zS) (j : Nat) (x : Int32), j < 7 + 7 → wX 1 (fun x => x) n (mk s) 192 (nI j) x = some (mk (wI s 192 j x)) := fun s j x hj => by simp (disch := omega) only [B_ma hn]
  unfold fX11_placeLine plaV rwV
  rw [(B_m hn).1, Option.bind_some, p18, Option.bind_some, h18]
  by_cases c7 : 7 ≤ T 0 0
  · rw [if_neg (show ¬ ¬ nI (T 0 0) = (7 : Int32) from fun g => g (by rw [show T 0 0 = 7 by omega]; rfl))]
    show lnM B N s _ (eB (if 7 ≤ T 0 0 then _ else _) _)
    rw [if_pos c7]
    exact er_ln frDt_r (n_wr (k := 2) hn hH)
  · rw [if_pos (show ¬ nI (T 0 0) = (7 : Int32) by
      show ¬ nI (T 0 0) = nI 7
      rw [n_eq (by omega) (by omega)]; omega)]
    show lnM B N s _ (eB (if 7 ≤ T 0 0 then _ else _) _)
    rw [if_neg c7]
    obtain ⟨s1, b1, b2, b3⟩ := n_adv hn hH
    have e18 : s1.1 187 18 = nI (T 0 0) := by rw [b2.2.2 18 (by omega) (by omega) (by omega) (by omega)]; exact h18
    have P1 : rwN 0 (T 0 0) s s1 [] := rwN_0 (by omega) (frR_N b2)
    have nm : ∀ i, i < T 0 0 → s1.1 192 (7 + i) = nI (T 1 i) ∧ T 1 i < 1073741824 := fun i hi => ⟨by rw [b2.2.1 192 (by omega)]; exact (hG.1 0 (by omega)).2 i hi 0 (by decide), hW.2.2.2.2.2.2.1 i hi⟩
    have nw := n_new (B := B) (N := N) (s := s1) (q := adQ B N q) (b := 192) (L := 7) (m := T 0 0) (f := T 1) hn b3 (g189 s1) (w189 s1) (by omega) (by omega) (by omega) nm
    rw [b1, Option.bind_some, r26, Option.bind_some, p18, Option.bind_some, e18]
    show lnM B N s ((fX11_newName n (mk s1) 187 192 (nI 7) (nI (T 0 0))).bind _) (eB (nwV B N (T 1) (T 0 0) (adQ B N q)) _)
    cases hr : nwV B N (T 1) (T 0 0) (adQ B N q) with
    | error e =>
      rw [hr] at nw
      show lnM B N s _ (.error e)
      exact n_if (K := fun h => (pI n h 187 11 18).bind fun x6 => (sF n h 187 11 18 .int (.int (x6 + (1 : Int32)))).bind fun h7 => some ((1 : Int32), h7)) (frN_Dt (frR_N b2)) nw
    | ok z =>
      rw [hr] at nw
      obtain ⟨s2, c1, c2, c3⟩ := nw
      obtain ⟨-, rfl⟩ := nw_ok hr
      have P2 : rwN 0 (T 0 0) s s2 [(adQ B N q).1.2.1] := rwN_N (by omega) (rwN_p (v := (adQ B N q).1.2.1) (by omega) P1 (by decide)) c2
      have e18' : s2.1 187 18 = nI (T 0 0) := by rw [P2.2.2.1 18 (by omega) (by omega) (by omega)]; exact h18
      have fr := fin_rowN (q' := adQ B N (adQ B N q)) (τ := 0) (by omega) hL P2 c3 rfl rfl
      refine ⟨wI s2 187 (18 + 0) (nI (T 0 0 + 1)), ?_, fr.1, fr.2⟩
      rw [c1, Option.bind_some, if_pos (show ¬ nI 1 = (0 : Int32) by decide)]
      show ((pI n (mk s2) 187 11 18).bind _) = _
      rw [p18, Option.bind_some, e18']
      show ((sF n (mk s2) 187 11 18 .int (.int (nI (T 0 0) + nI 1))).bind _) = _
      rw [nI_add, w18, Option.bind_some]
      rfl
/-- a step, then what comes -/
theorem n_bd {c : Option (Int32 × ai_H)} {K : ai_H → Option (Int32 × ai_H)} {r0 : Except (Nat × Nat) (Nat × zQ)} {G : Nat × zQ → Except (Nat × Nat) zX} (f : frDt s s1) (h : ouN B N s1 c r0) (hk : ∀ b s', r0 = .ok b → frN s1 s' → s'.1 187 11 = nI b.1 → mHd B N s' b.2.1 → lnM B N s (K (mk s')) (G b)) : lnM B N s (c.bind fun q => if ¬ q.1 = (0 : Int32) then K q.2 else some ((0 : Int32), q.2)) (eB r0 G) := by
  cases r0 with
  | error e => exact n_if f h
  | ok b =>
    obtain ⟨s', g1, g2, g3, g4⟩ := h
    rw [g1, Option.bind_some, if_pos (show ¬ nI 1 = (0 : Int32) by decide)]
    exact hk b s' rfl g2 g3 g4
end Mk5
