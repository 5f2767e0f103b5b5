/-! ===== lines on the reference: what is told once; a law's knots ===== -/
section Mp10
variable {n N k l op a r p m L v b τ M i : Nat} {B f : Nat → Nat} {s s' s0 s1 s2 : zS} {q q' : zQ} {tok : zK} {T : zT} {I I' : Nat → Nat → Int32} {cs : List Nat} {x : zX} {o o' : List (Nat × Nat)}
theorem sx_ps (h : o <:+ o') : ∀ c, o <:+ psN c o'
  | 0 => h
  | c + 1 => (sx_ps h c).trans (List.suffix_cons _ _)
theorem sx_tk {g : zQ → zF} (h : tkQ B N q g = some (.ok q')) (hq : o <:+ q.2.1) : ∃ q1 : zQ, g q1 = some (.ok q') ∧ o <:+ q1.2.1 := by
  rcases tkQ_ok h with ⟨_, e⟩ | ⟨_, e⟩
  · cases e
  · exact ⟨_, e, hq⟩
theorem sx_lo {g : zQ → zF} (hg : ∀ q q', g q = some (.ok q') → o <:+ q.2.1 → o <:+ q'.2.1) : ∀ j q q', loQ B N g l j q = some (.ok q') → o <:+ q.2.1 → o <:+ q'.2.1 := by
  intro j
  induction j with
  | zero => intro q q' h; cases h
  | succ j ih =>
    intro q q' h hq
    have h' : (if lvO q.1.1 = l then tkQ B N q (fun q1 => bdQ (g q1) (fun q2 => loQ B N g l j (emQ (q.1.1, 0) q2))) else some (.ok q)) = some (.ok q') := h
    by_cases e : lvO q.1.1 = l
    · rw [if_pos e] at h'
      obtain ⟨q1, g1, g2⟩ := sx_tk h' hq
      obtain ⟨q2, g3, g4⟩ := bdQ_ok g1
      exact ih _ _ g4 ((hg _ _ g3 g2).trans (List.suffix_cons _ _))
    · rw [if_neg e] at h'
      cases h'
      exact hq
theorem sx_nt {g : zQ → zF} (hg : ∀ q q', g q = some (.ok q') → o <:+ q.2.1 → o <:+ q'.2.1) : ∀ j c q q', ntQ B N g j c q = some (.ok q') → o <:+ q.2.1 → o <:+ q'.2.1 := by
  intro j
  induction j with
  | zero => intro c q q' h; cases h
  | succ j ih =>
    intro c q q' h hq
    have h' : (if q.1.1 = 14 then tkQ B N q (ntQ B N g j (c + 1)) else bdQ (g q) (fun q2 => some (.ok (q2.1, psN c q2.2.1, q2.2.2)))) = some (.ok q') := h
    by_cases e : q.1.1 = 14
    · rw [if_pos e] at h'
      obtain ⟨q1, g1, g2⟩ := sx_tk h' hq
      exact ih _ _ _ g1 g2
    · rw [if_neg e] at h'
      obtain ⟨q2, g3, g4⟩ := bdQ_ok h'
      cases g4
      exact sx_ps (hg _ _ g3 hq) c
/-- an expression's knots come before those that were -/
theorem sx_all : ∀ k l op q q', plv B N k l op q = some (.ok q') → o <:+ q.2.1 → o <:+ q'.2.1
  | 0, _, _, _, _, h, _ => by cases h
  | k + 1, l, op, q, q', h, hq => by
    have ih := sx_all k
    have h' : (if 6 ≤ l then ptQ B N (plv B N k 0 (op + 1)) op q else if l = 2 then ntQ B N (plv B N k 3 op) 66 0 q else bdQ (plv B N k (l + 1) op q) (fun q1 => if l = 3 then l1Q B N (plv B N k 4 op) q1 else loQ B N (plv B N k (l + 1) op) l 66 q1)) = some (.ok q') := h
    by_cases c6 : 6 ≤ l
    · rw [if_pos c6] at h'
      unfold ptQ at h'
      by_cases e : q.1.1 = 25
      · rw [if_pos e] at h'
        by_cases c : 8 ≤ op
        · rw [if_pos c] at h'; cases h'
        · rw [if_neg c] at h'
          obtain ⟨q2, g1, g2⟩ := bdQ_ok h'
          have a := ih _ _ _ _ g1 hq
          by_cases g : q2.1.1 = 26
          · rw [if_pos g] at g2; cases g2; exact a
          · rw [if_neg g] at g2; cases g2
      · rw [if_neg e] at h'
        by_cases lf : isLf q.1.1 = true
        · rw [if_pos lf] at h'
          by_cases b : q.1.1 = 23 ∧ 9999 < q.1.2.1
          · rw [if_pos b] at h'; cases h'
          · rw [if_neg b] at h'
            obtain ⟨q1, g1, g2⟩ := sx_tk h' hq
            cases g1
            exact g2.trans (List.suffix_cons _ _)
        · rw [if_neg lf] at h'; cases h'
    · rw [if_neg c6] at h'
      by_cases c2 : l = 2
      · rw [if_pos c2] at h'
        exact sx_nt (fun q q' => ih 3 op q q') 66 0 q q' h' hq
      · rw [if_neg c2] at h'
        obtain ⟨q1, g1, g2⟩ := bdQ_ok h'
        have a := ih _ _ _ _ g1 hq
        by_cases c3 : l = 3
        · rw [if_pos c3] at g2
          unfold l1Q at g2
          by_cases e : lvO q1.1.1 = 3
          · rw [if_pos e] at g2
            obtain ⟨q2, g3, g4⟩ := sx_tk g2 a
            obtain ⟨q5, g5, g6⟩ := bdQ_ok g3
            cases g6
            exact (ih _ _ _ _ g5 g4).trans (List.suffix_cons _ _)
          · rw [if_neg e] at g2
            cases g2
            exact a
        · rw [if_neg c3] at g2
          exact sx_lo (fun q q' => ih (l + 1) op q q') 66 q1 q' g2 a
theorem sf_all : sfK o o.length = o := by
  unfold sfK
  rw [Nat.sub_self]
  rfl
theorem sf_c {y : Nat × Nat} (h : i ≤ o.length) : sfK (y :: o) i = sfK o i := by
  unfold sfK
  rw [List.length_cons, show o.length + 1 - i = (o.length - i) + 1 by omega]
  rfl
theorem sf_sx (h : o <:+ o') (hi : i ≤ o.length) : sfK o' i = sfK o i := by
  obtain ⟨l, rfl⟩ := h
  induction l with
  | nil => rfl
  | cons y l ih =>
    show sfK (y :: (l ++ o)) i = _
    rw [sf_c (by rw [List.length_append]; omega), ih]
theorem kn_lk : ∀ o : List (Nat × Nat), knM I a o → ∀ i, a ≤ i → i < o.length → ∃ y, sfK o (i + 1) = y :: sfK o i ∧ kE I (64 + i) y (hdK a (sfK o i))
  | [], _, i, _, h => absurd h (Nat.not_lt_zero _)
  | y :: o, h, i, h1, h2 => by
    have h2 : i < o.length + 1 := h2
    by_cases e : i = o.length
    · subst e
      refine ⟨y, ?_, ?_⟩
      · rw [sf_c (Nat.le_refl _), sf_all]
        exact sf_all (o := y :: o)
      · rw [sf_c (Nat.le_refl _), sf_all]
        exact h.1 h1
    · rw [sf_c (by omega), sf_c (by omega)]
      exact kn_lk o h.2 i h1 (by omega)
theorem lk_sx (h : lkM I a b o) (g : o <:+ o') : lkM I a b o' := by
  obtain ⟨h1, h2, h3, h4⟩ := h
  have hl : o.length ≤ o'.length := g.length_le
  refine ⟨h1, by omega, by rw [sf_sx g h2]; exact h3, fun i x1 x2 => ?_⟩
  rw [sf_sx g (by omega), sf_sx g (by omega)]
  exact h4 i x1 x2
theorem lnM_t {c : Option (Int32 × ai_H)} {r : Except (Nat × Nat) zX} (f : frDt s s1) (h : lnM B N s1 c r) : lnM B N s c r := by
  cases r with
  | error e =>
    obtain ⟨s', g1, g2, g3⟩ := h
    exact ⟨s', g1, frDt_t f g2, g3⟩
  | ok y =>
    obtain ⟨s', g1, g2, g3⟩ := h
    exact ⟨s', g1, frDt_t f g2, g3⟩
theorem frDt_187 {j : Nat} {x : Int32} : frDt s (wI s 190 j x) := by
  refine ⟨rfl, fun b hb => wI_ne (by omega), fun i _ _ _ => by rw [wI_ne (by omega)], fun i _ => ?_, fun τ hτ c hc i _ => ?_, fun i _ => ?_⟩
  · rw [wI_ne (by omega), wI_ne (by omega), wI_ne (by omega), wI_ne (by omega)]; exact ⟨rfl, rfl, rfl, rfl⟩
  · have := aF1 hτ; rw [wI_ne (by omega)]
  · rw [wI_ne (by omega), wI_ne (by omega), wI_ne (by omega)]; exact ⟨rfl, rfl, rfl⟩
theorem frDt_up {j c : Nat} {x : Int32} (hc : c = 191 ∨ c = 209 ∨ c = 210 ∨ c = 211) (hj : 3 ≤ j) : frDt s (wI s c j x) := by
  have ne : ∀ i, i < 3 → ∀ d, (wI s c j x).1 d i = s.1 d i := fun i hi d => by
    by_cases e : d = c
    · subst e
      rw [wI_at, upd_ne (by omega)]
    · rw [wI_ne e]
  refine ⟨rfl, fun b hb => wI_ne (by omega), fun i _ _ _ => by rw [wI_ne (by omega)], fun i hi => ⟨ne i hi _, ne i hi _, ne i hi _, ne i hi _⟩, fun τ hτ d hd i _ => ?_, fun i _ => ?_⟩
  · have := aF1 hτ; rw [wI_ne (by omega)]
  · rw [wI_ne (by omega), wI_ne (by omega), wI_ne (by omega)]; exact ⟨rfl, rfl, rfl⟩
theorem n_onc {lo hi : Nat} (hn : 239 ≤ n) (hL : mL B N s x) (hk : k < 3) (hx : x.1.1.1 = 5 + k) (hlo : lo ≤ 99999) (hhi : hi ≤ 99999) : lnM B N s (fX11_onceLine n (mk s) 187 (nI k) (nI lo) (nI hi)) (oncV B N (6 + k) lo hi x) := by
  obtain ⟨q, T, M⟩ := x
  have hx : q.1.1 = 5 + k := hx
  have hH : mHd B N s q.1 := hL.1
  have hG : mG s.1 T M := hL.2.1
  have k23 : s.1 187 23 = nI q.2.1.length := hL.2.2.1.1
  have k54 : s.1 187 54 = nI q.2.2 := hL.2.2.1.2.1
  have k45 : s.1 187 4 = nI 0 ∧ s.1 187 5 = m1 := hL.2.2.1.2.2
  have klk : ∀ w, w < 3 → T 18 w ≠ 0 → lkM s.1 (T 19 w) (T 20 w) q.2.1 := hL.2.2.2
  have p11 : ∀ s, pI n (mk s) 187 11 11 = some (s.1 187 11) := fun s => by simp only [B_m hn]
  have r24 : ∀ s, pR n (mk s) 187 11 24 = some 190 := fun s => by simp only [B_m hn]
  have r25 : ∀ s, pR n (mk s) 187 11 25 = some 191 := fun s => by simp only [B_m hn]
  have g187 : ∀ (s : zS) (j : Nat), j < 3 → gB n (mk s) 190 (nI j) = some (s.1 190 j) := fun s j hj => by simp (disch := omega) only [B_ma hn]
  have w187 : ∀ (s : zS) (j : Nat) (x : Int32), j < 3 → wB n (mk s) 190 (nI j) x = some (mk (wI s 190 j (vp_nar .boolean x))) := fun s j x hj => by simp (disch := omega) only [B_ma hn]
  have w188 : ∀ (s : zS) (j : Nat) (x : Int32), j < 6 → wX 1 (fun x => x) n (mk s) 191 (nI j) x = some (mk (wI s 191 j x)) := fun s j x hj => by simp (disch := omega) only [B_ma hn]
  have hb : s.1 190 k = nI (M.testBit (5 + k)).toNat := hG.2.2.1 k hk
  have l3 : (3 : Int32) = nI 3 := rfl
  unfold fX11_onceLine oncV onV
  rw [(B_m hn).1, Option.bind_some, r24, Option.bind_some, g187 _ _ hk, Option.bind_some, hb]
  show lnM B N s _ (eB (if M.testBit q.1.1 = true then _ else _) _)
  rw [hx]
  by_cases c : M.testBit (5 + k) = true
  · rw [if_pos c, c, if_neg (show ¬ nI (true.toNat) = (0 : Int32) by decide)]
    exact er_ln frDt_r (n_wr (k := 3) hn hH)
  · rw [if_neg c, Bool.eq_false_iff.mpr c, if_pos (show nI (false.toNat) = (0 : Int32) from rfl), Option.bind_some, w187 _ _ _ hk, Option.bind_some, show vp_nar .boolean (1 : Int32) = nI 1 from rfl]
    have H1 : mHd B N (wI s 190 k (nI 1)) q.1 := mHd_f hH (fun j _ _ => by rw [wI_ne (by omega)]) (wI_ne (by omega)) (wI_ne (by omega))
    obtain ⟨s2, b1, b2, b3⟩ := n_adv hn H1
    rw [b1, Option.bind_some]
    refine n_bd2 (r0 := nbV B N lo hi (adQ B N q)) (frDt_t frDt_187 (frN_Dt (frR_N b2))) (n_num (q := adQ B N q) hn b3 hlo hhi) ?_
    intro d s3 hd f3 v3 H3
    dsimp only
    obtain ⟨-, -, ed⟩ := nb_ok hd
    have ed2 : d.2.2 = q.2 := by rw [ed]; rfl
    obtain ⟨s4, e4⟩ : ∃ s4 : zS, s4 = wI s3 191 (3 + k) (nI d.1) := ⟨_, rfl⟩
    have o184 : ∀ j, ¬ (7 ≤ j ∧ j ≤ 11) → j ≠ 7 → j ≠ 8 → s4.1 187 j = s.1 187 j := fun j g1 g2 g3 => by
      rw [e4, wI_ne (by omega), f3.2.2 j g1 g2 g3, b2.2.2 j (by omega) (by omega) (by omega) (by omega), wI_ne (by omega)]
    have oth : ∀ b, b ≠ 187 → b ≠ 190 → b ≠ 191 → s4.1 b = s.1 b := fun b g1 g2 g3 => by rw [e4, wI_ne g3, f3.2.1 b g1, b2.2.1 b g1, wI_ne g2]
    have o188 : ∀ j, s4.1 191 j = if j = 3 + k then nI d.1 else s.1 191 j := fun j => by
      rw [e4, wI_at]
      by_cases e : j = 3 + k
      · rw [e, upd_at, if_pos rfl]
      · rw [upd_ne e, if_neg e, f3.2.1 191 (by omega), b2.2.1 191 (by omega), wI_ne (by omega)]
    have o187 : ∀ j, s4.1 190 j = if j = k then nI 1 else s.1 190 j := fun j => by
      rw [e4, wI_ne (by omega), f3.2.1 190 (by omega), b2.2.1 190 (by omega), wI_at]
      by_cases e : j = k
      · rw [e, upd_at, if_pos rfl]
      · rw [upd_ne e, if_neg e]
    rw [r25, Option.bind_some, p11, Option.bind_some, v3, l3, nI_add, w188 _ _ _ (by omega), Option.bind_some, ← e4]
    have cn : ∀ a j, (a ≠ 0 ∨ j ≠ 6 + k) → cellU T 0 (6 + k) d.1 a j = T a j := fun a j h => cellU_ne h
    refine ⟨s4, rfl, ?_, ?_, ⟨fun τ hτ => ?_, ⟨?_, ?_, ?_⟩, fun i hi => ?_, fun w hw => ?_⟩, ⟨?_, ?_, ?_, ?_⟩, fun w hw => ?_⟩
    · rw [e4]
      exact frDt_t frDt_187 (frDt_t (frN_Dt (frR_N b2)) (frDt_t (frN_Dt f3) (frDt_up (by omega) (by omega))))
    · rw [e4]
      exact mHd_f H3 (fun j _ _ => by rw [wI_ne (by omega)]) (wI_ne (by omega)) (wI_ne (by omega))
    · obtain ⟨g1, g2⟩ := hG.1 τ hτ
      obtain ⟨a1, a2, a3⟩ := aF1 hτ
      obtain ⟨x1, x2, _, _, _⟩ := tF1 hτ
      refine ⟨?_, fun i hi c hc => ?_⟩
      · show s4.1 187 (18 + τ) = nI (cellU T 0 (6 + k) d.1 0 τ)
        rw [cn 0 τ (by omega), o184 _ (by omega) (by omega) (by omega)]; exact g1
      · have hi : i < cellU T 0 (6 + k) d.1 0 τ := hi
        rw [cn 0 τ (by omega)] at hi
        show s4.1 (arF τ + c) (lmF τ + i) = nI (cellU T 0 (6 + k) d.1 (baF τ + c) i)
        rw [cn _ _ (by omega), oth _ (by omega) (by omega) (by omega)]; exact g2 i hi c hc
    · show s4.1 191 3 = nI (cellU T 0 (6 + k) d.1 0 6)
      rw [o188]
      by_cases e : k = 0
      · subst e; rw [if_pos rfl, cellU_at]
      · rw [if_neg (by omega), cn 0 6 (by omega)]; exact hG.2.1.1
    · show s4.1 191 4 = nI (cellU T 0 (6 + k) d.1 0 7)
      rw [o188]
      by_cases e : k = 1
      · subst e; rw [if_pos rfl, cellU_at]
      · rw [if_neg (by omega), cn 0 7 (by omega)]; exact hG.2.1.2.1
    · show s4.1 191 5 = nI (cellU T 0 (6 + k) d.1 0 8)
      rw [o188]
      by_cases e : k = 2
      · subst e; rw [if_pos rfl, cellU_at]
      · rw [if_neg (by omega), cn 0 8 (by omega)]; exact hG.2.1.2.2
    · show s4.1 190 i = nI ((M ||| 2 ^ (5 + k)).testBit (5 + i)).toNat
      rw [o187, or_bit]
      by_cases e : i = k
      · rw [if_pos e, e, decide_eq_true rfl, Bool.or_true]; rfl
      · rw [if_neg e, decide_eq_false (by omega), Bool.or_false]; exact hG.2.2.1 i hi
    · show s4.1 209 (3 + w) = nI ((M ||| 2 ^ (5 + k)).testBit (9 + w)).toNat ∧ (cellU T 0 (6 + k) d.1 18 w ≠ 0 → s4.1 210 (3 + w) = nI (cellU T 0 (6 + k) d.1 19 w) ∧ s4.1 211 (3 + w) = nI (cellU T 0 (6 + k) d.1 20 w))
      rw [or_bit, decide_eq_false (by omega), Bool.or_false, cn 18 w (by omega), cn 19 w (by omega), cn 20 w (by omega), oth 209 (by omega) (by omega) (by omega), oth 210 (by omega) (by omega) (by omega), oth 211 (by omega) (by omega) (by omega)]
      exact hG.2.2.2 w hw
    · show s4.1 187 23 = nI d.2.2.1.length
      rw [ed2, o184 23 (by omega) (by omega) (by omega)]; exact k23
    · show s4.1 187 54 = nI d.2.2.2
      rw [ed2, o184 54 (by omega) (by omega) (by omega)]; exact k54
    · rw [o184 4 (by omega) (by omega) (by omega)]; exact k45.1
    · rw [o184 5 (by omega) (by omega) (by omega)]; exact k45.2
    · show cellU T 0 (6 + k) d.1 18 w ≠ 0 → lkM s4.1 (cellU T 0 (6 + k) d.1 19 w) (cellU T 0 (6 + k) d.1 20 w) d.2.2.1
      rw [cn 18 w (by omega), cn 19 w (by omega), cn 20 w (by omega), ed2]
      intro g
      refine lk_f (klk w hw g) (fun i _ => ?_)
      rw [oth 212 (by omega) (by omega) (by omega), oth 213 (by omega) (by omega) (by omega), oth 214 (by omega) (by omega) (by omega)]
      exact ⟨rfl, rfl, rfl⟩
end Mp10
