/-! ===== expressions on the reference: signs ===== -/
section Mb6
variable {n N k a r : Nat} {B : Nat → Nat} {s s' s1 s2 : zS} {q : zQ} {y : zY} {W : List Nat} {o : List (Nat × Nat)} {kc br : Nat} {wa may : Bool} {tok : zK}
theorem bdP_hd : ∀ (W : List Nat) (o : List (Nat × Nat)), ∀ h t, (bdP r W o).1 = h :: t → rkO h < r
  | [], o, h, t, e => by cases e
  | x :: W, o, h, t, e => by
    have e' : (if r ≤ rkO x then bdP r W ((x, 0) :: o) else (x :: W, o)).1 = h :: t := e
    by_cases c : r ≤ rkO x
    · rw [if_pos c] at e'; exact bdP_hd W _ h t e'
    · rw [if_neg c] at e'; cases e'; omega
theorem bdP_mem : ∀ (W : List Nat) (o : List (Nat × Nat)), ∀ h, h ∈ (bdP r W o).1 → h ∈ W
  | [], o, h, e => e
  | x :: W, o, h, e => by
    have e' : h ∈ (if r ≤ rkO x then bdP r W ((x, 0) :: o) else (x :: W, o)).1 := e
    by_cases c : r ≤ rkO x
    · rw [if_pos c] at e'; exact List.mem_cons_of_mem _ (bdP_mem W _ h e')
    · rw [if_neg c] at e'; exact e'
theorem bdP_25 (hr : 1 ≤ r) : ∀ (W : List Nat) (o : List (Nat × Nat)), (bdP r W o).1.length + nnW W = nnW (bdP r W o).1 + W.length
  | [], o => rfl
  | x :: W, o => by
    have e : bdP r (x :: W) o = if r ≤ rkO x then bdP r W ((x, 0) :: o) else (x :: W, o) := rfl
    rw [e]
    by_cases c : r ≤ rkO x
    · rw [if_pos c]
      have ih := bdP_25 hr W ((x, 0) :: o)
      have n25 : x ≠ 25 := fun g => by rw [g] at c; have : rkO 25 = 0 := rfl; omega
      have nn : nnW (x :: W) = 1 + nnW W := by show (if x = 25 then 0 else 1) + nnW W = _; rw [if_neg n25]
      rw [nn]
      show _ = _ + (W.length + 1)
      omega
    · rw [if_neg c]
      show W.length + 1 + nnW (x :: W) = nnW (x :: W) + (W.length + 1)
      omega
theorem m_bindY (hn : 239 ≤ n) (hr : 1 ≤ r) (hr7 : r < 100) (hR : mR a s o kc W br false may) (hj : jY a ((tok, o, kc), W, br, false, may)) : ∃ s', fX11_bind n (mk s) 187 (nI r) = some ((), mk s') ∧ frBd a s s' ∧ mR a s' (bdP r W o).2 kc (bdP r W o).1 br false may ∧ jY a ((tok, (bdP r W o).2, kc), (bdP r W o).1, br, false, may) := by
  obtain ⟨⟨h1, h2, h3, h4, h5, h6, h7⟩, h8, h9, h10⟩ := hR
  obtain ⟨j1, j2, j3, j4, j5, j6, j7⟩ := hj
  have j2 : (hdK a o).length + 0 = bnW W + 1 := j2
  have j3 : a ≤ o.length := j3
  have j4 : o.length + nnW W = kc := j4
  have j5 : kc ≤ 64 := j5
  have j6 : W.length = nnW W + br := j6
  have j7 : br ≤ 8 := j7
  obtain ⟨s', b1, b2, ⟨⟨b3, b4, b5⟩, b6, b7, b8⟩, b9, b10, b11⟩ := m_bind (a := a) hn hr hr7 W o s bi_K (by unfold bi_K; omega) (by omega) j1 (by omega) j3 (by omega) ⟨⟨h1, h3, h4⟩, h8, h9, h10⟩
  refine ⟨s', ?_, b2, ⟨⟨b3, ?_, b4, b5, ?_, ?_, ?_⟩, b6, b7, b8⟩, ?_, ?_, b10, ?_, j5, ?_, j7⟩
  · unfold fX11_bind
    rw [(B_m hn).1, Option.bind_some]
    exact b1
  · rw [b2.2.2.1 54 (by omega) (by omega) (by omega)]; exact h2
  · rw [b2.2.2.1 53 (by omega) (by omega) (by omega)]; exact h5
  · rw [b2.2.2.1 55 (by omega) (by omega) (by omega)]; exact h6
  · rw [b2.2.2.1 56 (by omega) (by omega) (by omega)]; exact h7
  · exact fun h hh => j1 h (bdP_mem W o h hh)
  · exact b9
  · show (bdP r W o).2.length + nnW (bdP r W o).1 = kc
    omega
  · show (bdP r W o).1.length = nnW (bdP r W o).1 + br
    have := bdP_25 hr W o
    omega
theorem mHd_B (hH : mHd B N s tok) (f : frBd a s s1) : mHd B N s1 tok := mHd_f hH (fun j g1 g2 => f.2.2.1 j (by omega) (by omega) (by omega)) (f.2.1 188 (by omega) (by omega) (by omega) (by omega) (by omega) (by omega)) (f.2.1 189 (by omega) (by omega) (by omega) (by omega) (by omega) (by omega))
/-- a bracket is closed -/
theorem m_signA (hn : 239 ≤ n) (hH : mHd B N s tok) (hR : mR a s o kc W br false may) (hj : jY a ((tok, o, kc), W, br, false, may)) (h26 : tok.1 = 26) (hb : 0 < br) : stM B N a s (fX11_signs n (mk s) 187) ((lxV B N tok.2.2.2, (bdP 1 W o).2, kc), (bdP 1 W o).1.tail, br - 1, false, may) := by
  obtain ⟨s1, b1, b2, b3, b4⟩ := m_bindY hn (r := 1) (by omega) (by omega) hR hj
  have sg : fX11_isSign n (mk s) 187 (nI 41) = some (nI (decide (tok.1 = 26)).toNat, mk s) := m_isSign (n := n) (k := 26) (q := (tok, o, kc)) hn hH.2.1 hH.2.2.1 (by decide) (by omega)
  rw [decide_eq_true h26] at sg
  have j6 : (bdP 1 W o).1.length = nnW (bdP 1 W o).1 + br := b4.2.2.2.2.2.1
  have j7 : br ≤ 8 := b4.2.2.2.2.2.2
  obtain ⟨t, et⟩ : ∃ t, (bdP 1 W o).1 = 25 :: t := by
    cases hq : (bdP 1 W o).1 with
    | nil => rw [hq] at j6; have : 0 = 0 + br := j6; omega
    | cons h t =>
      have rk := bdP_hd W o h t hq
      have ok := (hj.1 h (bdP_mem W o h (by rw [hq]; exact List.mem_cons_self ..)))
      have tab : ∀ k : Fin 39, rkO k.1 < 1 → (k.1 = 25 ∨ k.1 = 14 ∨ lvO k.1 ≠ 9) → k.1 = 25 := by decide +kernel
      have : h = 25 := tab ⟨h, by omega⟩ rk ok.1
      exact ⟨t, by rw [this]⟩
  rw [et] at b3 j6 ⊢
  have lt : t.length + 1 = nnW t + br := by
    have e1 : t.length + 1 = (if 25 = 25 then 0 else 1) + nnW t + br := j6
    rw [if_pos rfl] at e1
    omega
  obtain ⟨⟨h1, h2, h3, h4, h5, h6, h7⟩, h8, h9, h10⟩ := b3
  have h3 : s1.1 187 51 = nI (t.length + 1) := h3
  obtain ⟨br', rfl⟩ : ∃ br', br = br' + 1 := ⟨br - 1, by omega⟩
  obtain ⟨s2, e2⟩ : ∃ s2 : zS, s2 = wI (wI s1 187 51 (nI t.length)) 187 53 (nI br') := ⟨_, rfl⟩
  have o184 : ∀ j, j ≠ 51 → j ≠ 53 → s2.1 187 j = s1.1 187 j := fun j g1 g2 => by rw [e2, wI_at, upd_ne g2, wI_at, upd_ne g1]
  have oth : ∀ b, b ≠ 187 → s2.1 b = s1.1 b := fun b g1 => by rw [e2, wI_ne g1, wI_ne g1]
  have Hb : mHd B N s2 tok := mHd_f (mHd_B hH b2) (fun j g1 g2 => o184 j (by omega) (by omega)) (oth 188 (by omega)) (oth 189 (by omega))
  have Rb : mR a s2 (bdP 1 W o).2 kc t br' false may := by
    refine ⟨⟨by rw [o184 23 (by omega) (by omega)]; exact h1, by rw [o184 54 (by omega) (by omega)]; exact h2, ?_, by rw [o184 52 (by omega) (by omega)]; exact h4, ?_, by rw [o184 55 (by omega) (by omega)]; exact h6, by rw [o184 56 (by omega) (by omega)]; exact h7⟩, ws_f t (fun j _ => by rw [oth 215 (by omega)]) h8.2, hs_f _ (fun j _ => by rw [oth 216 (by omega)]) h9, kn_f _ (fun j _ => by rw [oth 212 (by omega), oth 213 (by omega), oth 214 (by omega)]; exact ⟨rfl, rfl, rfl⟩) h10⟩
    · rw [e2, wI_at, upd_ne (by omega), wI_at, upd_at]
    · rw [e2, wI_at, upd_at]
  obtain ⟨s', c1, c2, c3⟩ := m_adv hn Hb Rb
  refine ⟨s', ?_, frE2_t (frBd_E b2) (frE2_t ?_ c2), c3⟩
  · unfold fX11_signs
    have l41 : (41 : Int32) = nI 41 := rfl
    have l1 : (1 : Int32) = nI 1 := rfl
    have p51 : ∀ s, pI n (mk s) 187 11 51 = some (s.1 187 51) := fun s => by simp only [B_m hn]
    have p53 : ∀ s, pI n (mk s) 187 11 53 = some (s.1 187 53) := fun s => by simp only [B_m hn]
    have w51 : ∀ (s : zS) (x : Int32), sF n (mk s) 187 11 51 .int (.int x) = some (mk (wI s 187 51 x)) := fun s x => by simp only [B_m hn]
    have w53 : ∀ (s : zS) (x : Int32), sF n (mk s) 187 11 53 .int (.int x) = some (mk (wI s 187 53 x)) := fun s x => by simp only [B_m hn]
    have s53 : s.1 187 53 = nI (br' + 1) := hR.1.2.2.2.2.1
    have np : ¬ nI (br' + 1) ≤ (0 : Int32) := by
      show ¬ nI (br' + 1) ≤ nI 0
      rw [n_le (by omega) (by omega)]; omega
    have h5' : (wI s1 187 51 (nI t.length)).1 187 53 = nI (br' + 1) := by rw [wI_at, upd_ne (by omega)]; exact h5
    rw [(B_m hn).1, Option.bind_some, l41, sg, Option.bind_some, if_neg (show ¬ nI (true.toNat) = (0 : Int32) by decide), p53, Option.bind_some, s53, if_neg np]
    show ((fX11_bind n (mk s) 187 (nI 1)).bind _) = _
    rw [b1, Option.bind_some, p51, Option.bind_some, h3, sub1, w51, Option.bind_some, p53, Option.bind_some, h5', sub1, w53, Option.bind_some, ← e2, c1, Option.bind_some]
    rfl
  · rw [e2]
    exact frE2_t (frE2_w (by omega)) (frE2_w (by omega))
end Mb6
