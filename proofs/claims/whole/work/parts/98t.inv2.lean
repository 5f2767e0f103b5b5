/-! ===== what lines keep; all lines on the class ===== -/
section It
variable {n t N k l op a i m τ c p v : Nat} {B f : Nat → Nat} {q q' : zQ} {T T' : zT} {x x' : zX} {s s' s1 : zS} {M : Nat}
theorem IV_row {vals : List Nat} (h : IV N c (q, T, M)) (hτ : τ < 5) (hl : vals.length = lnF τ) (e : q'.2 = q.2) (ht : tkP N c q'.1) (hW : WX (rowU T τ (baF τ) vals)) : IV N c (q', rowU T τ (baF τ) vals, M) := by
  obtain ⟨_, h2, h3, h4, h5⟩ := h
  obtain ⟨b1, b2, w5, f3, f4⟩ := tF1 hτ
  have h2 : q.2.1.length = q.2.2 ∧ q.2.2 ≤ 64 := h2
  refine ⟨hW, ⟨?_, ?_⟩, h3, ht, fun w hw => ?_⟩
  · show q'.2.1.length = q'.2.2
    rw [e]; exact h2.1
  · show q'.2.2 ≤ 64
    rw [e]; exact h2.2
  · show rowU T τ (baF τ) vals 18 w = _ ∧ (rowU T τ (baF τ) vals 18 w ≠ 0 → rowU T τ (baF τ) vals 19 w ≤ rowU T τ (baF τ) vals 20 w ∧ rowU T τ (baF τ) vals 20 w ≤ q'.2.1.length)
    rw [rowU_ne (Or.inl (by omega)) (Or.inr (Or.inl (by omega))), rowU_ne (Or.inl (by omega)) (Or.inr (Or.inl (by omega))), rowU_ne (Or.inl (by omega)) (Or.inr (Or.inl (by omega))), e]
    exact h5 w hw
theorem ad_P (h : tkP N c q.1) : tkP N c (adQ B N q).1 := tkP_x h
theorem iv_pla (h : IV N c x) (e : plaV B N x = .ok x') : IV N c x' := by
  obtain ⟨q, T, M⟩ := x
  obtain ⟨a, e1, e⟩ := eB_ok e
  obtain ⟨b, e2, e⟩ := eB_ok e
  obtain ⟨m1, rfl⟩ := rw_ok e1
  obtain ⟨-, rfl⟩ := nw_ok e2
  cases e
  have h4 : tkP N c q.1 := h.2.2.2.1
  refine IV_row h (τ := 0) (by omega) rfl rfl (ad_P (ad_P h4)) (WX_row (τ := 0) (by omega) rfl h.1 m1 (fun _ => ?_) (fun h => by omega) (fun h => by omega) (fun h => by omega) (fun h => by omega))
  exact (ad_P (B := B) h4).1.2.1
theorem iv_pat (h : IV N c x) (e : patV B N x = .ok x') : IV N c x' := by
  obtain ⟨q, T, M⟩ := x
  obtain ⟨a, e1, e⟩ := eB_ok e
  obtain ⟨b, e2, e⟩ := eB_ok e
  obtain ⟨c3, e3, e⟩ := eB_ok e
  obtain ⟨d, e4, e⟩ := eB_ok e
  obtain ⟨d', e4', e4''⟩ := eB_ok e4
  obtain ⟨g, e5, e⟩ := eB_ok e
  obtain ⟨o, e6, e⟩ := eB_ok e
  obtain ⟨r, e7, e⟩ := eB_ok e
  obtain ⟨m1, rfl⟩ := rw_ok e1
  obtain ⟨-, rfl⟩ := nw_ok e2
  obtain ⟨-, t1, rfl⟩ := td_ok e3
  obtain ⟨-, t2, rfl⟩ := td_ok e4'
  by_cases ne : (fdN ((q, T, M).2.1 1) ((q, T, M).2.1 0 0) (adQ B N (adQ B N (adQ B N q))).1.2.1, adQ B N (adQ B N (adQ B N (adQ B N q)))).1 = (fdN ((q, T, M).2.1 1) ((q, T, M).2.1 0 0) (adQ B N (adQ B N q)).1.2.1, adQ B N (adQ B N (adQ B N q))).1
  · rw [if_pos ne] at e4''
    cases e4''
  rw [if_neg ne] at e4''
  cases e4''
  obtain ⟨l1, l2, rfl⟩ := nb_ok e5
  obtain ⟨l3, l4, rfl⟩ := nb_ok e6
  obtain ⟨l5, l6, rfl⟩ := nb_ok e7
  cases e
  have h4 : tkP N c q.1 := h.2.2.2.1
  refine IV_row h (τ := 1) (by omega) rfl rfl (ad_P (ad_P (ad_P (ad_P (ad_P (ad_P (ad_P h4))))))) (WX_row (τ := 1) (by omega) rfl h.1 m1 (fun _ => ?_) (fun _ => ?_) (fun h => by omega) (fun h => by omega) (fun h => by omega))
  · exact (ad_P (B := B) h4).1.2.1
  · exact ⟨t1, t2, fun g => ne g.symm, l1, l2, l4, l6⟩
theorem iv_wkr (h : IV N c x) (e : wkrV B N x = .ok x') : IV N c x' := by
  obtain ⟨q, T, M⟩ := x
  obtain ⟨a, e1, e⟩ := eB_ok e
  obtain ⟨b, e2, e⟩ := eB_ok e
  obtain ⟨c3, e3, e⟩ := eB_ok e
  obtain ⟨g, e5, e⟩ := eB_ok e
  obtain ⟨o, e6, e⟩ := eB_ok e
  obtain ⟨m1, rfl⟩ := rw_ok e1
  obtain ⟨-, rfl⟩ := nw_ok e2
  obtain ⟨-, t1, rfl⟩ := td_ok e3
  obtain ⟨l1, l2, rfl⟩ := nb_ok e5
  obtain ⟨l3, l4, rfl⟩ := nb_ok e6
  cases e
  have h4 : tkP N c q.1 := h.2.2.2.1
  refine IV_row h (τ := 2) (by omega) rfl rfl (ad_P (ad_P (ad_P (ad_P (ad_P h4))))) (WX_row (τ := 2) (by omega) rfl h.1 m1 (fun _ => ?_) (fun h => by omega) (fun _ => ?_) (fun h => by omega) (fun h => by omega))
  · exact (ad_P (B := B) h4).1.2.1
  · exact ⟨t1, l2, l3, l4⟩
theorem iv_wlk (h : IV N c x) (e : wlkV B N x = .ok x') : IV N c x' := by
  obtain ⟨q, T, M⟩ := x
  obtain ⟨a, e1, e⟩ := eB_ok e
  obtain ⟨b, e2, e⟩ := eB_ok e
  obtain ⟨c3, e3, e⟩ := eB_ok e
  obtain ⟨g, e5, e⟩ := eB_ok e
  obtain ⟨m1, rfl⟩ := rw_ok e1
  obtain ⟨-, t1, rfl⟩ := td_ok e2
  obtain ⟨-, t2, rfl⟩ := td_ok e3
  obtain ⟨l1, l2, rfl⟩ := nb_ok e5
  cases e
  have h4 : tkP N c q.1 := h.2.2.2.1
  exact IV_row h (τ := 3) (by omega) rfl rfl (ad_P (ad_P (ad_P (ad_P h4)))) (WX_row (τ := 3) (by omega) rfl h.1 m1 (fun h => by omega) (fun h => by omega) (fun h => by omega) (fun _ => ⟨t1, t2, l2⟩) (fun h => by omega))
theorem iv_bul (h : IV N c x) (e : bulV B N x = .ok x') : IV N c x' := by
  obtain ⟨q, T, M⟩ := x
  obtain ⟨a, e1, e⟩ := eB_ok e
  obtain ⟨b, e2, e⟩ := eB_ok e
  obtain ⟨c3, e3, e⟩ := eB_ok e
  obtain ⟨g, e5, e⟩ := eB_ok e
  obtain ⟨m1, rfl⟩ := rw_ok e1
  obtain ⟨-, t1, rfl⟩ := td_ok e2
  obtain ⟨l1, l2, rfl⟩ := nb_ok e3
  obtain ⟨l3, l4, rfl⟩ := nb_ok e5
  cases e
  have h4 : tkP N c q.1 := h.2.2.2.1
  exact IV_row h (τ := 4) (by omega) rfl rfl (ad_P (ad_P (ad_P (ad_P h4)))) (WX_row (τ := 4) (by omega) rfl h.1 m1 (fun h => by omega) (fun h => by omega) (fun h => by omega) (fun h => by omega) (fun _ => ⟨t1, l2, l4⟩))
theorem cellU_k {j b : Nat} (h : a < k) : cellU T k j b a i = T a i := cellU_ne (Or.inl (by omega))
theorem WX_c {j b : Nat} (h : WX T) (hk : 18 ≤ k) : WX (cellU T k j b) := by
  have e : ∀ a i, a < 18 → cellU T k j b a i = T a i := fun a i ha => cellU_k (by omega)
  unfold WX
  simp only [e 0 _ (by omega), e 1 _ (by omega), e 2 _ (by omega), e 3 _ (by omega), e 4 _ (by omega), e 5 _ (by omega), e 6 _ (by omega), e 7 _ (by omega), e 8 _ (by omega), e 9 _ (by omega), e 10 _ (by omega), e 11 _ (by omega), e 12 _ (by omega), e 13 _ (by omega), e 14 _ (by omega), e 15 _ (by omega), e 16 _ (by omega), e 17 _ (by omega)]
  exact h
theorem WX_k {b : Nat} (h : WX T) (hb : (k = 6 ∧ 1 ≤ b ∧ b ≤ 400) ∨ (k = 7 ∧ b ≤ 100) ∨ (k = 8 ∧ b ≤ 99999)) : WX (cellU T 0 k b) := by
  have e : ∀ a i, a ≠ 0 → cellU T 0 k b a i = T a i := fun a i ha => cellU_ne (Or.inl ha)
  have z : ∀ i, i < 5 → cellU T 0 k b 0 i = T 0 i := fun i hi => cellU_ne (Or.inr (by omega))
  obtain ⟨h1, h2, h3⟩ := h
  unfold WX
  simp only [e 1 _ (by omega), e 2 _ (by omega), e 3 _ (by omega), e 4 _ (by omega), e 5 _ (by omega), e 6 _ (by omega), e 7 _ (by omega), e 8 _ (by omega), e 9 _ (by omega), e 10 _ (by omega), e 11 _ (by omega), e 12 _ (by omega), e 13 _ (by omega), e 14 _ (by omega), e 15 _ (by omega), e 16 _ (by omega), e 17 _ (by omega), z 0 (by omega), z 1 (by omega), z 2 (by omega), z 3 (by omega), z 4 (by omega)]
  refine ⟨h1, ?_, h3⟩
  rcases hb with ⟨rfl, b1, b2⟩ | ⟨rfl, b1⟩ | ⟨rfl, b1⟩
  · rw [cellU_at, cellU_ne (by omega), cellU_ne (by omega)]; exact ⟨b1, b2, h2.2.2⟩
  · rw [cellU_at, cellU_ne (by omega), cellU_ne (by omega)]; exact ⟨h2.1, h2.2.1, b1, h2.2.2.2⟩
  · rw [cellU_at, cellU_ne (by omega), cellU_ne (by omega)]; exact ⟨h2.1, h2.2.1, h2.2.2.1, b1⟩
theorem or_bit {K j : Nat} : (M ||| 2 ^ K).testBit j = (M.testBit j || decide (K = j)) := by
  rw [Nat.testBit_or, Nat.testBit_two_pow]
theorem or_lt {K : Nat} (hM : M < 4096) (hK : K < 12) : M ||| 2 ^ K < 4096 := Nat.or_lt_two_pow (n := 12) hM (Nat.lt_of_lt_of_le (Nat.pow_lt_pow_right (by omega) hK) (by decide))
theorem iv_onc {lo hi : Nat} (h : IV N c x) (hK : x.1.1.1 < 9) (hb : ∀ b, lo ≤ b → b ≤ hi → (k = 6 ∧ 1 ≤ b ∧ b ≤ 400) ∨ (k = 7 ∧ b ≤ 100) ∨ (k = 8 ∧ b ≤ 99999)) (e : oncV B N k lo hi x = .ok x') : IV N c x' := by
  obtain ⟨q, T, M⟩ := x
  obtain ⟨a, e1, e⟩ := eB_ok e
  obtain ⟨b, e2, e⟩ := eB_ok e
  obtain ⟨m1, rfl⟩ := on_ok e1
  obtain ⟨l1, l2, rfl⟩ := nb_ok e2
  cases e
  obtain ⟨h1, h2, h3, h4, h5⟩ := h
  refine ⟨WX_k h1 (hb _ l1 l2), h2, or_lt h3 (Nat.lt_of_lt_of_le hK (by omega)), ad_P (ad_P h4), fun w hw => ?_⟩
  show cellU T 0 k (adQ B N q).1.2.1 18 w = ((M ||| 2 ^ q.1.1).testBit (9 + w)).toNat ∧ (cellU T 0 k (adQ B N q).1.2.1 18 w ≠ 0 → cellU T 0 k (adQ B N q).1.2.1 19 w ≤ cellU T 0 k (adQ B N q).1.2.1 20 w ∧ cellU T 0 k (adQ B N q).1.2.1 20 w ≤ q.2.1.length)
  have hK : q.1.1 < 9 := hK
  rw [cellU_ne (Or.inl (by omega)), cellU_ne (Or.inl (by omega)), cellU_ne (Or.inl (by omega)), or_bit, decide_eq_false (by omega), Bool.or_false]
  exact h5 w hw
theorem ex_pl {r : Except (Nat × Nat) zQ} (h64 : q.2.2 ≤ 64) (h : exD B N q = r) : plE B N q = some r := by
  obtain ⟨r', hr⟩ := plE_t (B := B) (N := N) h64
  unfold exD at h
  rw [hr] at h
  rw [hr, ← h]
  rfl
theorem iv_lwl (h : IV N c x) (e : lwlV B N x = .ok x') : IV N c x' := by
  obtain ⟨q, T, M⟩ := x
  obtain ⟨a, e1, e⟩ := eB_ok e
  obtain ⟨-, rfl⟩ := ex_ok e1
  obtain ⟨h1, h2, h3, h4, h5⟩ := h
  have h2 : q.2.1.length = q.2.2 ∧ q.2.2 ≤ 64 := h2
  by_cases g : 9 ≤ (adQ B N q).1.1 ∧ (adQ B N q).1.1 ≤ 11
  · have e : eB (onV B N M (adQ B N q)) (fun b => eB (exD B N b.2) fun c => .ok (c, cellU (cellU (cellU T 18 ((adQ B N q).1.1 - 9) 1) 19 ((adQ B N q).1.1 - 9) b.2.2.1.length) 20 ((adQ B N q).1.1 - 9) c.2.1.length, b.1)) = .ok x' := by
      have e' : (if 9 ≤ (adQ B N q).1.1 ∧ (adQ B N q).1.1 ≤ 11 then _ else _) = Except.ok x' := e
      rw [if_pos g] at e'
      exact e'
    obtain ⟨b, e2, e⟩ := eB_ok e
    obtain ⟨y, e3, e⟩ := eB_ok e
    obtain ⟨m1, rfl⟩ := on_ok e2
    cases e
    have pl := ex_pl (q := adQ B N (adQ B N q)) h2.2 e3
    have bl := bl_all 63 0 0 _ y pl h2.2
    have tk := pv_all (P := tkP N c) (fun k hk => tkP_x hk) 63 0 0 _ y pl (ad_P (ad_P h4))
    have b1 : q.2.2 < y.2.2 := bl.1
    have b2 : y.2.2 ≤ 64 := bl.2.1
    have b3 : y.2.1.length + q.2.2 = y.2.2 + q.2.1.length := bl.2.2
    refine ⟨WX_c (WX_c (WX_c h1 (by omega)) (by omega)) (by omega), ⟨by show y.2.1.length = y.2.2; omega, b2⟩, or_lt h3 (by omega), tk, fun w hw => ?_⟩
    show cellU (cellU (cellU T 18 ((adQ B N q).1.1 - 9) 1) 19 ((adQ B N q).1.1 - 9) q.2.1.length) 20 ((adQ B N q).1.1 - 9) y.2.1.length 18 w = ((M ||| 2 ^ (adQ B N q).1.1).testBit (9 + w)).toNat ∧ (cellU (cellU (cellU T 18 ((adQ B N q).1.1 - 9) 1) 19 ((adQ B N q).1.1 - 9) q.2.1.length) 20 ((adQ B N q).1.1 - 9) y.2.1.length 18 w ≠ 0 → cellU (cellU (cellU T 18 ((adQ B N q).1.1 - 9) 1) 19 ((adQ B N q).1.1 - 9) q.2.1.length) 20 ((adQ B N q).1.1 - 9) y.2.1.length 19 w ≤ cellU (cellU (cellU T 18 ((adQ B N q).1.1 - 9) 1) 19 ((adQ B N q).1.1 - 9) q.2.1.length) 20 ((adQ B N q).1.1 - 9) y.2.1.length 20 w ∧ cellU (cellU (cellU T 18 ((adQ B N q).1.1 - 9) 1) 19 ((adQ B N q).1.1 - 9) q.2.1.length) 20 ((adQ B N q).1.1 - 9) y.2.1.length 20 w ≤ y.2.1.length)
    obtain ⟨j, ej⟩ : ∃ j, j = (adQ B N q).1.1 - 9 := ⟨_, rfl⟩
    have ej' : (adQ B N q).1.1 = 9 + j := by omega
    rw [← ej, ej', or_bit]
    by_cases ew : w = j
    · subst ew
      rw [show cellU (cellU (cellU T 18 w 1) 19 w q.2.1.length) 20 w y.2.1.length 18 w = 1 by rw [cellU_ne (by omega), cellU_ne (by omega), cellU_at], show cellU (cellU (cellU T 18 w 1) 19 w q.2.1.length) 20 w y.2.1.length 19 w = q.2.1.length by rw [cellU_ne (by omega), cellU_at], cellU_at, decide_eq_true rfl, Bool.or_true]
      exact ⟨rfl, fun _ => ⟨by omega, by omega⟩⟩
    · rw [cellU_ne (Or.inr ew), cellU_ne (Or.inr ew), cellU_ne (Or.inr ew), cellU_ne (Or.inr ew), cellU_ne (Or.inr ew), cellU_ne (Or.inr ew), cellU_ne (Or.inr ew), cellU_ne (Or.inr ew), cellU_ne (Or.inr ew), decide_eq_false (by omega), Bool.or_false]
      have h6 := h5 w hw
      have h6' : T 18 w = (M.testBit (9 + w)).toNat ∧ (T 18 w ≠ 0 → T 19 w ≤ T 20 w ∧ T 20 w ≤ q.2.1.length) := h6
      exact ⟨h6'.1, fun g => ⟨(h6'.2 g).1, by have := (h6'.2 g).2; omega⟩⟩
  · have e' : (if 9 ≤ (adQ B N q).1.1 ∧ (adQ B N q).1.1 ≤ 11 then _ else Except.error (1, (adQ B N q).1.2.2.1)) = Except.ok x' := e
    rw [if_neg g] at e'
    cases e'
theorem iv_ln0 (h : IV N c x) (e : ln0 B N x = .ok x') : IV N c x' := by
  unfold ln0 at e
  by_cases c0 : x.1.1.1 = 0
  · rw [if_pos c0] at e; exact iv_pla h e
  rw [if_neg c0] at e
  by_cases c1 : x.1.1.1 = 1
  · rw [if_pos c1] at e; exact iv_pat h e
  rw [if_neg c1] at e
  by_cases c2 : x.1.1.1 = 2
  · rw [if_pos c2] at e; exact iv_wkr h e
  rw [if_neg c2] at e
  by_cases c3 : x.1.1.1 = 3
  · rw [if_pos c3] at e; exact iv_wlk h e
  rw [if_neg c3] at e
  by_cases c4 : x.1.1.1 = 4
  · rw [if_pos c4] at e; exact iv_bul h e
  rw [if_neg c4] at e
  by_cases c5 : x.1.1.1 = 5
  · rw [if_pos c5] at e; exact iv_onc h (by omega) (fun b h1 h2 => Or.inl ⟨rfl, h1, h2⟩) e
  rw [if_neg c5] at e
  by_cases c6 : x.1.1.1 = 6
  · rw [if_pos c6] at e; exact iv_onc h (by omega) (fun b h1 h2 => Or.inr (Or.inl ⟨rfl, h2⟩)) e
  rw [if_neg c6] at e
  by_cases c7 : x.1.1.1 = 7
  · rw [if_pos c7] at e; exact iv_onc h (by omega) (fun b h1 h2 => Or.inr (Or.inr ⟨rfl, h2⟩)) e
  rw [if_neg c7] at e
  exact iv_lwl h e
theorem iv_ln (h : IV N c x) (e : lnV B N x = .ok x') : IV N (c + 1) x' := by
  obtain ⟨y, e1, e⟩ := eB_ok e
  obtain ⟨a, e2, e⟩ := eB_ok e
  obtain ⟨k24, rfl⟩ := ex_ok e2
  cases e
  obtain ⟨h1, h2, h3, h4, h5⟩ := iv_ln0 h e1
  exact ⟨h1, h2, h3, tkP_1 h4 (by omega), h5⟩
/-- all lines, on the class -/
def txC (B : Nat → Nat) (N t : Nat) (s : zS) (c : Option ((Unit ⊕ Nat) × ai_H)) : Except (Nat × Nat) (Nat × zX) → Prop
  | .ok y => ∃ s', c = some (.inl (), mk s') ∧ frJ t s s' ∧ cL B N t s' y.2 ∧ s'.1 t 9 = nI y.1 ∧ IV N y.1 y.2
  | .error e => erC t s c e
theorem cL_w9 {x1 : Int32} (ht : t = 6 ∨ t = 29) (h : cL B N t s x) : cL B N t (wI s t 9 x1) x := by
  obtain ⟨X, D, hM⟩ := h
  refine ⟨cX_w X ht (by omega) (by omega) (by omega) (by omega) (by omega) (by omega) (by omega), ?_, by rw [wI_ne (by omega)]; exact hM⟩
  obtain ⟨d1, d2, d3⟩ := D
  refine ⟨fun τ hτ => ?_, ?_, fun w hw => ?_⟩
  · unfold tbC
    rw [wI_ne (by omega), wI_ne (by omega), wI_ne (by omega)]
    exact d1 τ hτ
  · rw [wI_at, upd_ne (by omega), upd_ne (by omega), upd_ne (by omega)]; exact d2
  · rw [wI_ne (by omega), wI_ne (by omega)]; exact d3 w hw
theorem c_txt (hn : 239 ≤ n) (ht : t = 6 ∨ t = 29) (N7 : N ≤ 700) : ∀ (k c F : Nat) (x : zX) (s : zS), 701 ≤ k + c → k < F → IV N c x → cL B N t s x → s.1 t 9 = nI c → txC B N t s (fX3_readText_39 n F (mk s) 3 (nI c)) (txV B N k c x) := by
  intro k
  induction k with
  | zero =>
    intro c F x s h1 h2 hI
    have := hI.2.2.2.1.2.1
    have := hI.2.2.2.1.1.2.2.1
    omega
  | succ k ih =>
    intro c F x s h1 h2 hI hL h9
    obtain ⟨F', rfl⟩ : ∃ F', F = F' + 1 := ⟨F - 1, by omega⟩
    have t1 := hI.2.2.2.1.2.1
    have t2 := hI.2.2.2.1.1.2.2.1
    have t3 := hI.2.2.2.1.2.2.2
    have t4 := hI.2.2.2.1.1.2.2.2
    have w1 := hI.2.2.2.1.1.1
    have k4 := hL.1.2.2.1.1
    show txC B N t s (fX3_readText_39b n (fX3_readText_39 n F') (mk s) 3 (nI c)) (if x.1.1.1 = 37 then .ok (c, x) else eB (lnV B N x) (txV B N k (c + 1)))
    unfold fX3_readText_39b
    by_cases e : x.1.1.1 = 37
    · rw [if_pos e]
      refine ⟨s, ?_, frJ_r, hL, h9, hI⟩
      by_cases c7 : 700 ≤ c
      · simp (disch := first | omega | assumption | (simp only [wL_1, wL_22, wI_2, wA_2, wQ_1, wQ_21] <;> first | assumption | omega)) only [LIT, LITm, nI_add, n_mul, fa_or, n_31m, n_shl0, n_le, n_lt, n_eq, Option.bind_some, c7, ↓reduceIte]
      · simp (disch := first | omega | assumption | (simp only [wL_1, wL_22, wI_2, wA_2, wQ_1, wQ_21] <;> first | assumption | omega)) only [LIT, LITm, nI_add, n_mul, fa_or, n_31m, n_shl0, n_le, n_lt, n_eq, Option.bind_some, c7, B_r0 hn, k4, e, ↓reduceIte]
    · rw [if_neg e]
      have := t3 e
      simp (disch := first | omega | assumption | (simp only [wL_1, wL_22, wI_2, wA_2, wQ_1, wQ_21] <;> first | assumption | omega)) only [LIT, LITm, nI_add, n_mul, fa_or, n_31m, n_shl0, n_le, n_lt, n_eq, Option.bind_some, show ¬ 700 ≤ c by omega, B_r0 hn, k4, e, ↓reduceIte]
      have ln := c_ln0 hn ht hL hI.1 hI.2.2.1 hI.2.1.1 hI.2.1.2
      have ev : eB (lnV B N x) (txV B N k (c + 1)) = eB (ln0 B N x) fun y => eB (exV B N 24 y.1) fun a => txV B N k (c + 1) (a.2, y.2) := by
        unfold lnV
        cases ln0 B N x with
        | error e => rfl
        | ok y =>
          show eB (eB (exV B N 24 y.1) fun a => .ok (a.2, y.2)) _ = eB (exV B N 24 y.1) _
          cases exV B N 24 y.1 with
          | error e => rfl
          | ok a => rfl
      rw [ev]
      cases hy : ln0 B N x with
      | error e' =>
        rw [hy] at ln
        exact bt_er (ln : erC t s _ e')
      | ok y =>
        rw [hy] at ln
        obtain ⟨s1, a1, a2, a3, a4⟩ := ln
        rw [bt_ok a1]
        show txC B N t s _ (eB (exV B N 24 y.1) fun a => txV B N k (c + 1) (a.2, y.2))
        have ex := o_exp (k := 24) hn ht a3.1 (by omega)
        cases hz : exV B N 24 y.1 with
        | error e' =>
          rw [hz] at ex
          exact bt_er (erC_t a2 (ex : erC t s1 _ e'))
        | ok z =>
          rw [hz] at ex
          obtain ⟨s2, b1, b2, b3⟩ := ex
          rw [bt_ok b1]
          have r2 := B_31 hn ht b3.2.1
          have l2 : s2.1 t 9 = nI c := by rw [b2.2.1 _ (by omega), a4]; exact h9
          simp (disch := first | omega | assumption | (simp only [wL_1, wL_22, wI_2, wA_2, wQ_1, wQ_21] <;> first | assumption | omega)) only [LIT, LITm, nI_add, n_mul, fa_or, n_31m, n_shl0, n_le, n_lt, n_eq, Option.bind_some, r2, B_t hn ht, l2]
          have hI2 : IV N (c + 1) (z.2, y.2) := iv_ln (B := B) hI (by unfold lnV; rw [hy]; show eB (exV B N 24 y.1) _ = _; rw [hz]; rfl)
          have L2 : cL B N t s2 (z.2, y.2) := ⟨b3, dT_f a3.2.1 (fun a _ _ _ => b2.2.1 a (by omega)), by rw [b2.2.1 _ (by omega)]; exact a3.2.2⟩
          have g := ih (c + 1) F' (z.2, y.2) (wI s2 t 9 (nI (c + 1))) (by omega) (by omega) hI2 (cL_w9 ht L2) (by rw [wI_at, upd_at])
          have fr : frJ t s (wI s2 t 9 (nI (c + 1))) := frJ_t a2 (frJ_t (frK_J b2) (frJ_w (by omega) (by omega)))
          show txC B N t s _ (txV B N k (c + 1) (z.2, y.2))
          cases hr : txV B N k (c + 1) (z.2, y.2) with
          | error e' =>
            rw [hr] at g
            exact erC_t fr (g : erC t _ _ e')
          | ok w =>
            rw [hr] at g
            obtain ⟨s', g1, g2, g3⟩ := g
            exact ⟨s', g1, frJ_t fr g2, g3⟩
end It
