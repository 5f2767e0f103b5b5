/-! ===== what lines keep, in numbers alone ===== -/
section Iv
variable {N k l op a i m τ c p : Nat} {B f : Nat → Nat} {q q' : zQ} {T T' : zT} {x x' : zX}
theorem tkQ_P {P : zK → Prop} (hP : ∀ k, P k → P (lxV B N k.2.2.2)) {g : zQ → zF} (h : tkQ B N q g = some (.ok q')) (hq : P q.1) : ∃ q1, g q1 = some (.ok q') ∧ P q1.1 := by
  rcases tkQ_ok h with ⟨_, e⟩ | ⟨_, e⟩
  · cases e
  · exact ⟨_, e, hP _ hq⟩
theorem pv_lo {P : zK → Prop} (hP : ∀ k, P k → P (lxV B N k.2.2.2)) {g : zQ → zF} (hg : ∀ q q', g q = some (.ok q') → P q.1 → P q'.1) : ∀ j q q', loQ B N g l j q = some (.ok q') → P q.1 → P q'.1 := by
  intro j
  induction j with
  | zero => intro q q' h; cases h
  | succ j ih =>
    intro q q' h hq
    have h' : (if lvO q.1.1 = l then tkQ B N q (fun q1 => bdQ (g q1) (fun q2 => loQ B N g l j (emQ (q.1.1, 0) q2))) else some (.ok q)) = some (.ok q') := h
    by_cases e : lvO q.1.1 = l
    · rw [if_pos e] at h'
      obtain ⟨q1, g1, g2⟩ := tkQ_P hP h' hq
      obtain ⟨q2, g3, g4⟩ := bdQ_ok g1
      exact ih _ _ g4 (show P q2.1 from hg _ _ g3 g2)
    · rw [if_neg e] at h'
      cases h'
      exact hq
theorem pv_nt {P : zK → Prop} (hP : ∀ k, P k → P (lxV B N k.2.2.2)) {g : zQ → zF} (hg : ∀ q q', g q = some (.ok q') → P q.1 → P q'.1) : ∀ j c q q', ntQ B N g j c q = some (.ok q') → P q.1 → P q'.1 := by
  intro j
  induction j with
  | zero => intro c q q' h; cases h
  | succ j ih =>
    intro c q q' h hq
    have h' : (if q.1.1 = 14 then tkQ B N q (ntQ B N g j (c + 1)) else bdQ (g q) (fun q2 => some (.ok (q2.1, psN c q2.2.1, q2.2.2)))) = some (.ok q') := h
    by_cases e : q.1.1 = 14
    · rw [if_pos e] at h'
      obtain ⟨q1, g1, g2⟩ := tkQ_P hP h' hq
      exact ih _ _ _ g1 g2
    · rw [if_neg e] at h'
      obtain ⟨q2, g3, g4⟩ := bdQ_ok h'
      cases g4
      exact (show P q2.1 from hg _ _ g3 hq)
theorem pv_all {P : zK → Prop} (hP : ∀ k, P k → P (lxV B N k.2.2.2)) : ∀ k l op q q', plv B N k l op q = some (.ok q') → P q.1 → P q'.1
  | 0, _, _, _, _, h, _ => by cases h
  | k + 1, l, op, q, q', h, hq => by
    have ih := pv_all hP k
    have h' : (if 6 ≤ l then ptQ B N (plv B N k 0 (op + 1)) op q else if l = 2 then ntQ B N (plv B N k 3 op) 66 0 q else bdQ (plv B N k (l + 1) op q) (fun q1 => if l = 3 then l1Q B N (plv B N k 4 op) q1 else loQ B N (plv B N k (l + 1) op) l 66 q1)) = some (.ok q') := h
    by_cases c6 : 6 ≤ l
    · rw [if_pos c6] at h'
      unfold ptQ at h'
      by_cases e : q.1.1 = 25
      · rw [if_pos e] at h'
        by_cases c : 8 ≤ op
        · rw [if_pos c] at h'; cases h'
        · rw [if_neg c] at h'
          obtain ⟨q2, g1, g2⟩ := bdQ_ok h'
          have a := ih _ _ _ _ g1 (hP _ hq)
          by_cases g : q2.1.1 = 26
          · rw [if_pos g] at g2; cases g2; exact hP _ a
          · rw [if_neg g] at g2; cases g2
      · rw [if_neg e] at h'
        by_cases lf : isLf q.1.1 = true
        · rw [if_pos lf] at h'
          by_cases b : q.1.1 = 23 ∧ 9999 < q.1.2.1
          · rw [if_pos b] at h'; cases h'
          · rw [if_neg b] at h'
            obtain ⟨q1, g1, g2⟩ := tkQ_P hP h' hq
            cases g1
            exact g2
        · rw [if_neg lf] at h'; cases h'
    · rw [if_neg c6] at h'
      by_cases c2 : l = 2
      · rw [if_pos c2] at h'
        exact pv_nt hP (fun q q' => ih 3 op q q') 66 0 q q' h' hq
      · rw [if_neg c2] at h'
        obtain ⟨q1, g1, g2⟩ := bdQ_ok h'
        have a := ih _ _ _ _ g1 hq
        by_cases c3 : l = 3
        · rw [if_pos c3] at g2
          unfold l1Q at g2
          by_cases e : lvO q1.1.1 = 3
          · rw [if_pos e] at g2
            obtain ⟨q2, g3, g4⟩ := tkQ_P hP g2 a
            obtain ⟨q5, g5, g6⟩ := bdQ_ok g3
            cases g6
            exact (show P q5.1 from ih _ _ _ _ g5 g4)
          · rw [if_neg e] at g2
            cases g2
            exact a
        · rw [if_neg c3] at g2
          exact pv_lo hP (fun q q' => ih (l + 1) op q q') 66 q1 q' g2 a
/-- the token stands at one place or behind it -/
def tkP (N p : Nat) (k : zK) : Prop := zkW N k ∧ p ≤ k.2.2.1 ∧ k.2.2.1 ≤ k.2.2.2 ∧ (k.1 ≠ 37 → k.2.2.1 < k.2.2.2)
theorem tkP_x {k : zK} (h : tkP N p k) : tkP N p (lxV B N k.2.2.2) := by
  obtain ⟨a, b, d1, d, e1, e, g⟩ := lx_p (B := B) h.1.2.2.2
  have h1 := h.2.1
  have h2 := h.2.2.1
  exact ⟨⟨a, b, d, e⟩, by omega, e1, g⟩
theorem tkP_1 {k : zK} (h : tkP N p k) (n : k.1 ≠ 37) : tkP N (p + 1) (lxV B N k.2.2.2) := by
  obtain ⟨a, b, d1, d, e1, e, g⟩ := lx_p (B := B) h.1.2.2.2
  have h1 := h.2.1
  have h2 := h.2.2.2 n
  exact ⟨⟨a, b, d, e⟩, by omega, e1, g⟩
/-- what holds between lines -/
def IV (N c : Nat) (x : zX) : Prop := WX x.2.1 ∧ (x.1.2.1.length = x.1.2.2 ∧ x.1.2.2 ≤ 64) ∧ x.2.2 < 4096 ∧ tkP N c x.1.1 ∧ (∀ w, w < 3 → x.2.1 18 w = (x.2.2.testBit (9 + w)).toNat ∧ (x.2.1 18 w ≠ 0 → x.2.1 19 w ≤ x.2.1 20 w ∧ x.2.1 20 w ≤ x.1.2.1.length))
theorem eB_ok {α β : Type} {r : Except (Nat × Nat) α} {g : α → Except (Nat × Nat) β} {b : β} (h : eB r g = .ok b) : ∃ a, r = .ok a ∧ g a = .ok b := by
  cases r with
  | error e => cases h
  | ok a => exact ⟨a, rfl, h⟩
theorem WX_row {vals : List Nat} (hτ : τ < 5) (hl : vals.length = lnF τ) (h : WX T) (hm : T 0 τ < lmF τ) (h0 : τ < 3 → vals.getD 0 0 < 1073741824)
    (h1 : τ = 1 → vals.getD 1 0 < T 0 0 ∧ vals.getD 2 0 < T 0 0 ∧ vals.getD 1 0 ≠ vals.getD 2 0 ∧ 1 ≤ vals.getD 3 0 ∧ vals.getD 3 0 ≤ 99 ∧ vals.getD 4 0 ≤ 9 ∧ vals.getD 5 0 ≤ 399)
    (h2 : τ = 2 → vals.getD 1 0 < T 0 0 ∧ vals.getD 2 0 ≤ 9 ∧ 1 ≤ vals.getD 3 0 ∧ vals.getD 3 0 ≤ 99)
    (h3 : τ = 3 → vals.getD 0 0 < T 0 2 ∧ vals.getD 1 0 < T 0 1 ∧ vals.getD 2 0 ≤ 99)
    (h4 : τ = 4 → vals.getD 0 0 < T 0 1 ∧ vals.getD 1 0 ≤ 99 ∧ vals.getD 2 0 ≤ 99) : WX (rowU T τ (baF τ) vals) := by
  obtain ⟨⟨s0, s1, s2, s3, s4⟩, ⟨y1, y2, y3, y4⟩, p1, p2, p3, p4, n0, n1, n2⟩ := h
  obtain ⟨b1, b2, w5, f3, f4⟩ := tF1 hτ
  have zo : ∀ j, j ≠ τ → rowU T τ (baF τ) vals 0 j = T 0 j := fun j hj => rowU_ne (Or.inr hj) (Or.inl (by omega))
  have zs : rowU T τ (baF τ) vals 0 τ = T 0 τ + 1 := rowU_sz
  have zg : ∀ j, T 0 j ≤ rowU T τ (baF τ) vals 0 j := fun j => by
    by_cases e : j = τ
    · rw [e, zs]; omega
    · rw [zo j e]; exact Nat.le_refl _
  have ro : ∀ b j, b ≠ 0 → (b < baF τ ∨ baF τ + lnF τ ≤ b ∨ j ≠ T 0 τ) → rowU T τ (baF τ) vals b j = T b j := fun b j h5 h6 => rowU_ne (Or.inl h5) (by rw [hl]; exact h6)
  have rp : ∀ b j, b ≠ 0 → (b < baF τ ∨ baF τ + lnF τ ≤ b) → rowU T τ (baF τ) vals b j = T b j := fun b j h5 h6 => ro b j h5 (by rcases h6 with h | h; exact Or.inl h; exact Or.inr (Or.inl h))
  have ra : ∀ d, d < lnF τ → rowU T τ (baF τ) vals (baF τ + d) (T 0 τ) = vals.getD d 0 := fun d hd => rowU_at b1 (by rw [hl]; exact hd)
  rcases (by omega : τ = 0 ∨ τ = 1 ∨ τ = 2 ∨ τ = 3 ∨ τ = 4) with rfl | rfl | rfl | rfl | rfl
  · refine ⟨⟨by rw [zs]; exact hm, by rw [zo 1 (by omega)]; exact s1, by rw [zo 2 (by omega)]; exact s2, by rw [zo 3 (by omega)]; exact s3, by rw [zo 4 (by omega)]; exact s4⟩, ⟨by rw [zo 6 (by omega)]; exact y1, by rw [zo 6 (by omega)]; exact y2, by rw [zo 7 (by omega)]; exact y3, by rw [zo 8 (by omega)]; exact y4⟩, ?_, ?_, ?_, ?_, ?_, ?_, ?_⟩
    · intro j hj; rw [zo 1 (by omega)] at hj
      rw [rp 3 j (by omega) (by decide), rp 4 j (by omega) (by decide), rp 5 j (by omega) (by decide), rp 6 j (by omega) (by decide), rp 7 j (by omega) (by decide)]
      have := p1 j hj; have := zg 0; omega
    · intro j hj; rw [zo 2 (by omega)] at hj
      rw [rp 9 j (by omega) (by decide), rp 10 j (by omega) (by decide), rp 11 j (by omega) (by decide)]
      have := p2 j hj; have := zg 0; omega
    · intro j hj; rw [zo 3 (by omega)] at hj
      rw [rp 12 j (by omega) (by decide), rp 13 j (by omega) (by decide), rp 14 j (by omega) (by decide), zo 2 (by omega), zo 1 (by omega)]
      exact p3 j hj
    · intro j hj; rw [zo 4 (by omega)] at hj
      rw [rp 15 j (by omega) (by decide), rp 16 j (by omega) (by decide), rp 17 j (by omega) (by decide), zo 1 (by omega)]
      exact p4 j hj
    · intro j hj; rw [zs] at hj
      by_cases e : j = T 0 0
      · rw [e]; exact (ra 0 (by decide)) ▸ h0 (by omega)
      · rw [ro 1 j (by omega) (Or.inr (Or.inr e))]; exact n0 j (by omega)
    · intro j hj; rw [zo 1 (by omega)] at hj; rw [rp 2 j (by omega) (by decide)]; exact n1 j hj
    · intro j hj; rw [zo 2 (by omega)] at hj; rw [rp 8 j (by omega) (by decide)]; exact n2 j hj
  · refine ⟨⟨by rw [zo 0 (by omega)]; exact s0, by rw [zs]; exact hm, by rw [zo 2 (by omega)]; exact s2, by rw [zo 3 (by omega)]; exact s3, by rw [zo 4 (by omega)]; exact s4⟩, ⟨by rw [zo 6 (by omega)]; exact y1, by rw [zo 6 (by omega)]; exact y2, by rw [zo 7 (by omega)]; exact y3, by rw [zo 8 (by omega)]; exact y4⟩, ?_, ?_, ?_, ?_, ?_, ?_, ?_⟩
    · intro j hj; rw [zs] at hj; rw [zo 0 (by omega)]
      by_cases e : j = T 0 1
      · rw [e]
        have r1 := ra 1 (by decide); have r2 := ra 2 (by decide); have r3 := ra 3 (by decide); have r4 := ra 4 (by decide); have r5 := ra 5 (by decide)
        have r1 : rowU T 1 (baF 1) vals 3 (T 0 1) = vals.getD 1 0 := r1
        have r2 : rowU T 1 (baF 1) vals 4 (T 0 1) = vals.getD 2 0 := r2
        have r3 : rowU T 1 (baF 1) vals 5 (T 0 1) = vals.getD 3 0 := r3
        have r4 : rowU T 1 (baF 1) vals 6 (T 0 1) = vals.getD 4 0 := r4
        have r5 : rowU T 1 (baF 1) vals 7 (T 0 1) = vals.getD 5 0 := r5
        rw [r1, r2, r3, r4, r5]
        exact h1 rfl
      · rw [ro 3 j (by omega) (Or.inr (Or.inr e)), ro 4 j (by omega) (Or.inr (Or.inr e)), ro 5 j (by omega) (Or.inr (Or.inr e)), ro 6 j (by omega) (Or.inr (Or.inr e)), ro 7 j (by omega) (Or.inr (Or.inr e))]
        exact p1 j (by omega)
    · intro j hj; rw [zo 2 (by omega)] at hj
      rw [rp 9 j (by omega) (by decide), rp 10 j (by omega) (by decide), rp 11 j (by omega) (by decide), zo 0 (by omega)]
      exact p2 j hj
    · intro j hj; rw [zo 3 (by omega)] at hj
      rw [rp 12 j (by omega) (by decide), rp 13 j (by omega) (by decide), rp 14 j (by omega) (by decide), zo 2 (by omega)]
      have := p3 j hj; have := zg 1; omega
    · intro j hj; rw [zo 4 (by omega)] at hj
      rw [rp 15 j (by omega) (by decide), rp 16 j (by omega) (by decide), rp 17 j (by omega) (by decide)]
      have := p4 j hj; have := zg 1; omega
    · intro j hj; rw [zo 0 (by omega)] at hj; rw [rp 1 j (by omega) (by decide)]; exact n0 j hj
    · intro j hj; rw [zs] at hj
      by_cases e : j = T 0 1
      · rw [e]; exact (ra 0 (by decide)) ▸ h0 (by omega)
      · rw [ro 2 j (by omega) (Or.inr (Or.inr e))]; exact n1 j (by omega)
    · intro j hj; rw [zo 2 (by omega)] at hj; rw [rp 8 j (by omega) (by decide)]; exact n2 j hj
  · refine ⟨⟨by rw [zo 0 (by omega)]; exact s0, by rw [zo 1 (by omega)]; exact s1, by rw [zs]; exact hm, by rw [zo 3 (by omega)]; exact s3, by rw [zo 4 (by omega)]; exact s4⟩, ⟨by rw [zo 6 (by omega)]; exact y1, by rw [zo 6 (by omega)]; exact y2, by rw [zo 7 (by omega)]; exact y3, by rw [zo 8 (by omega)]; exact y4⟩, ?_, ?_, ?_, ?_, ?_, ?_, ?_⟩
    · intro j hj; rw [zo 1 (by omega)] at hj
      rw [rp 3 j (by omega) (by decide), rp 4 j (by omega) (by decide), rp 5 j (by omega) (by decide), rp 6 j (by omega) (by decide), rp 7 j (by omega) (by decide), zo 0 (by omega)]
      exact p1 j hj
    · intro j hj; rw [zs] at hj; rw [zo 0 (by omega)]
      by_cases e : j = T 0 2
      · rw [e]
        have r1 : rowU T 2 (baF 2) vals 9 (T 0 2) = vals.getD 1 0 := ra 1 (by decide)
        have r2 : rowU T 2 (baF 2) vals 10 (T 0 2) = vals.getD 2 0 := ra 2 (by decide)
        have r3 : rowU T 2 (baF 2) vals 11 (T 0 2) = vals.getD 3 0 := ra 3 (by decide)
        rw [r1, r2, r3]
        exact h2 rfl
      · rw [ro 9 j (by omega) (Or.inr (Or.inr e)), ro 10 j (by omega) (Or.inr (Or.inr e)), ro 11 j (by omega) (Or.inr (Or.inr e))]
        exact p2 j (by omega)
    · intro j hj; rw [zo 3 (by omega)] at hj
      rw [rp 12 j (by omega) (by decide), rp 13 j (by omega) (by decide), rp 14 j (by omega) (by decide), zo 1 (by omega)]
      have := p3 j hj; have := zg 2; omega
    · intro j hj; rw [zo 4 (by omega)] at hj
      rw [rp 15 j (by omega) (by decide), rp 16 j (by omega) (by decide), rp 17 j (by omega) (by decide), zo 1 (by omega)]
      exact p4 j hj
    · intro j hj; rw [zo 0 (by omega)] at hj; rw [rp 1 j (by omega) (by decide)]; exact n0 j hj
    · intro j hj; rw [zo 1 (by omega)] at hj; rw [rp 2 j (by omega) (by decide)]; exact n1 j hj
    · intro j hj; rw [zs] at hj
      by_cases e : j = T 0 2
      · rw [e]; exact (ra 0 (by decide)) ▸ h0 (by omega)
      · rw [ro 8 j (by omega) (Or.inr (Or.inr e))]; exact n2 j (by omega)
  · refine ⟨⟨by rw [zo 0 (by omega)]; exact s0, by rw [zo 1 (by omega)]; exact s1, by rw [zo 2 (by omega)]; exact s2, by rw [zs]; exact hm, by rw [zo 4 (by omega)]; exact s4⟩, ⟨by rw [zo 6 (by omega)]; exact y1, by rw [zo 6 (by omega)]; exact y2, by rw [zo 7 (by omega)]; exact y3, by rw [zo 8 (by omega)]; exact y4⟩, ?_, ?_, ?_, ?_, ?_, ?_, ?_⟩
    · intro j hj; rw [zo 1 (by omega)] at hj
      rw [rp 3 j (by omega) (by decide), rp 4 j (by omega) (by decide), rp 5 j (by omega) (by decide), rp 6 j (by omega) (by decide), rp 7 j (by omega) (by decide), zo 0 (by omega)]
      exact p1 j hj
    · intro j hj; rw [zo 2 (by omega)] at hj
      rw [rp 9 j (by omega) (by decide), rp 10 j (by omega) (by decide), rp 11 j (by omega) (by decide), zo 0 (by omega)]
      exact p2 j hj
    · intro j hj; rw [zs] at hj; rw [zo 2 (by omega), zo 1 (by omega)]
      by_cases e : j = T 0 3
      · rw [e]
        have r1 : rowU T 3 (baF 3) vals 12 (T 0 3) = vals.getD 0 0 := ra 0 (by decide)
        have r2 : rowU T 3 (baF 3) vals 13 (T 0 3) = vals.getD 1 0 := ra 1 (by decide)
        have r3 : rowU T 3 (baF 3) vals 14 (T 0 3) = vals.getD 2 0 := ra 2 (by decide)
        rw [r1, r2, r3]
        exact h3 rfl
      · rw [ro 12 j (by omega) (Or.inr (Or.inr e)), ro 13 j (by omega) (Or.inr (Or.inr e)), ro 14 j (by omega) (Or.inr (Or.inr e))]
        exact p3 j (by omega)
    · intro j hj; rw [zo 4 (by omega)] at hj
      rw [rp 15 j (by omega) (by decide), rp 16 j (by omega) (by decide), rp 17 j (by omega) (by decide), zo 1 (by omega)]
      exact p4 j hj
    · intro j hj; rw [zo 0 (by omega)] at hj; rw [rp 1 j (by omega) (by decide)]; exact n0 j hj
    · intro j hj; rw [zo 1 (by omega)] at hj; rw [rp 2 j (by omega) (by decide)]; exact n1 j hj
    · intro j hj; rw [zo 2 (by omega)] at hj; rw [rp 8 j (by omega) (by decide)]; exact n2 j hj
  · refine ⟨⟨by rw [zo 0 (by omega)]; exact s0, by rw [zo 1 (by omega)]; exact s1, by rw [zo 2 (by omega)]; exact s2, by rw [zo 3 (by omega)]; exact s3, by rw [zs]; exact hm⟩, ⟨by rw [zo 6 (by omega)]; exact y1, by rw [zo 6 (by omega)]; exact y2, by rw [zo 7 (by omega)]; exact y3, by rw [zo 8 (by omega)]; exact y4⟩, ?_, ?_, ?_, ?_, ?_, ?_, ?_⟩
    · intro j hj; rw [zo 1 (by omega)] at hj
      rw [rp 3 j (by omega) (by decide), rp 4 j (by omega) (by decide), rp 5 j (by omega) (by decide), rp 6 j (by omega) (by decide), rp 7 j (by omega) (by decide), zo 0 (by omega)]
      exact p1 j hj
    · intro j hj; rw [zo 2 (by omega)] at hj
      rw [rp 9 j (by omega) (by decide), rp 10 j (by omega) (by decide), rp 11 j (by omega) (by decide), zo 0 (by omega)]
      exact p2 j hj
    · intro j hj; rw [zo 3 (by omega)] at hj
      rw [rp 12 j (by omega) (by decide), rp 13 j (by omega) (by decide), rp 14 j (by omega) (by decide), zo 2 (by omega), zo 1 (by omega)]
      exact p3 j hj
    · intro j hj; rw [zs] at hj; rw [zo 1 (by omega)]
      by_cases e : j = T 0 4
      · rw [e]
        have r1 : rowU T 4 (baF 4) vals 15 (T 0 4) = vals.getD 0 0 := ra 0 (by decide)
        have r2 : rowU T 4 (baF 4) vals 16 (T 0 4) = vals.getD 1 0 := ra 1 (by decide)
        have r3 : rowU T 4 (baF 4) vals 17 (T 0 4) = vals.getD 2 0 := ra 2 (by decide)
        rw [r1, r2, r3]
        exact h4 rfl
      · rw [ro 15 j (by omega) (Or.inr (Or.inr e)), ro 16 j (by omega) (Or.inr (Or.inr e)), ro 17 j (by omega) (Or.inr (Or.inr e))]
        exact p4 j (by omega)
    · intro j hj; rw [zo 0 (by omega)] at hj; rw [rp 1 j (by omega) (by decide)]; exact n0 j hj
    · intro j hj; rw [zo 1 (by omega)] at hj; rw [rp 2 j (by omega) (by decide)]; exact n1 j hj
    · intro j hj; rw [zo 2 (by omega)] at hj; rw [rp 8 j (by omega) (by decide)]; exact n2 j hj
end Iv
