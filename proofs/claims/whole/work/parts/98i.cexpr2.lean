/-! ===== expressions on the class: its reader reads by levels ===== -/
section Ci
variable {n t i N k l op : Nat} {B : Nat → Nat} {s s' s1 s2 : zS} {q q' : zQ}
/-- knots told and knots counted go together -/
def blS (q q' : zQ) : Prop := q.2.2 < q'.2.2 ∧ q'.2.2 ≤ 64 ∧ q'.2.1.length + q.2.2 = q'.2.2 + q.2.1.length
def blW (q q' : zQ) : Prop := q.2.2 ≤ q'.2.2 ∧ q'.2.2 ≤ 64 ∧ q'.2.1.length + q.2.2 = q'.2.2 + q.2.1.length
theorem tkQ_ok {f : zQ → zF} {r : Except (Nat × Nat) zQ} (h : tkQ B N q f = some r) : (64 ≤ q.2.2 ∧ r = .error (2, q.1.2.2.1)) ∨ (¬ 64 ≤ q.2.2 ∧ f (kcQ B N q) = some r) := by
  unfold tkQ at h
  by_cases c : 64 ≤ q.2.2
  · rw [if_pos c] at h
    cases h
    exact Or.inl ⟨c, rfl⟩
  · rw [if_neg c] at h
    exact Or.inr ⟨c, h⟩
theorem bl_lo {f : zQ → zF} (hf : ∀ q q', f q = some (.ok q') → q.2.2 ≤ 64 → blS q q') : ∀ j q q', loQ B N f l j q = some (.ok q') → q.2.2 ≤ 64 → blW q q' := by
  intro j
  induction j with
  | zero => intro q q' h; cases h
  | succ j ih =>
    intro q q' h h64
    have h' : (if lvO q.1.1 = l then tkQ B N q (fun q1 => bdQ (f q1) (fun q2 => loQ B N f l j (emQ (q.1.1, 0) q2))) else some (.ok q)) = some (.ok q') := h
    by_cases e : lvO q.1.1 = l
    · rw [if_pos e] at h'
      rcases tkQ_ok h' with ⟨_, g⟩ | ⟨c, g⟩
      · cases g
      · obtain ⟨q2, g1, g2⟩ := bdQ_ok g
        have a := hf _ _ g1 (by show q.2.2 + 1 ≤ 64; omega)
        have b := ih _ _ g2 a.2.1
        have a1 : q.2.2 + 1 < q2.2.2 := a.1
        have a3 : q2.2.1.length + (q.2.2 + 1) = q2.2.2 + q.2.1.length := a.2.2
        have b1 : q2.2.2 ≤ q'.2.2 := b.1
        have b3 : q'.2.1.length + q2.2.2 = q'.2.2 + (q2.2.1.length + 1) := b.2.2
        exact ⟨by omega, b.2.1, by omega⟩
    · rw [if_neg e] at h'
      cases h'
      exact ⟨Nat.le_refl _, h64, by omega⟩
theorem psN_l (c : Nat) (o : List (Nat × Nat)) : (psN c o).length = o.length + c := by
  induction c with
  | zero => rfl
  | succ c ih => show (psN c o).length + 1 = _; omega
theorem bl_nt {f : zQ → zF} (hf : ∀ q q', f q = some (.ok q') → q.2.2 ≤ 64 → blS q q') : ∀ j c q q', ntQ B N f j c q = some (.ok q') → q.2.2 ≤ 64 → q.2.2 < q'.2.2 ∧ q'.2.2 ≤ 64 ∧ q'.2.1.length + q.2.2 = q'.2.2 + q.2.1.length + c := by
  intro j
  induction j with
  | zero => intro c q q' h; cases h
  | succ j ih =>
    intro c q q' h h64
    have h' : (if q.1.1 = 14 then tkQ B N q (ntQ B N f j (c + 1)) else bdQ (f q) (fun q2 => some (.ok (q2.1, psN c q2.2.1, q2.2.2)))) = some (.ok q') := h
    by_cases e : q.1.1 = 14
    · rw [if_pos e] at h'
      rcases tkQ_ok h' with ⟨_, g⟩ | ⟨c6, g⟩
      · cases g
      · have a := ih _ _ _ g (by show q.2.2 + 1 ≤ 64; omega)
        have a1 : q.2.2 + 1 < q'.2.2 := a.1
        have a3 : q'.2.1.length + (q.2.2 + 1) = q'.2.2 + q.2.1.length + (c + 1) := a.2.2
        exact ⟨by omega, a.2.1, by omega⟩
    · rw [if_neg e] at h'
      obtain ⟨q2, g1, g2⟩ := bdQ_ok h'
      have a := hf _ _ g1 h64
      cases g2
      refine ⟨a.1, a.2.1, ?_⟩
      show (psN c q2.2.1).length + q.2.2 = q2.2.2 + q.2.1.length + c
      rw [psN_l]
      have := a.2.2
      omega
theorem bl_all : ∀ k l op q q', plv B N k l op q = some (.ok q') → q.2.2 ≤ 64 → blS q q'
  | 0, _, _, _, _, h, _ => by cases h
  | k + 1, l, op, q, q', h, h64 => by
    have ih := bl_all k
    have h' : (if 6 ≤ l then ptQ B N (plv B N k 0 (op + 1)) op q else if l = 2 then ntQ B N (plv B N k 3 op) 66 0 q else bdQ (plv B N k (l + 1) op q) (fun q1 => if l = 3 then l1Q B N (plv B N k 4 op) q1 else loQ B N (plv B N k (l + 1) op) l 66 q1)) = some (.ok q') := h
    by_cases c6 : 6 ≤ l
    · rw [if_pos c6] at h'
      unfold ptQ at h'
      by_cases e : q.1.1 = 25
      · rw [if_pos e] at h'
        by_cases c : 8 ≤ op
        · rw [if_pos c] at h'; cases h'
        · rw [if_neg c] at h'
          obtain ⟨q2, g1, g2⟩ := bdQ_ok h'
          have a := ih _ _ _ _ g1 h64
          by_cases g : q2.1.1 = 26
          · rw [if_pos g] at g2; cases g2; exact a
          · rw [if_neg g] at g2; cases g2
      · rw [if_neg e] at h'
        by_cases lf : isLf q.1.1 = true
        · rw [if_pos lf] at h'
          by_cases b : q.1.1 = 23 ∧ 9999 < q.1.2.1
          · rw [if_pos b] at h'; cases h'
          · rw [if_neg b] at h'
            rcases tkQ_ok h' with ⟨_, g⟩ | ⟨c, g⟩
            · cases g
            · cases g
              exact ⟨by show q.2.2 < q.2.2 + 1; omega, by show q.2.2 + 1 ≤ 64; omega, by show q.2.1.length + 1 + q.2.2 = q.2.2 + 1 + q.2.1.length; omega⟩
        · rw [if_neg lf] at h'; cases h'
    · rw [if_neg c6] at h'
      by_cases c2 : l = 2
      · rw [if_pos c2] at h'
        exact bl_nt (fun q q' => ih 3 op q q') 66 0 q q' h' h64
      · rw [if_neg c2] at h'
        obtain ⟨q1, g1, g2⟩ := bdQ_ok h'
        have a := ih _ _ _ _ g1 h64
        by_cases c3 : l = 3
        · rw [if_pos c3] at g2
          unfold l1Q at g2
          by_cases e : lvO q1.1.1 = 3
          · rw [if_pos e] at g2
            rcases tkQ_ok g2 with ⟨_, g⟩ | ⟨c, g⟩
            · cases g
            · obtain ⟨q2, g3, g4⟩ := bdQ_ok g
              cases g4
              have b := ih _ _ _ _ g3 (by show q1.2.2 + 1 ≤ 64; omega)
              have a1 := a.1
              have a3 := a.2.2
              have b1 : q1.2.2 + 1 < q2.2.2 := b.1
              have b3 : q2.2.1.length + (q1.2.2 + 1) = q2.2.2 + q1.2.1.length := b.2.2
              exact ⟨by show q.2.2 < q2.2.2; omega, b.2.1, by show q2.2.1.length + 1 + q.2.2 = q2.2.2 + q.2.1.length; omega⟩
          · rw [if_neg e] at g2
            cases g2
            exact a
        · rw [if_neg c3] at g2
          have b := bl_lo (fun q q' => ih (l + 1) op q q') 66 q1 q' g2 a.2.1
          have a1 := a.1
          have a3 := a.2.2
          have b1 := b.1
          have b3 := b.2.2
          exact ⟨by omega, b.2.1, by omega⟩
/-- the reader does what is read -/
def rdX (B : Nat → Nat) (N t : Nat) (s : zS) (c : Option ((Unit ⊕ Nat) × ai_H)) : Except (Nat × Nat) zQ → Prop
  | .ok q' => ∃ s', c = some (.inl (), mk s') ∧ frX t s s' ∧ cX B N t s' q'
  | .error e => erC t s c e
theorem rdX_t {c : Option ((Unit ⊕ Nat) × ai_H)} {r : Except (Nat × Nat) zQ} (f : frX t s s1) (h : rdX B N t s1 c r) : rdX B N t s c r := by
  cases r with
  | error e => exact erC_t (frX_J f) h
  | ok q' =>
    obtain ⟨s', a, b, d⟩ := h
    exact ⟨s', a, frX_t f b, d⟩
theorem rdX_bt {c : Option ((Unit ⊕ Nat) × ai_H)} {f : Unit → ai_H → Option ((Unit ⊕ Nat) × ai_H)} {r0 r : Except (Nat × Nat) zQ} (h : rdX B N t s c r0) (he : ∀ e, r0 = .error e → r = .error e) (hk : ∀ q' s', r0 = .ok q' → frX t s s' → cX B N t s' q' → rdX B N t s' (f () (mk s')) r) : rdX B N t s (bt c f) r := by
  cases r0 with
  | error e =>
    rw [he e rfl]
    exact bt_er (h : erC t s c e)
  | ok q' =>
    obtain ⟨s', a, b, d⟩ := h
    rw [bt_ok a]
    exact rdX_t b (hk q' s' rfl b d)
theorem bdQ_s {r0 : zF} {f : zQ → zF} {r : Except (Nat × Nat) zQ} (h : bdQ r0 f = some r) : ∃ r1, r0 = some r1 ∧ (∀ e, r1 = .error e → r = .error e) ∧ (∀ q1, r1 = .ok q1 → f q1 = some r) := by
  unfold bdQ at h
  cases r0 with
  | none => cases h
  | some x =>
    cases x with
    | error e => exact ⟨_, rfl, fun e' g => (by cases g; cases h; rfl), fun q1 g => by cases g⟩
    | ok q1 => exact ⟨_, rfl, fun e' g => (by cases g), fun q2 g => by cases g; exact h⟩
def CC (n : Nat) (B : Nat → Nat) (N t k : Nat) : Prop := ∀ (l op : Nat) (q : zQ) (s : zS) (r : Except (Nat × Nat) zQ), plv B N k l op q = some r → l ≤ 6 → op ≤ 8 → q.2.2 ≤ 64 → q.2.1.length ≤ q.2.2 → cX B N t s q → ∀ f, 2 * k ≤ f → rdX B N t s ((fs1 n f).2.2 (mk s) 3 (nI l) (nI op)) r
theorem lv_el (hl : l ≤ 5) (hk : k ≤ 38) : ((if lvO k = 9 then m1 else nI (lvO k)) = nI l) = (lvO k = l) := by
  have tab : ∀ k : Fin 39, ∀ l : Fin 6, decide ((if lvO k.1 = 9 then m1 else nI (lvO k.1)) = nI l.1) = decide (lvO k.1 = l.1) := by decide +kernel
  exact decide_eq_decide.1 (tab ⟨k, by omega⟩ ⟨l, by omega⟩) |> propext
theorem c_lo {f : Nat} (hn : 239 ≤ n) (ht : t = 6 ∨ t = 29) (ih : CC n B N t k) (hf : 2 * k ≤ f) (hl : l = 0 ∨ l = 1 ∨ l = 4 ∨ l = 5) (hop : op ≤ 8) : ∀ (j : Nat) (q : zQ) (s : zS) (r : Except (Nat × Nat) zQ) (i F : Nat), loQ B N (plv B N k (l + 1) op) l j q = some r → j ≤ F → i + 1 ≤ q.2.2 → q.2.2 ≤ 64 → q.2.1.length ≤ q.2.2 → cX B N t s q →
    rdX B N t s (fX3_readLevel_46 n (fs1 n f).1 (fs1 n f).2.1 (fs1 n f).2.2 F (mk s) 3 (nI l) (nI op) (nI 64) (nI i)) r := by
  intro j
  induction j with
  | zero => intro q s r i F h; cases h
  | succ j ihj =>
    intro q s r i F h hF hi h64 hlen hX
    obtain ⟨F', rfl⟩ : ∃ F', F = F' + 1 := ⟨F - 1, by omega⟩
    have h' : (if lvO q.1.1 = l then tkQ B N q (fun q1 => bdQ (plv B N k (l + 1) op q1) (fun q2 => loQ B N (plv B N k (l + 1) op) l j (emQ (q.1.1, 0) q2))) else some (.ok q)) = some r := h
    have w := hX.2.2.2.1.1
    have k4 := hX.2.2.1.1
    have lo := c_lvO (s := s) hn w
    have el := lv_el (k := q.1.1) (l := l) (by omega) w
    show rdX B N t s (fX3_readLevel_46b n (fs1 n f).1 (fs1 n f).2.1 (fs1 n f).2.2 (fX3_readLevel_46 n (fs1 n f).1 (fs1 n f).2.1 (fs1 n f).2.2 F') (mk s) 3 (nI l) (nI op) (nI 64) (nI i)) r
    unfold fX3_readLevel_46b
    by_cases e : lvO q.1.1 = l
    · rw [if_pos e] at h'
      have el' : ((if lvO q.1.1 = 9 then m1 else nI (lvO q.1.1)) = nI l) = True := by rw [el]; exact eq_true e
      simp (disch := first | omega | assumption | (simp only [wL_1, wL_22, wI_2, wA_2, wQ_1, wQ_21] <;> first | assumption | omega)) only [LIT, LITm, nI_add, n_mul, fa_or, n_31m, n_shl0, n_le, n_lt, n_eq, Option.bind_some, B_rd hn, k4, lo, el', not_true_eq_false, show ¬ 64 ≤ i by omega, ↓reduceIte]
      have tk := c_tkn hn ht hX h64
      rcases tkQ_ok h' with ⟨c, g⟩ | ⟨c, g⟩
      · rw [g]
        exact bt_er (tk.1 c)
      · obtain ⟨s1, e1, f1, X1⟩ := tk.2 c
        rw [bt_ok e1]
        refine rdX_t f1 ?_
        obtain ⟨r1, g1, g2, g3⟩ := bdQ_s g
        have kc1 : (kcQ B N q).2.2 = q.2.2 + 1 := rfl
        have ln1 : (kcQ B N q).2.1 = q.2.1 := rfl
        refine rdX_bt (ih (l + 1) op (kcQ B N q) s1 r1 g1 (by omega) hop (by omega) (by rw [ln1]; omega) X1 f hf) g2 ?_
        intro q2 s2 e2 f2 X2
        have b := bl_all k (l + 1) op _ q2 (by rw [g1, e2]) (by omega)
        have b1 := b.1
        have b3 := b.2.2
        rw [kc1] at b1 b3
        rw [ln1] at b3
        have b2 := b.2.1
        obtain ⟨s3, e3, f3, X3⟩ := c_put (x := q.1.1) (y := 0) hn ht X2 (by omega)
        have r31 := B_31 hn ht X2.2.1
        simp (disch := first | omega | assumption | (simp only [wL_1, wL_22, wI_2, wA_2, wQ_1, wQ_21] <;> first | assumption | omega)) only [LIT, LITm, nI_add, n_mul, fa_or, n_31m, n_shl0, n_le, n_lt, n_eq, Option.bind_some, r31, B_t hn ht, e3]
        refine rdX_t f3 (ihj (emQ (q.1.1, 0) q2) s3 r (i + 1) F' (g3 q2 e2) (by omega) ?_ ?_ ?_ X3)
        · show i + 1 + 1 ≤ q2.2.2; omega
        · exact b2
        · show q2.2.1.length + 1 ≤ q2.2.2; omega
    · rw [if_neg e] at h'
      cases h'
      have el' : ((if lvO q.1.1 = 9 then m1 else nI (lvO q.1.1)) = nI l) = False := by rw [el]; exact eq_false e
      simp (disch := first | omega | assumption | (simp only [wL_1, wL_22, wI_2, wA_2, wQ_1, wQ_21] <;> first | assumption | omega)) only [LIT, LITm, nI_add, n_mul, fa_or, n_31m, n_shl0, n_le, n_lt, n_eq, Option.bind_some, B_rd hn, k4, lo, el', not_false_eq_true, show ¬ 64 ≤ i by omega, ↓reduceIte]
      exact ⟨s, rfl, frX_r, hX⟩
end Ci
