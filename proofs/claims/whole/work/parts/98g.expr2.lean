/-! ===== expressions: levels and what waits agree ===== -/
section Ex2
variable {B : Nat → Nat} {N k l op : Nat} {q q' : zQ} {W P : List Nat} {br : Nat} {may : Bool}
theorem spK_x (h : spK l k P) (Q : List Nat) : spK l k (P ++ Q) := by
  rcases h with h | h | ⟨h, P1, x, P2, e1, e2, e3⟩
  · exact Or.inl h
  · exact Or.inr (Or.inl h)
  · refine Or.inr (Or.inr ⟨h, P1, x, P2 ++ Q, ?_, e2, e3⟩)
    rw [e1, List.append_assoc]
    rfl
theorem spK_d (h : spK (l + 1) k P) (n : lvO k ≠ l) : spK l k P := by
  rcases h with h | h | h
  · exact Or.inl h
  · exact Or.inr (Or.inl (by omega))
  · exact Or.inr (Or.inr h)
/-- what one reading gives -/
def CLr (B : Nat → Nat) (N l op : Nat) (r : zF) (q : zQ) (W : List Nat) (may : Bool) : Prop :=
  (∀ q', r = some (.ok q') → ∃ (P : List Nat) (o' : List (Nat × Nat)) (may' : Bool), (∀ x, x ∈ P → l + 1 ≤ rkO x) ∧ flP P o' = q'.2.1 ∧ spK l q'.1.1 P ∧ rch B N (q, W, op, true, may) ((q'.1, o', q'.2.2), P ++ W, op, false, may')) ∧
  (∀ e, r = some (.error e) → rcE B N (q, W, op, true, may) e)
theorem cl_lo (ih : CLv B N k) (hl : l = 0 ∨ l = 1 ∨ l = 4 ∨ l = 5) (hop : op ≤ 8) (ht : tpK W l) : ∀ (j : Nat) (q1 : zQ) (P : List Nat) (o' : List (Nat × Nat)) (may : Bool), (∀ x, x ∈ P → l + 1 ≤ rkO x) → flP P o' = q1.2.1 → spK (l + 1) q1.1.1 P →
    (∀ q', loQ B N (plv B N k (l + 1) op) l j q1 = some (.ok q') → ∃ (P' : List Nat) (o2 : List (Nat × Nat)) (may' : Bool), (∀ x, x ∈ P' → l + 1 ≤ rkO x) ∧ flP P' o2 = q'.2.1 ∧ spK l q'.1.1 P' ∧ rch B N ((q1.1, o', q1.2.2), P ++ W, op, false, may) ((q'.1, o2, q'.2.2), P' ++ W, op, false, may')) ∧
    (∀ e, loQ B N (plv B N k (l + 1) op) l j q1 = some (.error e) → rcE B N ((q1.1, o', q1.2.2), P ++ W, op, false, may) e) := by
  intro j
  induction j with
  | zero =>
    intro q1 P o' may _ _ _
    exact ⟨fun q' h => (by cases h), fun e h => by cases h⟩
  | succ j ihj =>
    intro q1 P o' may hP ho hs
    by_cases e : lvO q1.1.1 = l
    · have un : loQ B N (plv B N k (l + 1) op) l (j + 1) q1 = tkQ B N q1 (fun q2 => bdQ (plv B N k (l + 1) op q2) (fun q3 => loQ B N (plv B N k (l + 1) op) l j (emQ (q1.1.1, 0) q3))) := by
        show (if lvO q1.1.1 = l then _ else _) = _
        rw [if_pos e]
      have r5e : r5 (l + 1) = l + 1 := by unfold r5; rw [if_neg (by omega)]
      have g := op_go (B := B) (N := N) (P := P) (W := W) (br := op) (may := may) (o := o') (kc := q1.2.2) (tok := q1.1) e (by omega) (fun x hx => by rw [r5e]; exact hP x hx) ht
      by_cases c : 64 ≤ q1.2.2
      · have tk : loQ B N (plv B N k (l + 1) op) l (j + 1) q1 = some (.error (2, q1.1.2.2.1)) := by
          rw [un]
          show (if 64 ≤ q1.2.2 then _ else _) = _
          rw [if_pos c]
        refine ⟨fun q' h => (by rw [tk] at h; cases h), fun e' h => ?_⟩
        rw [tk] at h
        cases h
        exact g.1 c
      · have tk : loQ B N (plv B N k (l + 1) op) l (j + 1) q1 = bdQ (plv B N k (l + 1) op (kcQ B N q1)) (fun q3 => loQ B N (plv B N k (l + 1) op) l j (emQ (q1.1.1, 0) q3)) := by
          rw [un]
          show (if 64 ≤ q1.2.2 then _ else _) = _
          rw [if_neg c]
        have g2 := g.2 c
        rw [ho] at g2
        have i1 := ih (l + 1) op (kcQ B N q1) (q1.1.1 :: W) (decide (l + 1 < 3)) (by omega) hop (fun h t e1 => by cases e1; rw [rkO_o (by omega)]; omega) (fun h => decide_eq_true (by omega)) (fun h => Or.inl (decide_eq_false (by omega)))
        refine ⟨fun q' h => ?_, fun e' h => ?_⟩
        · rw [tk] at h
          obtain ⟨q3, h3, h4⟩ := bdQ_ok h
          obtain ⟨P2, o2, m2, a1, a2, a3, a4⟩ := i1.1 q3 h3
          have sp : spK (l + 1) (emQ (q1.1.1, 0) q3).1.1 (P2 ++ [q1.1.1]) := spK_x a3 _
          have hP2 : ∀ x, x ∈ P2 ++ [q1.1.1] → l + 1 ≤ rkO x := by
            intro x hx
            rcases List.mem_append.1 hx with y | y
            · have := a1 x y
              omega
            · rw [List.mem_singleton.1 y, rkO_o (by omega)]
              omega
          have fl : flP (P2 ++ [q1.1.1]) o2 = (emQ (q1.1.1, 0) q3).2.1 := by
            rw [flP_app, a2]
            rfl
          obtain ⟨P', o3, m3, b1, b2, b3, b4⟩ := (ihj (emQ (q1.1.1, 0) q3) (P2 ++ [q1.1.1]) o2 m2 hP2 fl sp).1 q' h4
          refine ⟨P', o3, m3, b1, b2, b3, rch_t g2 (rch_t a4 ?_)⟩
          rw [List.append_assoc] at b4
          exact b4
        · rw [tk] at h
          rcases bdQ_er h with h3 | ⟨q3, h3, h4⟩
          · exact rcE_t g2 (i1.2 e' h3)
          · obtain ⟨P2, o2, m2, a1, a2, a3, a4⟩ := i1.1 q3 h3
            have sp : spK (l + 1) (emQ (q1.1.1, 0) q3).1.1 (P2 ++ [q1.1.1]) := spK_x a3 _
            have hP2 : ∀ x, x ∈ P2 ++ [q1.1.1] → l + 1 ≤ rkO x := by
              intro x hx
              rcases List.mem_append.1 hx with y | y
              · have := a1 x y
                omega
              · rw [List.mem_singleton.1 y, rkO_o (by omega)]
                omega
            have fl : flP (P2 ++ [q1.1.1]) o2 = (emQ (q1.1.1, 0) q3).2.1 := by
              rw [flP_app, a2]
              rfl
            have b4 := (ihj (emQ (q1.1.1, 0) q3) (P2 ++ [q1.1.1]) o2 m2 hP2 fl sp).2 e' h4
            rw [List.append_assoc] at b4
            exact rcE_t g2 (rcE_t a4 b4)
    · have un : loQ B N (plv B N k (l + 1) op) l (j + 1) q1 = some (.ok q1) := by
        show (if lvO q1.1.1 = l then _ else _) = _
        rw [if_neg e]
      refine ⟨fun q' h => ?_, fun e' h => by rw [un] at h; cases h⟩
      rw [un] at h
      cases h
      exact ⟨P, o', may, hP, ho, spK_d hs e, rch_r⟩
theorem cl_l1 (ih : CLv B N k) (hop : op ≤ 8) (ht : tpK W 3) (q1 : zQ) (P : List Nat) (o' : List (Nat × Nat)) (may : Bool) (hP : ∀ x, x ∈ P → 5 ≤ rkO x) (ho : flP P o' = q1.2.1) (hs : spK 4 q1.1.1 P) :
    (∀ q', l1Q B N (plv B N k 4 op) q1 = some (.ok q') → ∃ (P' : List Nat) (o2 : List (Nat × Nat)) (may' : Bool), (∀ x, x ∈ P' → 4 ≤ rkO x) ∧ flP P' o2 = q'.2.1 ∧ spK 3 q'.1.1 P' ∧ rch B N ((q1.1, o', q1.2.2), P ++ W, op, false, may) ((q'.1, o2, q'.2.2), P' ++ W, op, false, may')) ∧
    (∀ e, l1Q B N (plv B N k 4 op) q1 = some (.error e) → rcE B N ((q1.1, o', q1.2.2), P ++ W, op, false, may) e) := by
  by_cases e : lvO q1.1.1 = 3
  · have un : l1Q B N (plv B N k 4 op) q1 = tkQ B N q1 (fun q2 => bdQ (plv B N k 4 op q2) (fun q3 => some (.ok (emQ (q1.1.1, 0) q3)))) := by
      unfold l1Q
      rw [if_pos e]
    have g := op_go (B := B) (N := N) (P := P) (W := W) (br := op) (may := may) (o := o') (kc := q1.2.2) (tok := q1.1) e (by omega) (fun x hx => hP x hx) ht
    by_cases c : 64 ≤ q1.2.2
    · have tk : l1Q B N (plv B N k 4 op) q1 = some (.error (2, q1.1.2.2.1)) := by
        rw [un]
        show (if 64 ≤ q1.2.2 then _ else _) = _
        rw [if_pos c]
      refine ⟨fun q' h => (by rw [tk] at h; cases h), fun e' h => ?_⟩
      rw [tk] at h
      cases h
      exact g.1 c
    · have tk : l1Q B N (plv B N k 4 op) q1 = bdQ (plv B N k 4 op (kcQ B N q1)) (fun q3 => some (.ok (emQ (q1.1.1, 0) q3))) := by
        rw [un]
        show (if 64 ≤ q1.2.2 then _ else _) = _
        rw [if_neg c]
      have g2 := g.2 c
      rw [ho] at g2
      have i1 := ih 4 op (kcQ B N q1) (q1.1.1 :: W) (decide (3 + 1 < 3)) (by omega) hop (fun h t e1 => by cases e1; rw [rkO_o (by omega)]; omega) (fun h => by omega) (fun h => Or.inl rfl)
      refine ⟨fun q' h => ?_, fun e' h => ?_⟩
      · rw [tk] at h
        obtain ⟨q3, h3, h4⟩ := bdQ_ok h
        obtain ⟨P2, o2, m2, a1, a2, a3, a4⟩ := i1.1 q3 h3
        cases h4
        refine ⟨P2 ++ [q1.1.1], o2, m2, ?_, ?_, ?_, ?_⟩
        · intro x hx
          rcases List.mem_append.1 hx with y | y
          · have := a1 x y
            omega
          · rw [List.mem_singleton.1 y, rkO_o (by omega)]
            omega
        · rw [flP_app, a2]
          rfl
        · show spK 3 q3.1.1 _
          rcases a3 with h | h | h
          · exact Or.inl h
          · by_cases h' : lvO q3.1.1 = 3
            · exact Or.inr (Or.inr ⟨h', P2, q1.1.1, [], rfl, a1, by rw [rkO_o (by omega), e]⟩)
            · exact Or.inr (Or.inl (by omega))
          · exact spK_x (Or.inr (Or.inr h)) _
        · rw [List.append_assoc]
          exact rch_t g2 a4
      · rw [tk] at h
        rcases bdQ_er h with h3 | ⟨q3, h3, h4⟩
        · exact rcE_t g2 (i1.2 e' h3)
        · cases h4
  · have un : l1Q B N (plv B N k 4 op) q1 = some (.ok q1) := by
      unfold l1Q
      rw [if_neg e]
    refine ⟨fun q' h => ?_, fun e' h => by rw [un] at h; cases h⟩
    rw [un] at h
    cases h
    exact ⟨P, o', may, fun x hx => Nat.le_of_succ_le (hP x hx), ho, spK_d hs e, rch_r⟩
theorem rep_r (c : Nat) : ∀ x, x ∈ rep14 c → 3 ≤ rkO x := by
  induction c with
  | zero => intro x hx; cases hx
  | succ c ih =>
    intro x hx
    rcases List.mem_cons.1 hx with h | h
    · rw [h]; decide
    · exact ih x h
theorem cl_nt (ih : CLv B N k) (hop : op ≤ 8) (ht : tpK W 2) : ∀ (j c : Nat) (q : zQ),
    (∀ q', ntQ B N (plv B N k 3 op) j c q = some (.ok q') → ∃ (P' : List Nat) (o2 : List (Nat × Nat)) (may' : Bool), (∀ x, x ∈ P' → 3 ≤ rkO x) ∧ flP P' o2 = q'.2.1 ∧ spK 2 q'.1.1 P' ∧ rch B N (q, rep14 c ++ W, op, true, true) ((q'.1, o2, q'.2.2), P' ++ W, op, false, may')) ∧
    (∀ e, ntQ B N (plv B N k 3 op) j c q = some (.error e) → rcE B N (q, rep14 c ++ W, op, true, true) e) := by
  intro j
  induction j with
  | zero => intro c q; exact ⟨fun q' h => (by cases h), fun e h => by cases h⟩
  | succ j ihj =>
    intro c q
    by_cases e : q.1.1 = 14
    · have st : syS B N (q, rep14 c ++ W, op, true, true) = if 64 ≤ q.2.2 then .inl (.error (2, q.1.2.2.1)) else .inr (kcQ B N q, 14 :: (rep14 c ++ W), op, true, true) := by
        unfold syS
        rw [if_neg (show ¬ (q.1.1 = 24 ∧ true = false ∧ op = 0) from fun g => by cases g.2.1), if_pos (show true = true from rfl), if_neg (show ¬ q.1.1 = 25 by omega), if_pos (show q.1.1 = 14 ∧ true = true from ⟨e, rfl⟩)]
      by_cases g : 64 ≤ q.2.2
      · have un : ntQ B N (plv B N k 3 op) (j + 1) c q = some (.error (2, q.1.2.2.1)) := by
          show (if q.1.1 = 14 then (if 64 ≤ q.2.2 then _ else _) else _) = _
          rw [if_pos e, if_pos g]
        refine ⟨fun q' h => (by rw [un] at h; cases h), fun e' h => ?_⟩
        rw [un] at h
        cases h
        exact rcE_1 (by rw [st, if_pos g])
      · have un : ntQ B N (plv B N k 3 op) (j + 1) c q = ntQ B N (plv B N k 3 op) j (c + 1) (kcQ B N q) := by
          show (if q.1.1 = 14 then (if 64 ≤ q.2.2 then _ else _) else _) = _
          rw [if_pos e, if_neg g]
        have s1 : rch B N (q, rep14 c ++ W, op, true, true) (kcQ B N q, rep14 (c + 1) ++ W, op, true, true) := rch_1 (by rw [st, if_neg g]; rfl)
        refine ⟨fun q' h => ?_, fun e' h => ?_⟩
        · rw [un] at h
          obtain ⟨P', o2, m, a1, a2, a3, a4⟩ := (ihj (c + 1) (kcQ B N q)).1 q' h
          exact ⟨P', o2, m, a1, a2, a3, rch_t s1 a4⟩
        · rw [un] at h
          exact rcE_t s1 ((ihj (c + 1) (kcQ B N q)).2 e' h)
    · have un : ntQ B N (plv B N k 3 op) (j + 1) c q = bdQ (plv B N k 3 op q) (fun q2 => some (.ok (q2.1, psN c q2.2.1, q2.2.2))) := by
        show (if q.1.1 = 14 then _ else _) = _
        rw [if_neg e]
      have i1 := ih 3 op q (rep14 c ++ W) true (by omega) hop (fun h t e1 => by
        cases c with
        | zero => have := ht h t e1; omega
        | succ c => cases e1; decide) (fun h => by omega) (fun h => Or.inr e)
      refine ⟨fun q' h => ?_, fun e' h => ?_⟩
      · rw [un] at h
        obtain ⟨q3, h3, h4⟩ := bdQ_ok h
        obtain ⟨P2, o2, m2, a1, a2, a3, a4⟩ := i1.1 q3 h3
        cases h4
        refine ⟨P2 ++ rep14 c, o2, m2, ?_, ?_, ?_, ?_⟩
        · intro x hx
          rcases List.mem_append.1 hx with y | y
          · have := a1 x y
            omega
          · exact rep_r c x y
        · rw [flP_app, a2, flP_14]
        · exact spK_d (spK_x a3 _) (by have := lvO_c q3.1.1; show lvO q3.1.1 ≠ 2; omega)
        · rw [List.append_assoc]
          exact a4
      · rw [un] at h
        rcases bdQ_er h with h3 | ⟨q3, h3, h4⟩
        · exact i1.2 e' h3
        · cases h4
theorem cl_pt (ih : CLv B N k) (hop : op ≤ 8) (hm : may = false ∨ q.1.1 ≠ 14) : CLr B N 6 op (ptQ B N (plv B N k 0 (op + 1)) op q) q W may := by
  have nil6 : ∀ k, spK 6 k [] := fun k => by
    have := lvO_c k
    by_cases h : lvO k = 9
    · exact Or.inl h
    · exact Or.inr (Or.inl (by omega))
  have st0 : ¬ (q.1.1 = 24 ∧ true = false ∧ op = 0) := fun g => by cases g.2.1
  unfold CLr
  by_cases e : q.1.1 = 25
  · by_cases c : 8 ≤ op
    · have un : ptQ B N (plv B N k 0 (op + 1)) op q = some (.error (2, q.1.2.2.1)) := by
        unfold ptQ
        rw [if_pos e, if_pos c]
      refine ⟨fun q' h => (by rw [un] at h; cases h), fun e' h => ?_⟩
      rw [un] at h
      cases h
      apply rcE_1
      unfold syS
      rw [if_neg st0, if_pos (show true = true from rfl), if_pos e, if_pos (show op = 8 by omega)]
    · have un : ptQ B N (plv B N k 0 (op + 1)) op q = bdQ (plv B N k 0 (op + 1) (adQ B N q)) (fun q1 => if q1.1.1 = 26 then some (.ok (adQ B N q1)) else some (.error (1, q1.1.2.2.1))) := by
        unfold ptQ
        rw [if_pos e, if_neg c]
      have s1 : rch B N (q, W, op, true, may) (adQ B N q, 25 :: W, op + 1, true, true) := rch_1 (by
        unfold syS
        rw [if_neg st0, if_pos (show true = true from rfl), if_pos e, if_neg (show ¬ op = 8 by omega)])
      have i1 := ih 0 (op + 1) (adQ B N q) (25 :: W) true (by omega) (by omega) (fun h t e1 => by cases e1; decide) (fun _ => rfl) (fun h => by omega)
      refine ⟨fun q' h => ?_, fun e' h => ?_⟩
      · rw [un] at h
        obtain ⟨q3, h3, h4⟩ := bdQ_ok h
        obtain ⟨P2, o2, m2, a1, a2, a3, a4⟩ := i1.1 q3 h3
        by_cases g : q3.1.1 = 26
        · rw [if_pos g] at h4
          cases h4
          have b := bdP_app (r := 1) P2 (25 :: W) o2 (fun x hx => a1 x hx) (fun h t e1 => by cases e1; decide)
          refine ⟨[], q3.2.1, m2, fun x hx => (by cases hx), rfl, nil6 _, rch_t s1 (rch_t a4 (rch_1 ?_))⟩
          unfold syS
          rw [if_neg (show ¬ (q3.1.1 = 24 ∧ false = false ∧ op + 1 = 0) from fun g => by omega), if_neg (show ¬ (false = true) from Bool.false_ne_true), if_pos (show q3.1.1 = 26 ∧ 0 < op + 1 from ⟨g, by omega⟩)]
          show Sum.inr ((lxV B N q3.1.2.2.2, (bdP 1 (P2 ++ 25 :: W) o2).2, q3.2.2), (bdP 1 (P2 ++ 25 :: W) o2).1.tail, op + 1 - 1, false, m2) = _
          rw [b, a2]
          rfl
        · rw [if_neg g] at h4
          cases h4
      · rw [un] at h
        rcases bdQ_er h with h3 | ⟨q3, h3, h4⟩
        · exact rcE_t s1 (i1.2 e' h3)
        · obtain ⟨P2, o2, m2, a1, a2, a3, a4⟩ := i1.1 q3 h3
          by_cases g : q3.1.1 = 26
          · rw [if_pos g] at h4
            cases h4
          · rw [if_neg g] at h4
            cases h4
            exact rcE_t s1 (rcE_t a4 (sp_er a3 (Or.inr (by omega)) (Or.inl g)))
  · have n14 : ¬ (q.1.1 = 14 ∧ may = true) := fun g => by
      rcases hm with h | h
      · rw [h] at g; cases g.2
      · exact h g.1
    by_cases lf : isLf q.1.1 = true
    · by_cases b : q.1.1 = 23 ∧ 9999 < q.1.2.1
      · have un : ptQ B N (plv B N k 0 (op + 1)) op q = some (.error (2, q.1.2.2.1)) := by
          unfold ptQ
          rw [if_neg e, if_pos lf, if_pos b]
        refine ⟨fun q' h => (by rw [un] at h; cases h), fun e' h => ?_⟩
        rw [un] at h
        cases h
        apply rcE_1
        unfold syS
        rw [if_neg st0, if_pos (show true = true from rfl), if_neg e, if_neg n14, if_pos lf, if_pos b]
      · by_cases c : 64 ≤ q.2.2
        · have un : ptQ B N (plv B N k 0 (op + 1)) op q = some (.error (2, q.1.2.2.1)) := by
            unfold ptQ tkQ
            rw [if_neg e, if_pos lf, if_neg b, if_pos c]
          refine ⟨fun q' h => (by rw [un] at h; cases h), fun e' h => ?_⟩
          rw [un] at h
          cases h
          apply rcE_1
          unfold syS
          rw [if_neg st0, if_pos (show true = true from rfl), if_neg e, if_neg n14, if_pos lf, if_neg b, if_pos c]
        · have un : ptQ B N (plv B N k 0 (op + 1)) op q = some (.ok (emQ (q.1.1, q.1.2.1) (kcQ B N q))) := by
            unfold ptQ tkQ
            rw [if_neg e, if_pos lf, if_neg b, if_neg c]
          refine ⟨fun q' h => ?_, fun e' h => by rw [un] at h; cases h⟩
          rw [un] at h
          cases h
          refine ⟨[], (emQ (q.1.1, q.1.2.1) (kcQ B N q)).2.1, may, fun x hx => (by cases hx), rfl, nil6 _, rch_1 ?_⟩
          unfold syS
          rw [if_neg st0, if_pos (show true = true from rfl), if_neg e, if_neg n14, if_pos lf, if_neg b, if_neg c]
          rfl
    · have un : ptQ B N (plv B N k 0 (op + 1)) op q = some (.error (1, q.1.2.2.1)) := by
        unfold ptQ
        rw [if_neg e, if_neg lf]
      refine ⟨fun q' h => (by rw [un] at h; cases h), fun e' h => ?_⟩
      rw [un] at h
      cases h
      apply rcE_1
      unfold syS
      rw [if_neg st0, if_pos (show true = true from rfl), if_neg e, if_neg n14, if_neg lf]
theorem cl_all : ∀ k, CLv B N k
  | 0 => by
    intro l op q W may _ _ _ _ _
    exact ⟨fun q' h => (by cases h), fun e h => by cases h⟩
  | k + 1 => by
    have ih : CLv B N k := cl_all k
    intro l op q W may hl hop ht hm1 hm2
    by_cases c6 : 6 ≤ l
    · have e6 : l = 6 := by omega
      subst e6
      exact cl_pt ih hop (hm2 (by omega))
    · by_cases c2 : l = 2
      · subst c2
        have un : plv B N (k + 1) 2 op q = ntQ B N (plv B N k 3 op) 66 0 q := rfl
        rw [un, hm1 (by omega)]
        exact cl_nt ih hop ht 66 0 q
      · have i1 := ih (l + 1) op q W may (by omega) hop (fun h t e => by have := ht h t e; omega) (fun h => hm1 (by omega)) (fun h => hm2 (by omega))
        have un : plv B N (k + 1) l op q = bdQ (plv B N k (l + 1) op q) (fun q1 => if l = 3 then l1Q B N (plv B N k 4 op) q1 else loQ B N (plv B N k (l + 1) op) l 66 q1) := by
          show (if 6 ≤ l then _ else if l = 2 then _ else _) = _
          rw [if_neg c6, if_neg c2]
        rw [un]
        by_cases c3 : l = 3
        · subst c3
          refine ⟨fun q' h => ?_, fun e' h => ?_⟩
          · obtain ⟨q1, h1, h2⟩ := bdQ_ok h
            obtain ⟨P, o', m, a1, a2, a3, a4⟩ := i1.1 q1 h1
            rw [if_pos rfl] at h2
            obtain ⟨P', o2, m2, b1, b2, b3, b4⟩ := (cl_l1 ih hop ht q1 P o' m a1 a2 a3).1 q' h2
            exact ⟨P', o2, m2, b1, b2, b3, rch_t a4 b4⟩
          · rcases bdQ_er h with h1 | ⟨q1, h1, h2⟩
            · exact i1.2 e' h1
            · obtain ⟨P, o', m, a1, a2, a3, a4⟩ := i1.1 q1 h1
              rw [if_pos rfl] at h2
              exact rcE_t a4 ((cl_l1 ih hop ht q1 P o' m a1 a2 a3).2 e' h2)
        · refine ⟨fun q' h => ?_, fun e' h => ?_⟩
          · obtain ⟨q1, h1, h2⟩ := bdQ_ok h
            obtain ⟨P, o', m, a1, a2, a3, a4⟩ := i1.1 q1 h1
            rw [if_neg c3] at h2
            obtain ⟨P', o2, m2, b1, b2, b3, b4⟩ := (cl_lo ih (by omega) hop ht 66 q1 P o' m (fun x hx => Nat.le_of_succ_le (a1 x hx)) a2 a3).1 q' h2
            exact ⟨P', o2, m2, b1, b2, b3, rch_t a4 b4⟩
          · rcases bdQ_er h with h1 | ⟨q1, h1, h2⟩
            · exact i1.2 e' h1
            · obtain ⟨P, o', m, a1, a2, a3, a4⟩ := i1.1 q1 h1
              rw [if_neg c3] at h2
              exact rcE_t a4 ((cl_lo ih (by omega) hop ht 66 q1 P o' m (fun x hx => Nat.le_of_succ_le (a1 x hx)) a2 a3).2 e' h2)
/-- an expression whole, and then the line's end -/
def exQ (B : Nat → Nat) (N k : Nat) (q : zQ) : zF := bdQ (plv B N k 0 0 q) (fun q1 => if q1.1.1 = 24 then some (.ok q1) else some (.error (1, q1.1.2.2.1)))
/-- read by levels, read by what waits: the same -/
theorem ex_sy {r : Except (Nat × Nat) zQ} (h : exQ B N k q = some r) : ∃ c, ∀ f, syR B N (f + c) (q, [], 0, true, true) = some r := by
  have i1 := cl_all (B := B) (N := N) k 0 0 q [] true (by omega) (by omega) (fun h t e => by cases e) (fun _ => rfl) (fun h => by omega)
  cases r with
  | error e =>
    rcases bdQ_er h with h1 | ⟨q1, h1, h2⟩
    · exact i1.2 e h1
    · obtain ⟨P, o', m, a1, a2, a3, a4⟩ := i1.1 q1 h1
      by_cases c : q1.1.1 = 24
      · rw [if_pos c] at h2
        cases h2
      · rw [if_neg c] at h2
        cases h2
        exact rcE_t a4 (sp_er a3 (Or.inl c) (Or.inr rfl))
  | ok q' =>
    obtain ⟨q1, h1, h2⟩ := bdQ_ok h
    obtain ⟨P, o', m, a1, a2, a3, ⟨c, a4⟩⟩ := i1.1 q1 h1
    by_cases c24 : q1.1.1 = 24
    · rw [if_pos c24] at h2
      cases h2
      refine ⟨1 + c, fun f => ?_⟩
      rw [← Nat.add_assoc, a4]
      show (match syS B N ((q'.1, o', q'.2.2), P ++ [], 0, false, m) with | .inl r => some r | .inr y' => syR B N f y') = _
      have b := bdP_app (r := 1) P [] o' (fun x hx => a1 x hx) (fun h t e => by cases e)
      have s : syS B N ((q'.1, o', q'.2.2), P ++ [], 0, false, m) = .inl (.ok q') := by
        unfold syS
        rw [if_pos (show q'.1.1 = 24 ∧ false = false ∧ 0 = 0 from ⟨c24, rfl, rfl⟩)]
        show Sum.inl (Except.ok (q'.1, (bdP 1 (P ++ []) o').2, q'.2.2)) = _
        rw [b, a2]
      rw [s]
    · rw [if_neg c24] at h2
      cases h2
end Ex2
