/-! ===== expressions, the pure side: by levels, and by what waits ===== -/
/-- token, knots told (the last one first), knots counted -/
abbrev zQ : Type := zK × List (Nat × Nat) × Nat
abbrev zF : Type := Option (Except (Nat × Nat) zQ)
def lvO (k : Nat) : Nat := if k = 12 then 0 else if k = 13 then 1 else if 27 ≤ k ∧ k ≤ 32 then 3 else if k = 33 ∨ k = 34 then 4 else if k = 35 ∨ k = 36 then 5 else 9
def rkO (k : Nat) : Nat := if k = 25 then 0 else if k = 14 then 3 else lvO k + 1
def isLf (k : Nat) : Bool := decide (k = 23 ∨ (15 ≤ k ∧ k ≤ 21))
section Ex
variable {B : Nat → Nat} {N k l op : Nat} {q q' : zQ} {W P : List Nat} {br : Nat} {may : Bool}
def adQ (B : Nat → Nat) (N : Nat) (q : zQ) : zQ := (lxV B N q.1.2.2.2, q.2.1, q.2.2)
def kcQ (B : Nat → Nat) (N : Nat) (q : zQ) : zQ := (lxV B N q.1.2.2.2, q.2.1, q.2.2 + 1)
def emQ (x : Nat × Nat) (q : zQ) : zQ := (q.1, x :: q.2.1, q.2.2)
def bdQ (r : zF) (f : zQ → zF) : zF := match r with
  | none => none
  | some (.error e) => some (.error e)
  | some (.ok q) => f q
/-- a knot is taken, then what comes -/
def tkQ (B : Nat → Nat) (N : Nat) (q : zQ) (f : zQ → zF) : zF := if 64 ≤ q.2.2 then some (.error (2, q.1.2.2.1)) else f (kcQ B N q)
def loQ (B : Nat → Nat) (N : Nat) (f : zQ → zF) (l : Nat) : Nat → zQ → zF
  | 0, _ => none
  | j + 1, q => if lvO q.1.1 = l then tkQ B N q (fun q1 => bdQ (f q1) (fun q2 => loQ B N f l j (emQ (q.1.1, 0) q2))) else some (.ok q)
def l1Q (B : Nat → Nat) (N : Nat) (f : zQ → zF) (q : zQ) : zF := if lvO q.1.1 = 3 then tkQ B N q (fun q1 => bdQ (f q1) (fun q2 => some (.ok (emQ (q.1.1, 0) q2)))) else some (.ok q)
def psN : Nat → List (Nat × Nat) → List (Nat × Nat)
  | 0, o => o
  | c + 1, o => (14, 0) :: psN c o
def ntQ (B : Nat → Nat) (N : Nat) (f : zQ → zF) : Nat → Nat → zQ → zF
  | 0, _, _ => none
  | j + 1, c, q => if q.1.1 = 14 then tkQ B N q (ntQ B N f j (c + 1)) else bdQ (f q) (fun q2 => some (.ok (q2.1, psN c q2.2.1, q2.2.2)))
def ptQ (B : Nat → Nat) (N : Nat) (f : zQ → zF) (op : Nat) (q : zQ) : zF :=
  if q.1.1 = 25 then (if 8 ≤ op then some (.error (2, q.1.2.2.1)) else bdQ (f (adQ B N q)) (fun q1 => if q1.1.1 = 26 then some (.ok (adQ B N q1)) else some (.error (1, q1.1.2.2.1))))
  else if isLf q.1.1 = true then (if q.1.1 = 23 ∧ 9999 < q.1.2.1 then some (.error (2, q.1.2.2.1)) else tkQ B N q (fun q1 => some (.ok (emQ (q.1.1, q.1.2.1) q1)))) else some (.error (1, q.1.2.2.1))
/-- an expression of a level or a tighter one -/
def plv (B : Nat → Nat) (N : Nat) : Nat → Nat → Nat → zQ → zF
  | 0 => fun _ _ _ => none
  | k + 1 => fun l op q => if 6 ≤ l then ptQ B N (plv B N k 0 (op + 1)) op q else if l = 2 then ntQ B N (plv B N k 3 op) 66 0 q else bdQ (plv B N k (l + 1) op q) (fun q1 => if l = 3 then l1Q B N (plv B N k 4 op) q1 else loQ B N (plv B N k (l + 1) op) l 66 q1)
/-! what waits -/
abbrev zY : Type := zQ × List Nat × Nat × Bool × Bool
def bdP (r : Nat) : List Nat → List (Nat × Nat) → List Nat × List (Nat × Nat)
  | [], o => ([], o)
  | h :: t, o => if r ≤ rkO h then bdP r t ((h, 0) :: o) else (h :: t, o)
def flP : List Nat → List (Nat × Nat) → List (Nat × Nat)
  | [], o => o
  | h :: t, o => flP t ((h, 0) :: o)
def r5 (r : Nat) : Nat := if r = 4 then 5 else r
def syS (B : Nat → Nat) (N : Nat) (y : zY) : Except (Nat × Nat) zQ ⊕ zY :=
  if y.1.1.1 = 24 ∧ y.2.2.2.1 = false ∧ y.2.2.1 = 0 then .inl (.ok (y.1.1, (bdP 1 y.2.1 y.1.2.1).2, y.1.2.2)) else
  if y.2.2.2.1 = true then
    (if y.1.1.1 = 25 then (if y.2.2.1 = 8 then .inl (.error (2, y.1.1.2.2.1)) else .inr (adQ B N y.1, 25 :: y.2.1, y.2.2.1 + 1, true, true)) else
    if y.1.1.1 = 14 ∧ y.2.2.2.2 = true then (if 64 ≤ y.1.2.2 then .inl (.error (2, y.1.1.2.2.1)) else .inr (kcQ B N y.1, 14 :: y.2.1, y.2.2.1, true, y.2.2.2.2)) else
    if isLf y.1.1.1 = true then (if y.1.1.1 = 23 ∧ 9999 < y.1.1.2.1 then .inl (.error (2, y.1.1.2.2.1)) else if 64 ≤ y.1.2.2 then .inl (.error (2, y.1.1.2.2.1)) else .inr (emQ (y.1.1.1, y.1.1.2.1) (kcQ B N y.1), y.2.1, y.2.2.1, false, y.2.2.2.2)) else .inl (.error (1, y.1.1.2.2.1)))
  else
    (if y.1.1.1 = 26 ∧ 0 < y.2.2.1 then .inr ((lxV B N y.1.1.2.2.2, (bdP 1 y.2.1 y.1.2.1).2, y.1.2.2), (bdP 1 y.2.1 y.1.2.1).1.tail, y.2.2.1 - 1, false, y.2.2.2.2) else
    if lvO y.1.1.1 = 9 then .inl (.error (1, y.1.1.2.2.1)) else
    if lvO y.1.1.1 = 3 ∧ (bdP 5 y.2.1 y.1.2.1).1.head?.map rkO = some 4 then .inl (.error (1, y.1.1.2.2.1)) else
    if 64 ≤ y.1.2.2 then .inl (.error (2, y.1.1.2.2.1)) else
    .inr ((lxV B N y.1.1.2.2.2, (bdP (r5 (lvO y.1.1.1 + 1)) y.2.1 y.1.2.1).2, y.1.2.2 + 1), y.1.1.1 :: (bdP (r5 (lvO y.1.1.1 + 1)) y.2.1 y.1.2.1).1, y.2.2.1, true, decide (lvO y.1.1.1 + 1 < 3)))
def syR (B : Nat → Nat) (N : Nat) : Nat → zY → zF
  | 0, _ => none
  | f + 1, y => match syS B N y with
    | .inl r => some r
    | .inr y' => syR B N f y'
def rch (B : Nat → Nat) (N : Nat) (y y' : zY) : Prop := ∃ c, ∀ f, syR B N (f + c) y = syR B N f y'
def rcE (B : Nat → Nat) (N : Nat) (y : zY) (e : Nat × Nat) : Prop := ∃ c, ∀ f, syR B N (f + c) y = some (.error e)
theorem rch_r {y : zY} : rch B N y y := ⟨0, fun _ => rfl⟩
theorem rch_t {y y' y'' : zY} (h : rch B N y y') (g : rch B N y' y'') : rch B N y y'' := by
  obtain ⟨c, hc⟩ := h
  obtain ⟨d, hd⟩ := g
  exact ⟨d + c, fun f => by rw [← Nat.add_assoc, hc, hd]⟩
theorem rcE_t {y y' : zY} {e : Nat × Nat} (h : rch B N y y') (g : rcE B N y' e) : rcE B N y e := by
  obtain ⟨c, hc⟩ := h
  obtain ⟨d, hd⟩ := g
  exact ⟨d + c, fun f => by rw [← Nat.add_assoc, hc, hd]⟩
theorem rch_1 {y y' : zY} (h : syS B N y = .inr y') : rch B N y y' := ⟨1, fun f => by
  show (match syS B N y with | .inl r => some r | .inr y' => syR B N f y') = _
  rw [h]⟩
theorem rcE_1 {y : zY} {e : Nat × Nat} (h : syS B N y = .inl (.error e)) : rcE B N y e := ⟨1, fun f => by
  show (match syS B N y with | .inl r => some r | .inr y' => syR B N f y') = _
  rw [h]⟩
/-- the top of what waits ranks below a level -/
def tpK (W : List Nat) (l : Nat) : Prop := ∀ h t, W = h :: t → rkO h < l + 1
theorem bdP_app {r : Nat} : ∀ (P W : List Nat) (o : List (Nat × Nat)), (∀ x, x ∈ P → r ≤ rkO x) → (∀ h t, W = h :: t → rkO h < r) → bdP r (P ++ W) o = (W, flP P o)
  | [], W, o, _, hW => by
    show bdP r W o = (W, o)
    cases W with
    | nil => rfl
    | cons h t =>
      show (if r ≤ rkO h then _ else (h :: t, o)) = _
      rw [if_neg (by have := hW h t rfl; omega)]
  | x :: P, W, o, hP, hW => by
    show (if r ≤ rkO x then bdP r (P ++ W) ((x, 0) :: o) else _) = _
    rw [if_pos (hP x (List.mem_cons_self ..)), bdP_app P W _ (fun y hy => hP y (List.mem_cons_of_mem _ hy)) hW]
    rfl
theorem flP_app (P Q : List Nat) (o : List (Nat × Nat)) : flP (P ++ Q) o = flP Q (flP P o) := by
  induction P generalizing o with
  | nil => rfl
  | cons h t ih => exact ih _
def rep14 : Nat → List Nat
  | 0 => []
  | c + 1 => 14 :: rep14 c
theorem flP_14 (c : Nat) (o : List (Nat × Nat)) : flP (rep14 c) o = psN c o := by
  induction c generalizing o with
  | zero => rfl
  | succ c ih =>
    show flP (rep14 c) ((14, 0) :: o) = (14, 0) :: psN c o
    rw [ih]
    clear ih
    induction c with
    | zero => rfl
    | succ c ih =>
      show (14, 0) :: psN c ((14, 0) :: o) = (14, 0) :: (14, 0) :: psN c o
      rw [ih]
/-- nothing of this level or tighter can go on here -/
def spK (l : Nat) (k : Nat) (P : List Nat) : Prop := lvO k = 9 ∨ lvO k < l ∨ (lvO k = 3 ∧ ∃ P1 h P2, P = P1 ++ h :: P2 ∧ (∀ x, x ∈ P1 → 5 ≤ rkO x) ∧ rkO h = 4)
theorem lvO_c (k : Nat) : lvO k = 0 ∨ lvO k = 1 ∨ lvO k = 3 ∨ lvO k = 4 ∨ lvO k = 5 ∨ lvO k = 9 := by
  unfold lvO
  repeat' split
  all_goals omega
theorem rkO_o (h : lvO k ≠ 9) : rkO k = lvO k + 1 := by
  unfold rkO
  rw [if_neg (fun e => h (by rw [e]; decide)), if_neg (fun e => h (by rw [e]; decide))]
/-- what a level's reading says of what waits -/
def CLv (B : Nat → Nat) (N k : Nat) : Prop := ∀ (l op : Nat) (q : zQ) (W : List Nat) (may : Bool), l ≤ 6 → op ≤ 8 → tpK W l → (l ≤ 2 → may = true) → (3 ≤ l → may = false ∨ q.1.1 ≠ 14) →
  (∀ q', plv B N k l op q = some (.ok q') → ∃ (P : List Nat) (o' : List (Nat × Nat)) (may' : Bool), (∀ x, x ∈ P → l + 1 ≤ rkO x) ∧ flP P o' = q'.2.1 ∧ spK l q'.1.1 P ∧ rch B N (q, W, op, true, may) ((q'.1, o', q'.2.2), P ++ W, op, false, may')) ∧
  (∀ e, plv B N k l op q = some (.error e) → rcE B N (q, W, op, true, may) e)
theorem bdQ_ok {r : zF} {f : zQ → zF} (h : bdQ r f = some (.ok q')) : ∃ q1, r = some (.ok q1) ∧ f q1 = some (.ok q') := by
  unfold bdQ at h
  cases r with
  | none => cases h
  | some x =>
    cases x with
    | error e => cases h
    | ok q1 => exact ⟨q1, rfl, h⟩
theorem bdQ_er {r : zF} {f : zQ → zF} {e : Nat × Nat} (h : bdQ r f = some (.error e)) : r = some (.error e) ∨ ∃ q1, r = some (.ok q1) ∧ f q1 = some (.error e) := by
  unfold bdQ at h
  cases r with
  | none => cases h
  | some x =>
    cases x with
    | error e' => left; exact h
    | ok q1 => exact Or.inr ⟨q1, rfl, h⟩
/-- it stands where no sign can go on: a fault -/
theorem sp_er {o : List (Nat × Nat)} {kc : Nat} {tok : zK} (hs : spK 0 tok.1 P) (h24 : tok.1 ≠ 24 ∨ br ≠ 0) (h26 : tok.1 ≠ 26 ∨ br = 0) : rcE B N ((tok, o, kc), P ++ W, br, false, may) (1, tok.2.2.1) := by
  apply rcE_1
  unfold syS
  rw [if_neg (show ¬ (tok.1 = 24 ∧ false = false ∧ br = 0) from fun g => by rcases h24 with h | h; exact h g.1; exact h g.2.2), if_neg (show ¬ (false = true) from Bool.false_ne_true), if_neg (show ¬ (tok.1 = 26 ∧ 0 < br) from fun g => by rcases h26 with h | h; exact h g.1; omega)]
  rcases hs with h | h | ⟨h, P1, x, P2, e1, e2, e3⟩
  · rw [if_pos h]
  · omega
  · rw [if_neg (show ¬ lvO tok.1 = 9 by omega), if_pos]
    refine ⟨h, ?_⟩
    have b := bdP_app (r := 5) P1 (x :: P2 ++ W) o e2 (fun h' t' e => by cases e; omega)
    have e4 : P ++ W = P1 ++ (x :: P2 ++ W) := by rw [e1, List.append_assoc]
    show (bdP 5 (P ++ W) o).1.head?.map rkO = some 4
    rw [e4, b]
    show some (rkO x) = some 4
    rw [e3]
/-- a sign of a level goes on -/
theorem op_go {o : List (Nat × Nat)} {kc : Nat} {tok : zK} (hl : lvO tok.1 = l) (h9 : l ≠ 9) (hP : ∀ x, x ∈ P → r5 (l + 1) ≤ rkO x) (hW : ∀ h t, W = h :: t → rkO h < l + 1) : (64 ≤ kc → rcE B N ((tok, o, kc), P ++ W, br, false, may) (2, tok.2.2.1)) ∧ (¬ 64 ≤ kc → rch B N ((tok, o, kc), P ++ W, br, false, may) ((lxV B N tok.2.2.2, flP P o, kc + 1), tok.1 :: W, br, true, decide (l + 1 < 3))) := by
  have n24 : tok.1 ≠ 24 := fun e => h9 (by rw [← hl, e]; decide)
  have n26 : tok.1 ≠ 26 := fun e => h9 (by rw [← hl, e]; decide)
  have r5l : l + 1 ≤ r5 (l + 1) := by unfold r5; split <;> omega
  have b := bdP_app (r := r5 (l + 1)) P W o hP (fun h t e => by have := hW h t e; omega)
  have nd : ¬ (lvO tok.1 = 3 ∧ (bdP 5 (P ++ W) o).1.head?.map rkO = some 4) := by
    rintro ⟨g1, g2⟩
    have e3 : l = 3 := by omega
    rw [e3] at b hW
    have b' : bdP 5 (P ++ W) o = (W, flP P o) := b
    rw [b'] at g2
    cases W with
    | nil => cases g2
    | cons h t =>
      have := hW h t rfl
      have g3 : rkO h = 4 := Option.some.inj g2
      omega
  have pre : syS B N ((tok, o, kc), P ++ W, br, false, may) = if 64 ≤ kc then .inl (.error (2, tok.2.2.1)) else .inr ((lxV B N tok.2.2.2, flP P o, kc + 1), tok.1 :: W, br, true, decide (l + 1 < 3)) := by
    unfold syS
    rw [if_neg (show ¬ (tok.1 = 24 ∧ false = false ∧ br = 0) from fun g => n24 g.1), if_neg (show ¬ (false = true) from Bool.false_ne_true), if_neg (show ¬ (tok.1 = 26 ∧ 0 < br) from fun g => n26 g.1), if_neg (show ¬ lvO tok.1 = 9 by omega), if_neg nd]
    show (if 64 ≤ kc then (Sum.inl (Except.error (2, tok.2.2.1)) : Except (Nat × Nat) zQ ⊕ zY) else .inr ((lxV B N tok.2.2.2, (bdP (r5 (lvO tok.1 + 1)) (P ++ W) o).2, kc + 1), tok.1 :: (bdP (r5 (lvO tok.1 + 1)) (P ++ W) o).1, br, true, decide (lvO tok.1 + 1 < 3))) = _
    rw [hl, b]
  refine ⟨fun h => rcE_1 (by rw [pre, if_pos h]), fun h => rch_1 (by rw [pre, if_neg h])⟩
end Ex
