/-! ===== the days, in numbers alone ===== -/
abbrev zT : Type := Nat → Nat → Nat
/-- scalars (day, done, refused); ages; at, left, gone; kept; number -/
abbrev zD : Type := (Nat → Int32) × (Nat → Int32) × (Nat → Nat → Nat) × Nat × Nat
/-- snow by numbers 0, as it goes 1, never 2; bulls; term asked; year; who stays; legs -/
abbrev zO : Type := Nat × Bool × Bool × Nat × Int32 × (Nat → Nat)
def lH : Int64 := 1000000000000
def bdd (x : Int64) : Prop := -1000000000000 ≤ x.toInt ∧ x.toInt ≤ 1000000000000
def bdV (x : Int64) : Option Int64 := if -1000000000000 ≤ x.toInt ∧ x.toInt ≤ 1000000000000 then some x else none
def b64 (c : Prop) [Decidable c] : Int64 := if c then 1 else 0
/-- a sign that joins two values -/
def opV (k : Nat) (a b : Int64) : Option Int64 :=
  if k = 12 then some (b64 (a ≠ 0 ∨ b ≠ 0)) else if k = 13 then some (b64 (a ≠ 0 ∧ b ≠ 0)) else
  if k = 27 then some (b64 (a < b)) else if k = 28 then some (b64 (a ≤ b)) else if k = 29 then some (b64 (a = b)) else if k = 30 then some (b64 (a ≠ b)) else if k = 31 then some (b64 (b ≤ a)) else if k = 32 then some (b64 (b < a)) else
  if k = 33 then bdV (a + b) else if k = 34 then bdV (a - b) else
  if k = 35 then (if a.toInt.natAbs * b.toInt.natAbs ≤ 1000000000000 then some (a * b) else none) else
  if b = 0 then none else some (a / b)
def stV (T : zT) (nm : Nat → Int64) (i : Nat) (st : List Int64) : Option (List Int64) :=
  if T 21 i = 23 then some (lN (T 22 i) :: st) else if 15 ≤ T 21 i ∧ T 21 i ≤ 21 then some (nm (T 21 i - 15) :: st) else
  if T 21 i = 14 then (match st with
    | a :: r => some (b64 (a = 0) :: r)
    | [] => none) else match st with
    | b :: a :: r => (opV (T 21 i) a b).map (· :: r)
    | _ => none
def evV (T : zT) (nm : Nat → Int64) (a : Nat) : Nat → Option (List Int64)
  | 0 => some []
  | k + 1 => (evV T nm a k).bind (stV T nm (a + k))
/-- a law's value; none: it isn't told, or has an error -/
def lawV (T : zT) (w : Nat) (nm : Nat → Int64) : Option Int64 := if T 18 w = 0 then none else match evV T nm (T 19 w) (T 20 w - T 19 w) with
  | some (v :: _) => some v
  | _ => none
/-- what names stand for -/
def nmV (T : zT) (S : zD) (p : Nat) (lg pc : Nat) (j : Nat) : Int64 :=
  if j = 0 then lN (T 5 p) else if j = 1 then lN (T 6 p) else if j = 2 then (S.2.1 p).toInt64 else if j = 3 then lN lg else if j = 4 then lN pc else if j = 5 then lN (S.2.2.1 2 p) else (S.1 0).toInt64
def bullV (T : zT) (p : Nat) (d : Int32) : Nat → Bool
  | 0 => false
  | k + 1 => bullV T p d k || (decide (T 15 k = p) && (decide (nI (T 16 k) ≤ d) && decide (d ≤ nI (T 17 k))))
/-- a long cut to least .. most -/
def clV (l m : Nat) (v : Int64) : Nat := if v.toInt ≤ l then l else if m ≤ v.toInt then m else v.toInt.toNat
def mayV (T : zT) (S : zD) (p lg lf : Nat) : Bool := (lawV T 1 (nmV T S p lg lf)).elim (decide (T 6 p ≤ lg)) (fun v => decide (v ≠ 0))
def cstV (T : zT) (S : zD) (p lg lf : Nat) : Nat := (lawV T 2 (nmV T S p lg lf)).elim (T 5 p) (clV 0 99)
/-- what it costs, if he can go it -/
def canV (T : zT) (O : zO) (S : zD) (w p : Nat) : Option Nat :=
  if (T 3 p = S.2.2.1 0 w ∨ T 4 p = S.2.2.1 0 w) ∧ S.2.2.2.1.testBit p = true ∧ ¬ (O.2.1 = true ∧ bullV T p (S.1 0) (T 0 4) = true) ∧ mayV T S p (O.2.2.2.2.2 w) (S.2.2.1 1 w) = true ∧ cstV T S p (O.2.2.2.2.2 w) (S.2.2.1 1 w) ≤ S.2.2.1 1 w then some (cstV T S p (O.2.2.2.2.2 w) (S.2.2.1 1 w)) else none
def up2 (f : Nat → Nat → Nat) (a j x : Nat) : Nat → Nat → Nat := fun b k => if b = a ∧ k = j then x else f b k
def goV (T : zT) (S : zD) (w p c : Nat) : zD :=
  (upd S.1 1 (S.1 1 + 1), upd S.2.1 p 0, up2 (up2 (up2 S.2.2.1 1 w (S.2.2.1 1 w - c)) 0 w (if S.2.2.1 0 w = T 3 p then T 4 p else T 3 p)) 2 p (if S.2.2.1 2 p < 999 then S.2.2.1 2 p + 1 else 999), S.2.2.2)
def nxV (m : Nat) : Nat := (m * 1103515245 + 12345) % 2147483648
/-- whether it snows, and the number behind that -/
def snV (T : zT) (O : zO) (m : Nat) : Bool × Nat :=
  if O.1 = 2 ∨ T 0 7 = 0 then (false, m) else if O.1 = 1 ∨ T 0 7 = 100 then (decide (50 ≤ T 0 7), m) else (decide (nxV m / 65536 % 100 < T 0 7), nxV m)
def wkV (T : zT) (O : zO) (sn : Bool) (k : Nat) (S : zD) : zD :=
  if nI (T 14 k) = S.1 0 then (if sn = true ∨ nI (T 12 k) = O.2.2.2.2.1 then (upd S.1 2 (S.1 2 + 1), S.2) else match canV T O S (T 12 k) (T 13 k) with
    | some c => goV T S (T 12 k) (T 13 k) c
    | none => (upd S.1 2 (S.1 2 + 1), S.2)) else S
def termV (T : zT) (O : zO) (S : zD) (p : Nat) : Nat := if O.2.2.1 = true then (lawV T 0 (nmV T S p 0 0)).elim O.2.2.2.1 (clV 1 9999) else O.2.2.2.1
def grV (T : zT) (O : zO) (p : Nat) (S : zD) : zD :=
  if S.2.2.2.1.testBit p = true then (if (S.2.1 p + 1).toInt < termV T O (S.1, upd S.2.1 p (S.2.1 p + 1), S.2.2) p then (S.1, upd S.2.1 p (S.2.1 p + 1), S.2.2) else (S.1, upd S.2.1 p (S.2.1 p + 1), S.2.2.1, nd S.2.2.2.1 (2 ^ p), S.2.2.2.2)) else S
def lfV (T : zT) (w : Nat) (S : zD) : zD := (S.1, S.2.1, up2 S.2.2.1 1 w (T 11 w), S.2.2.2)
def dayV (T : zT) (O : zO) (S : zD) : zD :=
  let S1 := lpF (wkV T O (snV T O S.2.2.2.2).1) (T 0 3) (S.1, S.2.1, S.2.2.1, S.2.2.2.1, (snV T O S.2.2.2.2).2)
  let S3 := lpF (lfV T) (T 0 2) (lpF (grV T O) (T 0 1) S1)
  (upd S3.1 0 (S3.1 0 + 1), S3.2)
/-! bounds of a standing -/
def wD (T : zT) (S : zD) : Prop := S.2.2.2.2 < 2147483648 ∧ S.2.2.2.1 < 2 ^ T 0 1 ∧ (∀ w, w < T 0 2 → S.2.2.1 0 w < T 0 0 ∧ S.2.2.1 1 w ≤ 99) ∧ ∀ p, p < T 0 1 → S.2.2.1 2 p ≤ 999
theorem up2_g {f : Nat → Nat → Nat} {a j x b k : Nat} : up2 f a j x b k = if b = a ∧ k = j then x else f b k := rfl
theorem goV_w {T : zT} {S : zD} {w p c : Nat} (hW : WT T) (h : wD T S) (hw : w < T 0 2) (hp : p < T 0 1) : wD T (goV T S w p c) := by
  obtain ⟨h1, h2, h3, h4⟩ := h
  have hp' := hW.2.2.1 p hp
  refine ⟨h1, h2, fun v hv => ?_, fun q hq => ?_⟩
  · have := h3 v hv
    have := h3 w hw
    unfold goV
    simp only [up2_g]
    refine ⟨?_, ?_⟩
    · simp only [Nat.zero_ne_one, false_and, if_false, show (0 : Nat) = 2 ↔ False by decide, true_and]
      split
      · split <;> omega
      · omega
    · simp only [show (1 : Nat) = 2 ↔ False by decide, show (1 : Nat) = 0 ↔ False by decide, false_and, if_false, true_and]
      split <;> omega
  · have := h4 q hq
    have := h4 p hp
    unfold goV
    simp only [up2_g, true_and, show (2 : Nat) = 0 ↔ False by decide, show (2 : Nat) = 1 ↔ False by decide, false_and, if_false]
    split
    · split <;> omega
    · omega
theorem wkV_w {T : zT} {O : zO} {S : zD} {sn : Bool} {k : Nat} (hW : WT T) (hk : k < T 0 3) (h : wD T S) : wD T (wkV T O sn k S) := by
  have hk' := hW.2.2.2.2.1 k hk
  unfold wkV
  split
  · split
    · exact h
    · split
      · exact goV_w hW h hk'.1 hk'.2.1
      · exact h
  · exact h
theorem grV_w {T : zT} {O : zO} {S : zD} {p : Nat} (h : wD T S) : wD T (grV T O p S) := by
  obtain ⟨h1, h2, h3, h4⟩ := h
  unfold grV
  split
  · split
    · exact ⟨h1, h2, h3, h4⟩
    · exact ⟨h1, nd_lt h2, h3, h4⟩
  · exact ⟨h1, h2, h3, h4⟩
theorem lfV_w {T : zT} {S : zD} {w : Nat} (hW : WT T) (hw : w < T 0 2) (h : wD T S) : wD T (lfV T w S) := by
  obtain ⟨h1, h2, h3, h4⟩ := h
  have hw' := hW.2.2.2.1 w hw
  refine ⟨h1, h2, fun v hv => ?_, fun q hq => ?_⟩
  · have := h3 v hv
    unfold lfV
    simp only [up2_g, Nat.zero_ne_one, false_and, if_false, true_and]
    refine ⟨this.1, ?_⟩
    split <;> omega
  · have := h4 q hq
    unfold lfV
    simp only [up2_g, show (2 : Nat) = 1 ↔ False by decide, false_and, if_false]
    exact this
theorem lpF_i {σ : Type} {f : Nat → σ → σ} {P : σ → Prop} {s : σ} : ∀ {m : Nat}, (∀ k s, k < m → P s → P (f k s)) → P s → P (lpF f m s)
  | 0, _, h => h
  | m + 1, hs, h => hs m _ (Nat.lt_succ_self m) (lpF_i (fun k s hk => hs k s (by omega)) h)
theorem nxV_lt (m : Nat) : nxV m < 2147483648 := Nat.mod_lt _ (by decide)
theorem snV_lt {T : zT} {O : zO} {m : Nat} (h : m < 2147483648) : (snV T O m).2 < 2147483648 := by
  unfold snV
  split
  · exact h
  · split
    · exact h
    · exact nxV_lt m
theorem dayV_w {T : zT} {O : zO} {S : zD} (hW : WT T) (h : wD T S) : wD T (dayV T O S) := by
  have a : wD T (S.1, S.2.1, S.2.2.1, S.2.2.2.1, (snV T O S.2.2.2.2).2) := ⟨snV_lt h.1, h.2⟩
  have b := lpF_i (f := wkV T O (snV T O S.2.2.2.2).1) (P := wD T) (m := T 0 3) (fun k s hk hs => wkV_w hW hk hs) a
  have c := lpF_i (f := grV T O) (P := wD T) (m := T 0 1) (fun k s hk hs => grV_w hs) b
  have d := lpF_i (f := lfV T) (P := wD T) (m := T 0 2) (fun k s hk hs => lfV_w hW hk hs) c
  exact d
