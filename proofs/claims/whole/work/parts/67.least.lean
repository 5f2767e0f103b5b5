/-! ===== least values: what Bellman and Ford's rounds and Dijkstra's settling both give ===== -/
section Le
variable {E : Nat → Nat → Nat → Nat → Prop} {a v0 x y u v : Nat} {d d' : Nat → Option Nat}
/-- E y u x v: from y, come to by u, one step comes to x by v -/
def rcL (E : Nat → Nat → Nat → Nat → Prop) (a v0 : Nat) : Nat → Nat → Nat → Prop
  | 0, x, v => x = a ∧ v = v0
  | k + 1, x, v => ∃ y u, rcL E a v0 k y u ∧ E y u x v
/-- less before is not more behind -/
def moL (E : Nat → Nat → Nat → Nat → Prop) : Prop := ∀ y u x v u', E y u x v → u' ≤ u → ∃ v', v' ≤ v ∧ E y u' x v'
def snL (E : Nat → Nat → Nat → Nat → Prop) (a v0 : Nat) (d : Nat → Option Nat) : Prop := ∀ x v, d x = some v → ∃ k, rcL E a v0 k x v
def clL (E : Nat → Nat → Nat → Nat → Prop) (d : Nat → Option Nat) : Prop := ∀ y u x v, d y = some u → E y u x v → ∃ w, w ≤ v ∧ d x = some w
/-- the least values -/
def lsL (E : Nat → Nat → Nat → Nat → Prop) (a v0 : Nat) (d : Nat → Option Nat) : Prop := snL E a v0 d ∧ ∀ k x v, rcL E a v0 k x v → ∃ w, w ≤ v ∧ d x = some w
theorem lsL_one (h : lsL E a v0 d) (h' : lsL E a v0 d') : d = d' := by
  funext x
  cases e : d x with
  | none =>
    cases e' : d' x with
    | none => rfl
    | some v =>
      obtain ⟨k, hk⟩ := h'.1 x v e'
      obtain ⟨w, -, hw⟩ := h.2 k x v hk
      rw [e] at hw
      cases hw
  | some v =>
    obtain ⟨k, hk⟩ := h.1 x v e
    obtain ⟨w, h1, hw⟩ := h'.2 k x v hk
    obtain ⟨k2, hk2⟩ := h'.1 x w hw
    obtain ⟨w2, h2, hw2⟩ := h.2 k2 x w hk2
    rw [e] at hw2
    cases hw2
    rw [hw, Nat.le_antisymm h1 h2]
theorem lsL_of (hm : moL E) (hs : snL E a v0 d) (h0 : ∃ w, w ≤ v0 ∧ d a = some w) (hc : clL E d) : lsL E a v0 d := by
  refine ⟨hs, fun k => ?_⟩
  induction k with
  | zero =>
    rintro x v ⟨rfl, rfl⟩
    exact h0
  | succ k ih =>
    rintro x v ⟨y, u, h1, h2⟩
    obtain ⟨w, hw, ew⟩ := ih y u h1
    obtain ⟨v', hv, e2⟩ := hm y u x v w h2 hw
    obtain ⟨z, hz, ez⟩ := hc y w x v' ew e2
    exact ⟨z, Nat.le_trans hz hv, ez⟩
theorem lsL_p (hm : moL E) (h : lsL E a v0 d) (e : d x = some v) : (x = a ∧ v = v0) ∨ ∃ y u, d y = some u ∧ E y u x v := by
  obtain ⟨k, hk⟩ := h.1 x v e
  cases k with
  | zero => exact Or.inl hk
  | succ k =>
    obtain ⟨y, u, h1, h2⟩ := hk
    obtain ⟨w, hw, ew⟩ := h.2 k y u h1
    obtain ⟨v', hv, e2⟩ := hm y u x v w h2 hw
    obtain ⟨k2, hk2⟩ := h.1 y w ew
    obtain ⟨z, hz, ez⟩ := h.2 (k2 + 1) x v' ⟨y, w, hk2, e2⟩
    rw [e] at ez
    cases ez
    rw [Nat.le_antisymm hv hz] at e2
    exact Or.inr ⟨y, w, ew, e2⟩
/-- a step from what is so far soundly known is soundly known -/
theorem snL_up (hs : snL E a v0 d) (e : d y = some u) (hE : E y u x v) : snL E a v0 (fun z => if z = x then some v else d z) := by
  intro z w hz
  by_cases g : z = x
  · simp only [if_pos g] at hz
    cases hz
    obtain ⟨k, hk⟩ := hs y u e
    rw [g]
    exact ⟨k + 1, y, u, hk, hE⟩
  · simp only [if_neg g] at hz
    exact hs z w hz
/-- least values are not more than what is soundly known -/
theorem lsL_le (h : lsL E a v0 d) (hs : snL E a v0 d') (e : d' x = some v) : ∃ w, w ≤ v ∧ d x = some w := by
  obtain ⟨k, hk⟩ := hs x v e
  exact h.2 k x v hk
/-- with all that is less before it as it will be, what is reached in one step will be as it will be -/
theorem lsL_nx (hm : moL E) (hp : ∀ y u x v, E y u x v → u < v) (h : lsL E a v0 d) (e : d x = some v) (hb : ∀ y u, u < v → d y = some u → d' y = some u) (ha : x = a → d' a = some v0) : d' x = some v ∨ ∃ y u, d' y = some u ∧ u < v ∧ E y u x v := by
  rcases lsL_p hm h e with ⟨rfl, rfl⟩ | ⟨y, u, e2, hE⟩
  · exact Or.inl (ha rfl)
  · exact Or.inr ⟨y, u, hb y u (hp y u x v hE) e2, hp y u x v hE, hE⟩
end Le
