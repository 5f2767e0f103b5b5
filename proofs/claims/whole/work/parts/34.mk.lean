/-! ===== the heap as a fixed layout over rows of numbers (printed by wip/gen/mk.py) ===== -/
/-- rows of ints, of longs, of references, by cell -/
abbrev zS : Type := (Nat → Nat → Int32) × (Nat → Nat → Int64) × (Nat → Nat → Nat)
def rf (x : Nat) : Value := if x = 0 then .null else .ref x
/-- a field by its kind: an int, a long, a reference that may be null, a fixed reference, a fixed int -/
def fv (s : zS) (a k : Nat) (c : Nat × Nat) : Value := match c.1 with
  | 0 => .int (s.1 a k)
  | 1 => .long (s.2.1 a k)
  | 2 => rf (s.2.2 a k)
  | 3 => .ref (a + c.2)
  | 4 => .int (nI c.2)
  | _ => .ref (s.2.2 a k)
def tl0 : List (Nat × Nat) := [(3, 1), (0, 0), (3, 2), (5, 0), (5, 0), (3, 51), (3, 56), (3, 61), (0, 0), (3, 66), (0, 0), (3, 67), (3, 69), (3, 76), (3, 83)]
def tl1 : List (Nat × Nat) := [(3, 1), (2, 0), (0, 0), (0, 0), (0, 0)]
def tl2 : List (Nat × Nat) := [(3, 1), (2, 0), (0, 0), (0, 0), (0, 0), (0, 0), (0, 0)]
def tl3 : List (Nat × Nat) := [(3, 1), (3, 4), (3, 7), (3, 10), (3, 13), (3, 16), (0, 0), (0, 0), (0, 0), (0, 0)]
def tl4 : List (Nat × Nat) := [(4, 7), (4, 0), (3, 1), (3, 2), (0, 0)]
def tl5 : List (Nat × Nat) := [(4, 9), (4, 5), (3, 1), (3, 2), (0, 0)]
def tl6 : List (Nat × Nat) := [(4, 4), (4, 3), (3, 1), (3, 2), (0, 0)]
def tl7 : List (Nat × Nat) := [(4, 12), (4, 3), (3, 1), (3, 2), (0, 0)]
def tl8 : List (Nat × Nat) := [(4, 6), (4, 3), (3, 1), (3, 2), (0, 0)]
def tl9 : List (Nat × Nat) := [(3, 1), (3, 2), (3, 3), (3, 4), (0, 0), (0, 0), (3, 5), (3, 6)]
def tl10 : List (Nat × Nat) := [(0, 0), (0, 0), (0, 0), (0, 0), (0, 0), (3, 1), (3, 2), (3, 3), (3, 4)]
def tl11 : List (Nat × Nat) := [(2, 0), (2, 0), (0, 0), (0, 0), (0, 0), (0, 0), (0, 0), (3, 1)]
def tl12 : List (Nat × Nat) := [(3, 1), (3, 2), (3, 3), (3, 4), (3, 5), (0, 0), (0, 0), (0, 0), (3, 6)]
def tl13 : List (Nat × Nat) := [(3, 1), (3, 2), (3, 3), (3, 4), (3, 5), (3, 6), (0, 0)]
def tl14 : List (Nat × Nat) := [(3, 1), (3, 2), (0, 0)]
def tl15 : List (Nat × Nat) := [(3, 1), (0, 0), (0, 0), (3, 2), (0, 0), (0, 0), (0, 0), (0, 0), (0, 0), (0, 0), (0, 0), (0, 0), (0, 0), (0, 0), (0, 0), (0, 0), (0, 0), (0, 0), (0, 0), (0, 0), (0, 0), (0, 0), (0, 0), (0, 0), (3, 3), (3, 4), (3, 5), (3, 6), (3, 7), (3, 8), (3, 9), (3, 10), (3, 11), (3, 12), (3, 13), (3, 14), (3, 15), (3, 16), (3, 17), (3, 18), (3, 19), (3, 20), (3, 21), (3, 22), (3, 23), (3, 24), (3, 25), (3, 26), (3, 27), (3, 28), (3, 29), (0, 0), (0, 0), (0, 0), (0, 0), (0, 0), (0, 0), (3, 30), (3, 31), (0, 0), (3, 32), (3, 33), (3, 34), (3, 35), (3, 36), (3, 37), (3, 38), (3, 39), (1, 0), (0, 0), (0, 0), (0, 0), (0, 0), (0, 0), (0, 0), (0, 0), (0, 0), (3, 40), (3, 41), (3, 42), (3, 43), (3, 44), (0, 0), (3, 45), (0, 0), (0, 0), (3, 46), (3, 47), (3, 48), (0, 0), (3, 49), (0, 0), (3, 50), (0, 0), (0, 0), (1, 0)]
def tlOf (t : Nat) : List (Nat × Nat) := match t with
  | 0 => tl0
  | 1 => tl1
  | 2 => tl2
  | 3 => tl3
  | 4 => tl4
  | 5 => tl5
  | 6 => tl6
  | 7 => tl7
  | 8 => tl8
  | 9 => tl9
  | 10 => tl10
  | 11 => tl11
  | 12 => tl12
  | 13 => tl13
  | 14 => tl14
  | 15 => tl15
  | _ => []
def layL : List (Nat × Nat × Nat) := [(2, 0, 0), (1, 10, 0), (0, 0, 700), (1, 3, 1), (1, 7, 2), (0, 1, 22), (1, 8, 3), (1, 6, 4), (0, 1, 7), (0, 1, 0), (1, 6, 5), (0, 1, 9), (0, 1, 45), (1, 6, 6), (0, 1, 4), (0, 1, 12), (1, 6, 7), (0, 1, 12), (0, 1, 36), (1, 6, 8), (0, 1, 6), (0, 1, 18), (1, 2, 9), (0, 1, 3), (0, 1, 3), (0, 1, 64), (0, 1, 64), (0, 2, 7), (0, 2, 64), (1, 8, 3), (1, 6, 4), (0, 1, 7), (0, 1, 0), (1, 6, 5), (0, 1, 9), (0, 1, 45), (1, 6, 6), (0, 1, 4), (0, 1, 12), (1, 6, 7), (0, 1, 12), (0, 1, 36), (1, 6, 8), (0, 1, 6), (0, 1, 18), (1, 2, 9), (0, 1, 3), (0, 1, 3), (0, 1, 64), (0, 1, 64), (0, 2, 7), (0, 2, 64), (1, 5, 10), (0, 1, 9), (0, 1, 9), (0, 1, 4), (0, 1, 4), (1, 5, 10), (0, 1, 9), (0, 1, 9), (0, 1, 4), (0, 1, 4), (1, 5, 10), (0, 1, 9), (0, 1, 9), (0, 1, 4), (0, 1, 4), (0, 4, 20), (1, 0, 11), (0, 1, 4), (1, 4, 12), (0, 1, 24), (0, 1, 24), (0, 1, 24), (0, 1, 24), (0, 3, 24), (0, 1, 7), (1, 9, 13), (0, 1, 7), (0, 1, 3584), (0, 1, 4), (0, 1, 9), (0, 1, 4), (0, 1, 4), (1, 1, 14), (0, 3, 512), (0, 1, 1231), (1, 5, 10), (0, 1, 9), (0, 1, 9), (0, 1, 4), (0, 1, 4), (1, 5, 10), (0, 1, 9), (0, 1, 9), (0, 1, 4), (0, 1, 4), (1, 5, 10), (0, 1, 9), (0, 1, 9), (0, 1, 4), (0, 1, 4), (1, 5, 10), (0, 1, 9), (0, 1, 9), (0, 1, 4), (0, 1, 4), (1, 5, 10), (0, 1, 9), (0, 1, 9), (0, 1, 4), (0, 1, 4), (1, 5, 10), (0, 1, 9), (0, 1, 9), (0, 1, 4), (0, 1, 4), (1, 5, 10), (0, 1, 9), (0, 1, 9), (0, 1, 4), (0, 1, 4), (1, 5, 10), (0, 1, 9), (0, 1, 9), (0, 1, 4), (0, 1, 4), (1, 5, 10), (0, 1, 9), (0, 1, 9), (0, 1, 4), (0, 1, 4), (1, 5, 10), (0, 1, 9), (0, 1, 9), (0, 1, 4), (0, 1, 4), (1, 5, 10), (0, 1, 9), (0, 1, 9), (0, 1, 4), (0, 1, 4), (1, 5, 10), (0, 1, 9), (0, 1, 9), (0, 1, 4), (0, 1, 4), (1, 5, 10), (0, 1, 9), (0, 1, 9), (0, 1, 4), (0, 1, 4), (1, 5, 10), (0, 1, 9), (0, 1, 9), (0, 1, 4), (0, 1, 4), (1, 5, 10), (0, 1, 9), (0, 1, 9), (0, 1, 4), (0, 1, 4), (1, 5, 10), (0, 1, 9), (0, 1, 9), (0, 1, 4), (0, 1, 4), (1, 5, 10), (0, 1, 9), (0, 1, 9), (0, 1, 4), (0, 1, 4), (1, 5, 10), (0, 1, 9), (0, 1, 9), (0, 1, 4), (0, 1, 4), (1, 5, 10), (0, 1, 9), (0, 1, 9), (0, 1, 4), (0, 1, 4), (1, 5, 10), (0, 1, 9), (0, 1, 9), (0, 1, 4), (0, 1, 4), (1, 11, 15), (0, 1, 700), (0, 1, 108), (0, 3, 3), (0, 1, 6), (0, 1, 14), (0, 1, 18), (0, 1, 18), (0, 1, 18), (0, 1, 18), (0, 1, 18), (0, 1, 18), (0, 1, 8), (0, 1, 8), (0, 1, 8), (0, 1, 8), (0, 1, 24), (0, 1, 24), (0, 1, 24), (0, 1, 12), (0, 1, 12), (0, 1, 12), (0, 3, 6), (0, 1, 6), (0, 1, 6), (0, 1, 128), (0, 1, 128), (0, 1, 128), (0, 1, 96), (0, 1, 96), (0, 2, 7), (0, 2, 64), (0, 1, 8), (0, 1, 8), (0, 1, 18), (0, 3, 18), (0, 1, 18), (0, 1, 2), (0, 1, 2), (0, 1, 2), (0, 1, 3584), (0, 3, 3584), (0, 1, 7), (0, 1, 4), (0, 1, 9), (0, 3, 19683), (0, 1, 96), (0, 3, 24), (0, 1, 7), (0, 1, 720), (0, 1, 36), (0, 2, 1)]
def lay (a : Nat) : Nat × Nat × Nat := layL.getD a (2, 0, 0)
def fls (s : zS) (a : Nat) (L : List (Nat × Nat)) : List Value := L.mapIdx (fv s a)
def mkc (s : zS) (a : Nat) (c : Nat × Nat × Nat) : va_E := match c.1 with
  | 0 => .inl (c.2.1, c.2.2, if c.2.1 = 2 then .inr (.inl (s.2.1 a)) else if c.2.1 = 4 then .inr (.inr (.inr (.inr (fun j => if j < 20 then some (s.2.2 a j) else none)))) else .inl (s.1 a))
  | 1 => .inr (c.2.1, fls s a (tlOf c.2.2))
  | _ => .inr (0, [])
def mk (s : zS) : ai_H := fun a => if 239 ≤ a ∧ s.2.2 1 14 = 0 then .inr (0, []) else mkc s a (lay a)
theorem fv_congr {s s' : zS} {b : Nat} (h1 : s'.1 b = s.1 b) (h2 : s'.2.1 b = s.2.1 b) (h3 : s'.2.2 b = s.2.2 b) : fv s' b = fv s b := by
  funext k c
  unfold fv
  rw [h1, h2, h3]
theorem mk_congr {s s' : zS} {b : Nat} (h1 : s'.1 b = s.1 b) (h2 : s'.2.1 b = s.2.1 b) (h3 : s'.2.2 b = s.2.2 b) (h4 : s'.2.2 1 14 = s.2.2 1 14) : mk s' b = mk s b := by
  unfold mk mkc fls
  rw [h4, h1, h2, h3, fv_congr h1 h2 h3]
theorem mk_upd {s s' : zS} {a : Nat} {x : va_E} (h : ∀ b, b ≠ a → mk s' b = mk s b) (hx : mk s' a = x) : va_up (mk s) a x = mk s' := by
  funext b
  unfold va_up
  by_cases hb : b = a
  · rw [if_pos hb, hb, hx]
  · rw [if_neg hb, h b hb]
def wI (s : zS) (a j : Nat) (x : Int32) : zS := (va_up s.1 a (upd (s.1 a) j x), s.2)
def wA (s : zS) (a : Nat) (f : Nat → Int32) : zS := (va_up s.1 a f, s.2)
def wL (s : zS) (a j : Nat) (x : Int64) : zS := (s.1, va_up s.2.1 a (vp_updL (s.2.1 a) j x), s.2.2)
def wQ (s : zS) (a j x : Nat) : zS := (s.1, s.2.1, va_up s.2.2 a (va_up (s.2.2 a) j x))
theorem wI_2 {s : zS} {a j : Nat} {x : Int32} : (wI s a j x).2 = s.2 := rfl
theorem wA_2 {s : zS} {a : Nat} {f : Nat → Int32} : (wA s a f).2 = s.2 := rfl
theorem wL_1 {s : zS} {a j : Nat} {x : Int64} : (wL s a j x).1 = s.1 := rfl
theorem wL_22 {s : zS} {a j : Nat} {x : Int64} : (wL s a j x).2.2 = s.2.2 := rfl
theorem wQ_1 {s : zS} {a j x : Nat} : (wQ s a j x).1 = s.1 := rfl
theorem wQ_21 {s : zS} {a j x : Nat} : (wQ s a j x).2.1 = s.2.1 := rfl
theorem wI_at {s : zS} {a j : Nat} {x : Int32} : (wI s a j x).1 a = upd (s.1 a) j x := by
  show va_up s.1 a _ a = _
  unfold va_up
  exact if_pos rfl
theorem wI_ne {s : zS} {a j b : Nat} {x : Int32} (h : b ≠ a) : (wI s a j x).1 b = s.1 b := by
  show va_up s.1 a _ b = _
  unfold va_up
  exact if_neg h
theorem wA_at {s : zS} {a : Nat} {f : Nat → Int32} : (wA s a f).1 a = f := by
  show va_up s.1 a _ a = _
  unfold va_up
  exact if_pos rfl
theorem wA_ne {s : zS} {a b : Nat} {f : Nat → Int32} (h : b ≠ a) : (wA s a f).1 b = s.1 b := by
  show va_up s.1 a _ b = _
  unfold va_up
  exact if_neg h
theorem wL_at {s : zS} {a j : Nat} {x : Int64} : (wL s a j x).2.1 a = vp_updL (s.2.1 a) j x := by
  show va_up s.2.1 a _ a = _
  unfold va_up
  exact if_pos rfl
theorem wL_ne {s : zS} {a j b : Nat} {x : Int64} (h : b ≠ a) : (wL s a j x).2.1 b = s.2.1 b := by
  show va_up s.2.1 a _ b = _
  unfold va_up
  exact if_neg h
theorem wQ_at {s : zS} {a j x : Nat} : (wQ s a j x).2.2 a = va_up (s.2.2 a) j x := by
  show va_up s.2.2 a _ a = _
  unfold va_up
  exact if_pos rfl
theorem wQ_ne {s : zS} {a j b x : Nat} (h : b ≠ a) : (wQ s a j x).2.2 b = s.2.2 b := by
  show va_up s.2.2 a _ b = _
  unfold va_up
  exact if_neg h
/-! one element read behind a write -/
theorem wI_g {s : zS} {a j b k : Nat} {x : Int32} : (wI s a j x).1 b k = if b = a ∧ k = j then x else s.1 b k := by
  by_cases hb : b = a
  · subst hb
    rw [wI_at]
    unfold upd
    by_cases hk : k = j
    · rw [if_pos hk, if_pos ⟨rfl, hk⟩]
    · rw [if_neg hk, if_neg (fun h => hk h.2)]
  · rw [wI_ne hb, if_neg (fun h => hb h.1)]
theorem wL_g {s : zS} {a j b k : Nat} {x : Int64} : (wL s a j x).2.1 b k = if b = a ∧ k = j then x else s.2.1 b k := by
  by_cases hb : b = a
  · subst hb
    rw [wL_at]
    unfold vp_updL
    by_cases hk : k = j
    · rw [if_pos hk, if_pos ⟨rfl, hk⟩]
    · rw [if_neg hk, if_neg (fun h => hk h.2)]
  · rw [wL_ne hb, if_neg (fun h => hb h.1)]
theorem wQ_g {s : zS} {a j b k x : Nat} : (wQ s a j x).2.2 b k = if b = a ∧ k = j then x else s.2.2 b k := by
  by_cases hb : b = a
  · subst hb
    rw [wQ_at]
    unfold va_up
    by_cases hk : k = j
    · rw [if_pos hk, if_pos ⟨rfl, hk⟩]
    · rw [if_neg hk, if_neg (fun h => hk h.2)]
  · rw [wQ_ne hb, if_neg (fun h => hb h.1)]
theorem wQ_g14 {s : zS} {a j x : Nat} (h : a ≠ 1 ∨ j ≠ 14) : (wQ s a j x).2.2 1 14 = s.2.2 1 14 := by
  rw [wQ_g, if_neg (fun e => h.elim (fun h => h e.1.symm) (fun h => h e.2.symm))]
theorem fls_get {s : zS} {a k d e : Nat} {L : List (Nat × Nat)} (h : L[k]? = some (d, e)) : (fls s a L)[k]? = some (fv s a k (d, e)) := by
  unfold fls
  rw [List.getElem?_mapIdx, h]
  rfl
theorem fls_len {s : zS} {a : Nat} {L : List (Nat × Nat)} : (fls s a L).length = L.length := by
  unfold fls
  exact List.length_mapIdx
theorem fls_set {s s' : zS} {a k d e : Nat} {L : List (Nat × Nat)} {v : Value} (h : L[k]? = some (d, e)) (hv : fv s' a k (d, e) = v) (hs : ∀ j c, j ≠ k → fv s' a j c = fv s a j c) : fls s' a L = (fls s a L).set k v := by
  apply List.ext_getElem?
  intro j
  by_cases hj : j = k
  · subst hj
    rw [fls_get h, hv]
    have h2 : j < (fls s a L).length := by
      rw [fls_len]
      exact (List.getElem?_eq_some_iff.mp h).1
    rw [List.getElem?_set_self h2]
  · rw [List.getElem?_set_ne (Ne.symm hj)]
    unfold fls
    rw [List.getElem?_mapIdx, List.getElem?_mapIdx]
    cases L[j]? with
    | none => rfl
    | some c => simp only [Option.map_some, hs j c hj]
section Mk
variable {n a c t k d z j : Nat} {s : zS} {x : Int32}
theorem mk_c (g : a < 239 ∨ s.2.2 1 14 ≠ 0) : mk s a = mkc s a (lay a) := by
  unfold mk
  exact if_neg (fun h => g.elim (fun g => absurd h.1 (Nat.not_le.mpr g)) (fun g => g h.2))
theorem mk_ob (hl : lay a = (1, c, t)) (h : 0 < a ∧ a < n) (g : a < 239 ∨ s.2.2 1 14 ≠ 0) : ob n (mk s) a c (fls s a (tlOf t)) := ⟨h, by rw [mk_c g, hl]; rfl⟩
theorem mk_ia (hl : lay a = (0, k, z)) (hk : k ≠ 2 ∧ k ≠ 4) (h : 0 < a ∧ a < n) (g : a < 239 ∨ s.2.2 1 14 ≠ 0) : ia n (mk s) a k z (s.1 a) := ⟨h, by
  rw [mk_c g, hl]
  unfold mkc
  show Sum.inl (k, z, if k = 2 then _ else if k = 4 then _ else _) = _
  rw [if_neg hk.1, if_neg hk.2]⟩
theorem mk_la (hl : lay a = (0, 2, z)) (h : 0 < a ∧ a < n) (g : a < 239 ∨ s.2.2 1 14 ≠ 0) : la n (mk s) a z (s.2.1 a) := ⟨h, by rw [mk_c g, hl]; rfl⟩
theorem mk_ra (hl : lay a = (0, 4, z)) (h : 0 < a ∧ a < n) (g : a < 239 ∨ s.2.2 1 14 ≠ 0) : ra n (mk s) a z (fun j => if j < 20 then some (s.2.2 a j) else none) := ⟨h, by rw [mk_c g, hl]; rfl⟩
theorem mk_kO (hl : lay a = (1, c, t)) (h : 0 < a ∧ a < n) (g : a < 239 ∨ s.2.2 1 14 ≠ 0) : kO n (mk s) a c = some () := ob_kO (mk_ob hl h g)
theorem mk_pI (hl : lay a = (1, c, t)) (hf : (tlOf t)[k]? = some (0, d)) (h : 0 < a ∧ a < n) (g : a < 239 ∨ s.2.2 1 14 ≠ 0) : pI n (mk s) a c k = some (s.1 a k) := ob_pI (mk_ob hl h g) (fls_get hf)
theorem mk_pI4 (hl : lay a = (1, c, t)) (hf : (tlOf t)[k]? = some (4, d)) (h : 0 < a ∧ a < n) (g : a < 239 ∨ s.2.2 1 14 ≠ 0) : pI n (mk s) a c k = some (nI d) := ob_pI (mk_ob hl h g) (fls_get hf)
theorem mk_pJ (hl : lay a = (1, c, t)) (hf : (tlOf t)[k]? = some (1, d)) (h : 0 < a ∧ a < n) (g : a < 239 ∨ s.2.2 1 14 ≠ 0) : pJ n (mk s) a c k = some (s.2.1 a k) := ob_pJ (mk_ob hl h g) (fls_get hf)
theorem mk_pR3 (hl : lay a = (1, c, t)) (hf : (tlOf t)[k]? = some (3, d)) (h : 0 < a ∧ a < n) (g : a < 239 ∨ s.2.2 1 14 ≠ 0) : pR n (mk s) a c k = some (a + d) := ob_pR (mk_ob hl h g) (fls_get hf)
theorem mk_pR5 (hl : lay a = (1, c, t)) (hf : (tlOf t)[k]? = some (5, d)) (h : 0 < a ∧ a < n) (g : a < 239 ∨ s.2.2 1 14 ≠ 0) : pR n (mk s) a c k = some (s.2.2 a k) := ob_pR (mk_ob hl h g) (fls_get hf)
theorem mk_pR2 {y : Nat} (hl : lay a = (1, c, t)) (hf : (tlOf t)[k]? = some (2, d)) (h : 0 < a ∧ a < n) (g : a < 239 ∨ s.2.2 1 14 ≠ 0) (e : s.2.2 a k = y) (hy : y ≠ 0) : pR n (mk s) a c k = some y := ob_pR (mk_ob hl h g) (by
  rw [fls_get hf]
  show some (rf (s.2.2 a k)) = _
  unfold rf
  rw [e, if_neg hy])
theorem mk_set {s' : zS} {v : Value} {ty : FieldType} {e : Nat} (hl : lay a = (1, c, t)) (hf : (tlOf t)[k]? = some (d, e)) (ht : fits ty v = true) (h : 0 < a ∧ a < n) (g : a < 239 ∨ s.2.2 1 14 ≠ 0) (hv : fv s' a k (d, e) = v) (hs : ∀ j c, j ≠ k → fv s' a j c = fv s a j c) (ho : ∀ b, b ≠ a → mk s' b = mk s b) (h4 : s'.2.2 1 14 = s.2.2 1 14) : sF n (mk s) a c k ty v = some (mk s') := by
  rw [ob_sF (mk_ob hl h g) (by rw [fls_len]; exact (List.getElem?_eq_some_iff.mp hf).1) ht]
  congr 1
  refine mk_upd ho ?_
  rw [mk_c (by rw [h4]; exact g), hl]
  show Sum.inr (c, fls s' a (tlOf t)) = _
  rw [fls_set hf hv hs]
theorem mk_sI {ty : FieldType} (hl : lay a = (1, c, t)) (hf : (tlOf t)[k]? = some (0, d)) (ht : fits ty (.int x) = true) (h : 0 < a ∧ a < n) (g : a < 239 ∨ s.2.2 1 14 ≠ 0) : sF n (mk s) a c k ty (.int x) = some (mk (wI s a k x)) := by
  refine mk_set hl hf ht h g ?_ ?_ ?_ rfl
  · show Value.int ((wI s a k x).1 a k) = _
    rw [wI_g, if_pos ⟨rfl, rfl⟩]
  · intro j c hj
    unfold fv
    rw [wI_2, wI_g, if_neg (fun e => hj e.2)]
  · intro b hb
    exact mk_congr (wI_ne hb) rfl rfl rfl
theorem mk_sJ {x : Int64} (hl : lay a = (1, c, t)) (hf : (tlOf t)[k]? = some (1, d)) (h : 0 < a ∧ a < n) (g : a < 239 ∨ s.2.2 1 14 ≠ 0) : sF n (mk s) a c k .long (.long x) = some (mk (wL s a k x)) := by
  refine mk_set hl hf rfl h g ?_ ?_ ?_ rfl
  · show Value.long ((wL s a k x).2.1 a k) = _
    rw [wL_g, if_pos ⟨rfl, rfl⟩]
  · intro j c hj
    unfold fv
    rw [wL_1, wL_22, wL_g, if_neg (fun e => hj e.2)]
  · intro b hb
    exact mk_congr rfl (wL_ne hb) rfl rfl
theorem mk_sR5 {x : Nat} {ty : FieldType} (hl : lay a = (1, c, t)) (hf : (tlOf t)[k]? = some (5, d)) (ht : fits ty (.ref x) = true) (h : 0 < a ∧ a < n) (g : a < 239 ∨ s.2.2 1 14 ≠ 0) (h14 : a ≠ 1 ∨ k ≠ 14) : sF n (mk s) a c k ty (.ref x) = some (mk (wQ s a k x)) := by
  refine mk_set hl hf ht h g ?_ ?_ ?_ (wQ_g14 h14)
  · show Value.ref ((wQ s a k x).2.2 a k) = _
    rw [wQ_g, if_pos ⟨rfl, rfl⟩]
  · intro j c hj
    unfold fv
    rw [wQ_1, wQ_21, wQ_g, if_neg (fun e => hj e.2)]
  · intro b hb
    exact mk_congr rfl rfl (wQ_ne hb) (wQ_g14 h14)
theorem mk_sR2 {x : Nat} {ty : FieldType} (hl : lay a = (1, c, t)) (hf : (tlOf t)[k]? = some (2, d)) (ht : fits ty (.ref x) = true) (h : 0 < a ∧ a < n) (g : a < 239 ∨ s.2.2 1 14 ≠ 0) (h14 : a ≠ 1 ∨ k ≠ 14) (hx : x ≠ 0) : sF n (mk s) a c k ty (.ref x) = some (mk (wQ s a k x)) := by
  refine mk_set hl hf ht h g ?_ ?_ ?_ (wQ_g14 h14)
  · show rf ((wQ s a k x).2.2 a k) = _
    rw [wQ_g, if_pos ⟨rfl, rfl⟩]
    unfold rf
    exact if_neg hx
  · intro j c hj
    unfold fv
    rw [wQ_1, wQ_21, wQ_g, if_neg (fun e => hj e.2)]
  · intro b hb
    exact mk_congr rfl rfl (wQ_ne hb) (wQ_g14 h14)
theorem mk_gX (hl : lay a = (0, 1, z)) (h : 0 < a ∧ a < n) (g : a < 239 ∨ s.2.2 1 14 ≠ 0) (hj : j < z) (hz : z < 2 ^ 31) : gX 1 n (mk s) a (nI j) = some (s.1 a j) := by
  rw [ia_gX (mk_ia hl (by decide) h g) (in_nI hj hz), nI_clamp (by omega)]
theorem mk_gB3 (hl : lay a = (0, 3, z)) (h : 0 < a ∧ a < n) (g : a < 239 ∨ s.2.2 1 14 ≠ 0) (hj : j < z) (hz : z < 2 ^ 31) : gB n (mk s) a (nI j) = some (s.1 a j) := by
  rw [ia_gB (mk_ia hl (by decide) h g) (in_nI hj hz), nI_clamp (by omega)]
theorem mk_gB0 (hl : lay a = (0, 0, z)) (h : 0 < a ∧ a < n) (g : a < 239 ∨ s.2.2 1 14 ≠ 0) (hj : j < z) (hz : z < 2 ^ 31) : gB n (mk s) a (nI j) = some (s.1 a j) := by
  rw [ia_gB0 (mk_ia hl (by decide) h g) (in_nI hj hz), nI_clamp (by omega)]
theorem mk_arr (hl : lay a = (0, k, z)) (hk : k ≠ 2 ∧ k ≠ 4) (g : a < 239 ∨ s.2.2 1 14 ≠ 0) {f : Nat → Int32} : va_up (mk s) a (.inl (k, z, .inl f)) = mk (wA s a f) := by
  refine mk_upd (fun b hb => mk_congr (wA_ne hb) rfl rfl rfl) ?_
  rw [mk_c (s := wA s a f) g, hl]
  unfold mkc
  show Sum.inl (k, z, if k = 2 then _ else if k = 4 then _ else _) = _
  rw [if_neg hk.1, if_neg hk.2, wA_at]
theorem wI_wA {s : zS} {a j : Nat} {x : Int32} : wI s a j x = wA s a (upd (s.1 a) j x) := rfl
theorem mk_wX (hl : lay a = (0, 1, z)) (h : 0 < a ∧ a < n) (g : a < 239 ∨ s.2.2 1 14 ≠ 0) (hj : j < z) (hz : z < 2 ^ 31) : wX 1 (fun x => x) n (mk s) a (nI j) x = some (mk (wI s a j x)) := by
  rw [ia_wX (mk_ia hl (by decide) h g) (in_nI hj hz), nI_clamp (by omega), mk_arr hl (by decide) g]
  rfl
theorem mk_wB3 (hl : lay a = (0, 3, z)) (h : 0 < a ∧ a < n) (g : a < 239 ∨ s.2.2 1 14 ≠ 0) (hj : j < z) (hz : z < 2 ^ 31) : wB n (mk s) a (nI j) x = some (mk (wI s a j (vp_nar .boolean x))) := by
  rw [ia_wB (mk_ia hl (by decide) h g) (in_nI hj hz), nI_clamp (by omega), mk_arr hl (by decide) g]
  rfl
theorem mk_wB0 (hl : lay a = (0, 0, z)) (h : 0 < a ∧ a < n) (g : a < 239 ∨ s.2.2 1 14 ≠ 0) (hj : j < z) (hz : z < 2 ^ 31) : wB n (mk s) a (nI j) x = some (mk (wI s a j (vp_nar .byte x))) := by
  rw [ia_wB0 (mk_ia hl (by decide) h g) (in_nI hj hz), nI_clamp (by omega), mk_arr hl (by decide) g]
  rfl
theorem mk_lA (hl : lay a = (0, k, z)) (h : 0 < a ∧ a < n) (g : a < 239 ∨ s.2.2 1 14 ≠ 0) (hk : k ≠ 2 ∧ k ≠ 4) (hk5 : k < 5) : lA n (mk s) a = some (nI z) := ia_lA (mk_ia hl hk h g) hk5
theorem mk_gJ (hl : lay a = (0, 2, z)) (h : 0 < a ∧ a < n) (g : a < 239 ∨ s.2.2 1 14 ≠ 0) (hj : j < z) (hz : z < 2 ^ 31) : gJ n (mk s) a (nI j) = some (s.2.1 a j) := by
  rw [la_gJ (mk_la hl h g) (in_nI hj hz), nI_clamp (by omega)]
theorem mk_wJ {x : Int64} (hl : lay a = (0, 2, z)) (h : 0 < a ∧ a < n) (g : a < 239 ∨ s.2.2 1 14 ≠ 0) (hj : j < z) (hz : z < 2 ^ 31) : wJ n (mk s) a (nI j) x = some (mk (wL s a j x)) := by
  rw [la_wJ (mk_la hl h g) (in_nI hj hz), nI_clamp (by omega)]
  congr 1
  refine mk_upd (fun b hb => mk_congr rfl (wL_ne hb) rfl rfl) ?_
  rw [mk_c (s := wL s a j x) g, hl]
  show (Sum.inl (2, z, .inr (.inl ((wL s a j x).2.1 a))) : va_E) = _
  rw [wL_at]
theorem mk_gR (hl : lay a = (0, 4, z)) (h : 0 < a ∧ a < n) (g : a < 239 ∨ s.2.2 1 14 ≠ 0) (hj : j < 20) (hz : z = 20) : gR n (mk s) a (nI j) = some (s.2.2 a j) := by
  subst hz
  have e := mk_ra (s := s) hl h g
  unfold gR ai_ar
  rw [if_pos e.1]
  show (match (match mk s a with | .inl x => some x | .inr _ => none) with | some (k', z, .inr (.inr (.inr (.inr f)))) => if k' = 4 ∧ ai_in (nI j) z = true then f (nI j).toNatClampNeg else none | _ => none) = _
  rw [e.2]
  show (if 4 = 4 ∧ ai_in (nI j) 20 = true then _ else _) = _
  rw [if_pos ⟨rfl, in_nI hj (by decide)⟩, nI_clamp (by omega)]
  exact if_pos hj
theorem mk_wR {v : Nat} (hl : lay a = (0, 4, z)) (h : 0 < a ∧ a < n) (g : a < 239 ∨ s.2.2 1 14 ≠ 0) (hj : j < 20) (hz : z = 20) (h14 : a ≠ 1) {t' : Nat} (hv : lay v = (1, 5, t')) (hv2 : 0 < v ∧ v < n) (gv : v < 239) : wR n (mk s) a (nI j) v = some (mk (wQ s a j v)) := by
  subst hz
  have e := mk_ra (s := s) hl h g
  have eo := ob_ob (mk_ob (s := s) hv hv2 (Or.inl gv))
  unfold wR
  rw [eo]
  unfold ai_ar
  rw [if_pos e.1]
  show (match (match mk s a with | .inl x => some x | .inr _ => none) with | some (k', z, .inr (.inr (.inr (.inr f)))) => if k' = 4 ∧ ai_in (nI j) z = true ∧ (some (fls s v (tlOf t'))).isSome = true then some (va_up (mk s) a (.inl (4, z, .inr (.inr (.inr (.inr (va_up f (nI j).toNatClampNeg (some v)))))))) else none | _ => none) = _
  rw [e.2]
  show (if 4 = 4 ∧ ai_in (nI j) 20 = true ∧ true = true then _ else _) = _
  rw [if_pos ⟨rfl, in_nI hj (by decide), rfl⟩, nI_clamp (by omega)]
  congr 1
  refine mk_upd (fun b hb => mk_congr rfl rfl (wQ_ne hb) (wQ_g14 (Or.inl h14))) ?_
  rw [mk_c (s := wQ s a j v) (by rw [wQ_g14 (Or.inl h14)]; exact g), hl]
  show (Sum.inl (4, 20, .inr (.inr (.inr (.inr (fun i => if i < 20 then some ((wQ s a j v).2.2 a i) else none))))) : va_E) = _
  congr 7
  funext i
  rw [wQ_at]
  unfold va_up
  by_cases hi : i = j
  · rw [if_pos hi, if_pos hi, if_pos (by omega)]
  · rw [if_neg hi, if_neg hi]
theorem mk_cA {b za zb sp dp m : Nat} (hl : lay a = (0, 1, za)) (hb : lay b = (0, 1, zb)) (h : 0 < a ∧ a < n) (h' : 0 < b ∧ b < n) (g : a < 239) (g' : b < 239) (h1 : sp + m ≤ za) (h2 : dp + m ≤ zb) (hz : za < 2 ^ 31) (hz' : zb < 2 ^ 31) : cA n (mk s) a (nI sp) b (nI dp) (nI m) = some (mk (wA s b (va_cpy (s.1 a) (s.1 b) sp dp m))) := by
  rw [ia_cA (mk_ia hl (by decide) h (Or.inl g)) (mk_ia hb (by decide) h' (Or.inl g')) h1 h2 hz hz', mk_arr hb (by decide) (Or.inl g')]
end Mk
/-! standings -/
def isS (o : Nat) : Prop := o = 52 ∨ o = 57 ∨ o = 62 ∨ (∃ i, i < 20 ∧ o = 87 + 5 * i)
theorem is_b {o : Nat} (ho : isS o) : 52 ≤ o ∧ o + 4 < 187 := by
  rcases ho with rfl | rfl | rfl | ⟨i, hi, rfl⟩ <;> omega
theorem is_c {o : Nat} (ho : isS o) : (52 ≤ o ∧ o ≤ 62) ∨ 87 ≤ o := by
  rcases ho with rfl | rfl | rfl | ⟨i, hi, rfl⟩ <;> omega
theorem is_20 {P : Nat → Prop} (h : ∀ i : Fin 20, P (87 + 5 * i.1)) : ∀ i, i < 20 → P (87 + 5 * i) := fun i hi => h ⟨i, hi⟩
theorem is_lay0 {o : Nat} (ho : isS o) : lay o = (1, 5, 10) := by
  rcases ho with rfl | rfl | rfl | ⟨i, hi, rfl⟩
  · rfl
  · rfl
  · rfl
  · exact is_20 (P := fun o => lay o = (1, 5, 10)) (by decide +kernel) i hi
theorem is_lay1 {o : Nat} (ho : isS o) : lay (o + 1) = (0, 1, 9) := by
  rcases ho with rfl | rfl | rfl | ⟨i, hi, rfl⟩
  · rfl
  · rfl
  · rfl
  · exact is_20 (P := fun o => lay (o + 1) = (0, 1, 9)) (by decide +kernel) i hi
theorem is_lay2 {o : Nat} (ho : isS o) : lay (o + 2) = (0, 1, 9) := by
  rcases ho with rfl | rfl | rfl | ⟨i, hi, rfl⟩
  · rfl
  · rfl
  · rfl
  · exact is_20 (P := fun o => lay (o + 2) = (0, 1, 9)) (by decide +kernel) i hi
theorem is_lay3 {o : Nat} (ho : isS o) : lay (o + 3) = (0, 1, 4) := by
  rcases ho with rfl | rfl | rfl | ⟨i, hi, rfl⟩
  · rfl
  · rfl
  · rfl
  · exact is_20 (P := fun o => lay (o + 3) = (0, 1, 4)) (by decide +kernel) i hi
theorem is_lay4 {o : Nat} (ho : isS o) : lay (o + 4) = (0, 1, 4) := by
  rcases ho with rfl | rfl | rfl | ⟨i, hi, rfl⟩
  · rfl
  · rfl
  · rfl
  · exact is_20 (P := fun o => lay (o + 4) = (0, 1, 4)) (by decide +kernel) i hi
set_option maxRecDepth 4000 in
theorem B_K {n : Nat} (hn : 239 ≤ n) : (∀ s : zS, kO n (mk s) 1 10 = some ()) ∧
  (∀ s : zS, pR n (mk s) 1 10 0 = some (2)) ∧
  (∀ s : zS, pI n (mk s) 1 10 1 = some (s.1 (1) 1)) ∧
  (∀ (s : zS) (x : Int32), sF n (mk s) 1 10 1 .int (.int x) = some (mk (wI s (1) 1 x))) ∧
  (∀ s : zS, pR n (mk s) 1 10 2 = some (3)) ∧
  (∀ s : zS, pR n (mk s) 1 10 3 = some (s.2.2 (1) 3)) ∧
  (∀ (s : zS) (x : Nat), sF n (mk s) 1 10 3 (.object "PathsKept$Told") (.ref x) = some (mk (wQ s (1) 3 x))) ∧
  (∀ s : zS, pR n (mk s) 1 10 4 = some (s.2.2 (1) 4)) ∧
  (∀ (s : zS) (x : Nat), sF n (mk s) 1 10 4 (.object "PathsKept$Told") (.ref x) = some (mk (wQ s (1) 4 x))) ∧
  (∀ s : zS, pR n (mk s) 1 10 5 = some (52)) ∧
  (∀ s : zS, pR n (mk s) 1 10 6 = some (57)) ∧
  (∀ s : zS, pR n (mk s) 1 10 7 = some (62)) ∧
  (∀ s : zS, pI n (mk s) 1 10 8 = some (s.1 (1) 8)) ∧
  (∀ s : zS, sF n (mk s) 1 10 8 .boolean (.int 0) = some (mk (wI s (1) 8 0))) ∧
  (∀ s : zS, sF n (mk s) 1 10 8 .boolean (.int 1) = some (mk (wI s (1) 8 1))) ∧
  (∀ s : zS, pR n (mk s) 1 10 9 = some (67)) ∧
  (∀ s : zS, pI n (mk s) 1 10 10 = some (s.1 (1) 10)) ∧
  (∀ (s : zS) (x : Int32), sF n (mk s) 1 10 10 .int (.int x) = some (mk (wI s (1) 10 x))) ∧
  (∀ s : zS, pR n (mk s) 1 10 11 = some (68)) ∧
  (∀ s : zS, pR n (mk s) 1 10 12 = some (70)) ∧
  (∀ s : zS, pR n (mk s) 1 10 13 = some (77)) ∧
  (∀ s : zS, pR n (mk s) 1 10 14 = some (84)) ∧
  (∀ (s : zS) (j : Nat), j < 700 → gB n (mk s) 2 (nI j) = some (s.1 (2) j)) ∧
  (∀ (s : zS) (j : Nat) (x : Int32), j < 700 → wB n (mk s) 2 (nI j) x = some (mk (wI s (2) j (vp_nar .byte x)))) ∧
  (∀ s : zS, lA n (mk s) 2 = some (nI 700)) ∧
  (∀ (s : zS) (j : Nat), j < 20 → gR n (mk s) 67 (nI j) = some (s.2.2 (67) j)) := ⟨fun s => mk_kO (rfl) ⟨by omega, by omega⟩ (Or.inl (by omega)),
  fun s => mk_pR3 (a := 1) (d := 1) (rfl) rfl ⟨by omega, by omega⟩ (Or.inl (by omega)),
  fun s => mk_pI (rfl) rfl ⟨by omega, by omega⟩ (Or.inl (by omega)),
  fun s x => mk_sI (rfl) rfl (by rfl) ⟨by omega, by omega⟩ (Or.inl (by omega)),
  fun s => mk_pR3 (a := 1) (d := 2) (rfl) rfl ⟨by omega, by omega⟩ (Or.inl (by omega)),
  fun s => mk_pR5 (rfl) rfl ⟨by omega, by omega⟩ (Or.inl (by omega)),
  fun s x => mk_sR5 (rfl) rfl rfl ⟨by omega, by omega⟩ (Or.inl (by omega)) (by decide),
  fun s => mk_pR5 (rfl) rfl ⟨by omega, by omega⟩ (Or.inl (by omega)),
  fun s x => mk_sR5 (rfl) rfl rfl ⟨by omega, by omega⟩ (Or.inl (by omega)) (by decide),
  fun s => mk_pR3 (a := 1) (d := 51) (rfl) rfl ⟨by omega, by omega⟩ (Or.inl (by omega)),
  fun s => mk_pR3 (a := 1) (d := 56) (rfl) rfl ⟨by omega, by omega⟩ (Or.inl (by omega)),
  fun s => mk_pR3 (a := 1) (d := 61) (rfl) rfl ⟨by omega, by omega⟩ (Or.inl (by omega)),
  fun s => mk_pI (rfl) rfl ⟨by omega, by omega⟩ (Or.inl (by omega)),
  fun s => mk_sI (rfl) rfl (by rfl) ⟨by omega, by omega⟩ (Or.inl (by omega)),
  fun s => mk_sI (rfl) rfl (by rfl) ⟨by omega, by omega⟩ (Or.inl (by omega)),
  fun s => mk_pR3 (a := 1) (d := 66) (rfl) rfl ⟨by omega, by omega⟩ (Or.inl (by omega)),
  fun s => mk_pI (rfl) rfl ⟨by omega, by omega⟩ (Or.inl (by omega)),
  fun s x => mk_sI (rfl) rfl (by rfl) ⟨by omega, by omega⟩ (Or.inl (by omega)),
  fun s => mk_pR3 (a := 1) (d := 67) (rfl) rfl ⟨by omega, by omega⟩ (Or.inl (by omega)),
  fun s => mk_pR3 (a := 1) (d := 69) (rfl) rfl ⟨by omega, by omega⟩ (Or.inl (by omega)),
  fun s => mk_pR3 (a := 1) (d := 76) (rfl) rfl ⟨by omega, by omega⟩ (Or.inl (by omega)),
  fun s => mk_pR3 (a := 1) (d := 83) (rfl) rfl ⟨by omega, by omega⟩ (Or.inl (by omega)),
  fun s j hj => mk_gB0 (rfl) ⟨by omega, by omega⟩ (Or.inl (by omega)) hj (by omega),
  fun s j x hj => mk_wB0 (rfl) ⟨by omega, by omega⟩ (Or.inl (by omega)) hj (by omega),
  fun s => mk_lA (rfl) ⟨by omega, by omega⟩ (Or.inl (by omega)) (by decide) (by decide),
  fun s j hj => mk_gR (rfl) ⟨by omega, by omega⟩ (Or.inl (by omega)) hj rfl⟩
set_option maxRecDepth 4000 in
theorem B_rd {n : Nat} (hn : 239 ≤ n) : (∀ s : zS, kO n (mk s) 3 3 = some ()) ∧
  (∀ s : zS, pR n (mk s) 3 3 0 = some (4)) ∧
  (∀ (s : zS) (x : Nat), s.2.2 (3) 1 = x → x ≠ 0 → pR n (mk s) 3 3 1 = some x) ∧
  (∀ (s : zS) (x : Nat), x ≠ 0 → sF n (mk s) 3 3 1 (.object "PathsKept$Told") (.ref x) = some (mk (wQ s (3) 1 x))) ∧
  (∀ s : zS, pI n (mk s) 3 3 2 = some (s.1 (3) 2)) ∧
  (∀ (s : zS) (x : Int32), sF n (mk s) 3 3 2 .int (.int x) = some (mk (wI s (3) 2 x))) ∧
  (∀ s : zS, pI n (mk s) 3 3 3 = some (s.1 (3) 3)) ∧
  (∀ (s : zS) (x : Int32), sF n (mk s) 3 3 3 .int (.int x) = some (mk (wI s (3) 3 x))) ∧
  (∀ s : zS, pI n (mk s) 3 3 4 = some (s.1 (3) 4)) ∧
  (∀ (s : zS) (x : Int32), sF n (mk s) 3 3 4 .int (.int x) = some (mk (wI s (3) 4 x))) ∧
  (∀ s : zS, kO n (mk s) 4 7 = some ()) ∧
  (∀ s : zS, pR n (mk s) 4 7 0 = some (5)) ∧
  (∀ (s : zS) (x : Nat), s.2.2 (4) 1 = x → x ≠ 0 → pR n (mk s) 4 7 1 = some x) ∧
  (∀ (s : zS) (x : Nat), x ≠ 0 → sF n (mk s) 4 7 1 (.array .byte) (.ref x) = some (mk (wQ s (4) 1 x))) ∧
  (∀ s : zS, pI n (mk s) 4 7 2 = some (s.1 (4) 2)) ∧
  (∀ (s : zS) (x : Int32), sF n (mk s) 4 7 2 .int (.int x) = some (mk (wI s (4) 2 x))) ∧
  (∀ s : zS, pI n (mk s) 4 7 3 = some (s.1 (4) 3)) ∧
  (∀ (s : zS) (x : Int32), sF n (mk s) 4 7 3 .int (.int x) = some (mk (wI s (4) 3 x))) ∧
  (∀ s : zS, pI n (mk s) 4 7 4 = some (s.1 (4) 4)) ∧
  (∀ (s : zS) (x : Int32), sF n (mk s) 4 7 4 .int (.int x) = some (mk (wI s (4) 4 x))) ∧
  (∀ s : zS, pI n (mk s) 4 7 5 = some (s.1 (4) 5)) ∧
  (∀ (s : zS) (x : Int32), sF n (mk s) 4 7 5 .int (.int x) = some (mk (wI s (4) 5 x))) ∧
  (∀ s : zS, pI n (mk s) 4 7 6 = some (s.1 (4) 6)) ∧
  (∀ (s : zS) (x : Int32), sF n (mk s) 4 7 6 .int (.int x) = some (mk (wI s (4) 6 x))) ∧
  (∀ (s : zS) (j : Nat), j < 700 → gB n (mk s) 2 (nI j) = some (s.1 (2) j)) ∧
  (∀ (s : zS) (j : Nat) (x : Int32), j < 700 → wB n (mk s) 2 (nI j) x = some (mk (wI s (2) j (vp_nar .byte x)))) ∧
  (∀ s : zS, lA n (mk s) 2 = some (nI 700)) ∧
  (∀ (s : zS) (j : Nat), j < 22 → gX 1 n (mk s) 5 (nI j) = some (s.1 (5) j)) ∧
  (∀ (s : zS) (j : Nat) (x : Int32), j < 22 → wX 1 (fun x => x) n (mk s) 5 (nI j) x = some (mk (wI s (5) j x))) ∧
  (∀ s : zS, lA n (mk s) 5 = some (nI 22)) := ⟨fun s => mk_kO (rfl) ⟨by omega, by omega⟩ (Or.inl (by omega)),
  fun s => mk_pR3 (a := 3) (d := 1) (rfl) rfl ⟨by omega, by omega⟩ (Or.inl (by omega)),
  fun s x e hx => mk_pR2 (rfl) rfl ⟨by omega, by omega⟩ (Or.inl (by omega)) e hx,
  fun s x hx => mk_sR2 (rfl) rfl rfl ⟨by omega, by omega⟩ (Or.inl (by omega)) (by omega) hx,
  fun s => mk_pI (rfl) rfl ⟨by omega, by omega⟩ (Or.inl (by omega)),
  fun s x => mk_sI (rfl) rfl (by rfl) ⟨by omega, by omega⟩ (Or.inl (by omega)),
  fun s => mk_pI (rfl) rfl ⟨by omega, by omega⟩ (Or.inl (by omega)),
  fun s x => mk_sI (rfl) rfl (by rfl) ⟨by omega, by omega⟩ (Or.inl (by omega)),
  fun s => mk_pI (rfl) rfl ⟨by omega, by omega⟩ (Or.inl (by omega)),
  fun s x => mk_sI (rfl) rfl (by rfl) ⟨by omega, by omega⟩ (Or.inl (by omega)),
  fun s => mk_kO (rfl) ⟨by omega, by omega⟩ (Or.inl (by omega)),
  fun s => mk_pR3 (a := 4) (d := 1) (rfl) rfl ⟨by omega, by omega⟩ (Or.inl (by omega)),
  fun s x e hx => mk_pR2 (rfl) rfl ⟨by omega, by omega⟩ (Or.inl (by omega)) e hx,
  fun s x hx => mk_sR2 (rfl) rfl rfl ⟨by omega, by omega⟩ (Or.inl (by omega)) (by omega) hx,
  fun s => mk_pI (rfl) rfl ⟨by omega, by omega⟩ (Or.inl (by omega)),
  fun s x => mk_sI (rfl) rfl (by rfl) ⟨by omega, by omega⟩ (Or.inl (by omega)),
  fun s => mk_pI (rfl) rfl ⟨by omega, by omega⟩ (Or.inl (by omega)),
  fun s x => mk_sI (rfl) rfl (by rfl) ⟨by omega, by omega⟩ (Or.inl (by omega)),
  fun s => mk_pI (rfl) rfl ⟨by omega, by omega⟩ (Or.inl (by omega)),
  fun s x => mk_sI (rfl) rfl (by rfl) ⟨by omega, by omega⟩ (Or.inl (by omega)),
  fun s => mk_pI (rfl) rfl ⟨by omega, by omega⟩ (Or.inl (by omega)),
  fun s x => mk_sI (rfl) rfl (by rfl) ⟨by omega, by omega⟩ (Or.inl (by omega)),
  fun s => mk_pI (rfl) rfl ⟨by omega, by omega⟩ (Or.inl (by omega)),
  fun s x => mk_sI (rfl) rfl (by rfl) ⟨by omega, by omega⟩ (Or.inl (by omega)),
  fun s j hj => mk_gB0 (rfl) ⟨by omega, by omega⟩ (Or.inl (by omega)) hj (by omega),
  fun s j x hj => mk_wB0 (rfl) ⟨by omega, by omega⟩ (Or.inl (by omega)) hj (by omega),
  fun s => mk_lA (rfl) ⟨by omega, by omega⟩ (Or.inl (by omega)) (by decide) (by decide),
  fun s j hj => mk_gX (rfl) ⟨by omega, by omega⟩ (Or.inl (by omega)) hj (by omega),
  fun s j x hj => mk_wX (rfl) ⟨by omega, by omega⟩ (Or.inl (by omega)) hj (by omega),
  fun s => mk_lA (rfl) ⟨by omega, by omega⟩ (Or.inl (by omega)) (by decide) (by decide)⟩
set_option maxRecDepth 4000 in
theorem B_dy {n : Nat} (hn : 239 ≤ n) : (∀ s : zS, kO n (mk s) 68 0 = some ()) ∧
  (∀ (s : zS) (x : Nat), s.2.2 (68) 0 = x → x ≠ 0 → pR n (mk s) 68 0 0 = some x) ∧
  (∀ (s : zS) (x : Nat), x ≠ 0 → sF n (mk s) 68 0 0 (.object "PathsKept$Told") (.ref x) = some (mk (wQ s (68) 0 x))) ∧
  (∀ (s : zS) (x : Nat), s.2.2 (68) 1 = x → x ≠ 0 → pR n (mk s) 68 0 1 = some x) ∧
  (∀ (s : zS) (x : Nat), x ≠ 0 → sF n (mk s) 68 0 1 (.object "PathsKept$Standing") (.ref x) = some (mk (wQ s (68) 1 x))) ∧
  (∀ s : zS, pI n (mk s) 68 0 2 = some (s.1 (68) 2)) ∧
  (∀ (s : zS) (x : Int32), sF n (mk s) 68 0 2 .int (.int x) = some (mk (wI s (68) 2 x))) ∧
  (∀ s : zS, pI n (mk s) 68 0 3 = some (s.1 (68) 3)) ∧
  (∀ s : zS, sF n (mk s) 68 0 3 .boolean (.int 0) = some (mk (wI s (68) 3 0))) ∧
  (∀ s : zS, sF n (mk s) 68 0 3 .boolean (.int 1) = some (mk (wI s (68) 3 1))) ∧
  (∀ s : zS, pI n (mk s) 68 0 4 = some (s.1 (68) 4)) ∧
  (∀ s : zS, sF n (mk s) 68 0 4 .boolean (.int 0) = some (mk (wI s (68) 4 0))) ∧
  (∀ s : zS, sF n (mk s) 68 0 4 .boolean (.int 1) = some (mk (wI s (68) 4 1))) ∧
  (∀ s : zS, pI n (mk s) 68 0 5 = some (s.1 (68) 5)) ∧
  (∀ (s : zS) (x : Int32), sF n (mk s) 68 0 5 .int (.int x) = some (mk (wI s (68) 5 x))) ∧
  (∀ s : zS, pI n (mk s) 68 0 6 = some (s.1 (68) 6)) ∧
  (∀ (s : zS) (x : Int32), sF n (mk s) 68 0 6 .int (.int x) = some (mk (wI s (68) 6 x))) ∧
  (∀ s : zS, pR n (mk s) 68 0 7 = some (69)) ∧
  (∀ (s : zS) (j : Nat), j < 4 → gX 1 n (mk s) 69 (nI j) = some (s.1 (69) j)) ∧
  (∀ (s : zS) (j : Nat) (x : Int32), j < 4 → wX 1 (fun x => x) n (mk s) 69 (nI j) x = some (mk (wI s (69) j x))) ∧
  (∀ s : zS, lA n (mk s) 69 = some (nI 4)) := ⟨fun s => mk_kO (rfl) ⟨by omega, by omega⟩ (Or.inl (by omega)),
  fun s x e hx => mk_pR2 (rfl) rfl ⟨by omega, by omega⟩ (Or.inl (by omega)) e hx,
  fun s x hx => mk_sR2 (rfl) rfl rfl ⟨by omega, by omega⟩ (Or.inl (by omega)) (by omega) hx,
  fun s x e hx => mk_pR2 (rfl) rfl ⟨by omega, by omega⟩ (Or.inl (by omega)) e hx,
  fun s x hx => mk_sR2 (rfl) rfl rfl ⟨by omega, by omega⟩ (Or.inl (by omega)) (by omega) hx,
  fun s => mk_pI (rfl) rfl ⟨by omega, by omega⟩ (Or.inl (by omega)),
  fun s x => mk_sI (rfl) rfl (by rfl) ⟨by omega, by omega⟩ (Or.inl (by omega)),
  fun s => mk_pI (rfl) rfl ⟨by omega, by omega⟩ (Or.inl (by omega)),
  fun s => mk_sI (rfl) rfl (by rfl) ⟨by omega, by omega⟩ (Or.inl (by omega)),
  fun s => mk_sI (rfl) rfl (by rfl) ⟨by omega, by omega⟩ (Or.inl (by omega)),
  fun s => mk_pI (rfl) rfl ⟨by omega, by omega⟩ (Or.inl (by omega)),
  fun s => mk_sI (rfl) rfl (by rfl) ⟨by omega, by omega⟩ (Or.inl (by omega)),
  fun s => mk_sI (rfl) rfl (by rfl) ⟨by omega, by omega⟩ (Or.inl (by omega)),
  fun s => mk_pI (rfl) rfl ⟨by omega, by omega⟩ (Or.inl (by omega)),
  fun s x => mk_sI (rfl) rfl (by rfl) ⟨by omega, by omega⟩ (Or.inl (by omega)),
  fun s => mk_pI (rfl) rfl ⟨by omega, by omega⟩ (Or.inl (by omega)),
  fun s x => mk_sI (rfl) rfl (by rfl) ⟨by omega, by omega⟩ (Or.inl (by omega)),
  fun s => mk_pR3 (a := 68) (d := 1) (rfl) rfl ⟨by omega, by omega⟩ (Or.inl (by omega)),
  fun s j hj => mk_gX (rfl) ⟨by omega, by omega⟩ (Or.inl (by omega)) hj (by omega),
  fun s j x hj => mk_wX (rfl) ⟨by omega, by omega⟩ (Or.inl (by omega)) hj (by omega),
  fun s => mk_lA (rfl) ⟨by omega, by omega⟩ (Or.inl (by omega)) (by decide) (by decide)⟩
set_option maxRecDepth 4000 in
theorem B_sn {n : Nat} (hn : 239 ≤ n) : (∀ s : zS, kO n (mk s) 70 4 = some ()) ∧
  (∀ s : zS, pR n (mk s) 70 4 0 = some (71)) ∧
  (∀ s : zS, pR n (mk s) 70 4 1 = some (72)) ∧
  (∀ s : zS, pR n (mk s) 70 4 2 = some (73)) ∧
  (∀ s : zS, pR n (mk s) 70 4 3 = some (74)) ∧
  (∀ s : zS, pR n (mk s) 70 4 4 = some (75)) ∧
  (∀ s : zS, pI n (mk s) 70 4 5 = some (s.1 (70) 5)) ∧
  (∀ (s : zS) (x : Int32), sF n (mk s) 70 4 5 .int (.int x) = some (mk (wI s (70) 5 x))) ∧
  (∀ s : zS, pI n (mk s) 70 4 6 = some (s.1 (70) 6)) ∧
  (∀ (s : zS) (x : Int32), sF n (mk s) 70 4 6 .int (.int x) = some (mk (wI s (70) 6 x))) ∧
  (∀ s : zS, pI n (mk s) 70 4 7 = some (s.1 (70) 7)) ∧
  (∀ (s : zS) (x : Int32), sF n (mk s) 70 4 7 .int (.int x) = some (mk (wI s (70) 7 x))) ∧
  (∀ s : zS, pR n (mk s) 70 4 8 = some (76)) ∧
  (∀ (s : zS) (j : Nat), j < 24 → gX 1 n (mk s) 71 (nI j) = some (s.1 (71) j)) ∧
  (∀ (s : zS) (j : Nat) (x : Int32), j < 24 → wX 1 (fun x => x) n (mk s) 71 (nI j) x = some (mk (wI s (71) j x))) ∧
  (∀ s : zS, lA n (mk s) 71 = some (nI 24)) ∧
  (∀ (s : zS) (j : Nat), j < 24 → gX 1 n (mk s) 72 (nI j) = some (s.1 (72) j)) ∧
  (∀ (s : zS) (j : Nat) (x : Int32), j < 24 → wX 1 (fun x => x) n (mk s) 72 (nI j) x = some (mk (wI s (72) j x))) ∧
  (∀ s : zS, lA n (mk s) 72 = some (nI 24)) ∧
  (∀ (s : zS) (j : Nat), j < 24 → gX 1 n (mk s) 73 (nI j) = some (s.1 (73) j)) ∧
  (∀ (s : zS) (j : Nat) (x : Int32), j < 24 → wX 1 (fun x => x) n (mk s) 73 (nI j) x = some (mk (wI s (73) j x))) ∧
  (∀ s : zS, lA n (mk s) 73 = some (nI 24)) ∧
  (∀ (s : zS) (j : Nat), j < 24 → gX 1 n (mk s) 74 (nI j) = some (s.1 (74) j)) ∧
  (∀ (s : zS) (j : Nat) (x : Int32), j < 24 → wX 1 (fun x => x) n (mk s) 74 (nI j) x = some (mk (wI s (74) j x))) ∧
  (∀ s : zS, lA n (mk s) 74 = some (nI 24)) ∧
  (∀ (s : zS) (j : Nat), j < 24 → gB n (mk s) 75 (nI j) = some (s.1 (75) j)) ∧
  (∀ (s : zS) (j : Nat) (x : Int32), j < 24 → wB n (mk s) 75 (nI j) x = some (mk (wI s (75) j (vp_nar .boolean x)))) ∧
  (∀ s : zS, lA n (mk s) 75 = some (nI 24)) ∧
  (∀ (s : zS) (j : Nat), j < 7 → gX 1 n (mk s) 76 (nI j) = some (s.1 (76) j)) ∧
  (∀ (s : zS) (j : Nat) (x : Int32), j < 7 → wX 1 (fun x => x) n (mk s) 76 (nI j) x = some (mk (wI s (76) j x))) ∧
  (∀ s : zS, lA n (mk s) 76 = some (nI 7)) := ⟨fun s => mk_kO (rfl) ⟨by omega, by omega⟩ (Or.inl (by omega)),
  fun s => mk_pR3 (a := 70) (d := 1) (rfl) rfl ⟨by omega, by omega⟩ (Or.inl (by omega)),
  fun s => mk_pR3 (a := 70) (d := 2) (rfl) rfl ⟨by omega, by omega⟩ (Or.inl (by omega)),
  fun s => mk_pR3 (a := 70) (d := 3) (rfl) rfl ⟨by omega, by omega⟩ (Or.inl (by omega)),
  fun s => mk_pR3 (a := 70) (d := 4) (rfl) rfl ⟨by omega, by omega⟩ (Or.inl (by omega)),
  fun s => mk_pR3 (a := 70) (d := 5) (rfl) rfl ⟨by omega, by omega⟩ (Or.inl (by omega)),
  fun s => mk_pI (rfl) rfl ⟨by omega, by omega⟩ (Or.inl (by omega)),
  fun s x => mk_sI (rfl) rfl (by rfl) ⟨by omega, by omega⟩ (Or.inl (by omega)),
  fun s => mk_pI (rfl) rfl ⟨by omega, by omega⟩ (Or.inl (by omega)),
  fun s x => mk_sI (rfl) rfl (by rfl) ⟨by omega, by omega⟩ (Or.inl (by omega)),
  fun s => mk_pI (rfl) rfl ⟨by omega, by omega⟩ (Or.inl (by omega)),
  fun s x => mk_sI (rfl) rfl (by rfl) ⟨by omega, by omega⟩ (Or.inl (by omega)),
  fun s => mk_pR3 (a := 70) (d := 6) (rfl) rfl ⟨by omega, by omega⟩ (Or.inl (by omega)),
  fun s j hj => mk_gX (rfl) ⟨by omega, by omega⟩ (Or.inl (by omega)) hj (by omega),
  fun s j x hj => mk_wX (rfl) ⟨by omega, by omega⟩ (Or.inl (by omega)) hj (by omega),
  fun s => mk_lA (rfl) ⟨by omega, by omega⟩ (Or.inl (by omega)) (by decide) (by decide),
  fun s j hj => mk_gX (rfl) ⟨by omega, by omega⟩ (Or.inl (by omega)) hj (by omega),
  fun s j x hj => mk_wX (rfl) ⟨by omega, by omega⟩ (Or.inl (by omega)) hj (by omega),
  fun s => mk_lA (rfl) ⟨by omega, by omega⟩ (Or.inl (by omega)) (by decide) (by decide),
  fun s j hj => mk_gX (rfl) ⟨by omega, by omega⟩ (Or.inl (by omega)) hj (by omega),
  fun s j x hj => mk_wX (rfl) ⟨by omega, by omega⟩ (Or.inl (by omega)) hj (by omega),
  fun s => mk_lA (rfl) ⟨by omega, by omega⟩ (Or.inl (by omega)) (by decide) (by decide),
  fun s j hj => mk_gX (rfl) ⟨by omega, by omega⟩ (Or.inl (by omega)) hj (by omega),
  fun s j x hj => mk_wX (rfl) ⟨by omega, by omega⟩ (Or.inl (by omega)) hj (by omega),
  fun s => mk_lA (rfl) ⟨by omega, by omega⟩ (Or.inl (by omega)) (by decide) (by decide),
  fun s j hj => mk_gB3 (rfl) ⟨by omega, by omega⟩ (Or.inl (by omega)) hj (by omega),
  fun s j x hj => mk_wB3 (rfl) ⟨by omega, by omega⟩ (Or.inl (by omega)) hj (by omega),
  fun s => mk_lA (rfl) ⟨by omega, by omega⟩ (Or.inl (by omega)) (by decide) (by decide),
  fun s j hj => mk_gX (rfl) ⟨by omega, by omega⟩ (Or.inl (by omega)) hj (by omega),
  fun s j x hj => mk_wX (rfl) ⟨by omega, by omega⟩ (Or.inl (by omega)) hj (by omega),
  fun s => mk_lA (rfl) ⟨by omega, by omega⟩ (Or.inl (by omega)) (by decide) (by decide)⟩
set_option maxRecDepth 4000 in
theorem B_wy {n : Nat} (hn : 239 ≤ n) : (∀ s : zS, kO n (mk s) 77 9 = some ()) ∧
  (∀ s : zS, pR n (mk s) 77 9 0 = some (78)) ∧
  (∀ s : zS, pR n (mk s) 77 9 1 = some (79)) ∧
  (∀ s : zS, pR n (mk s) 77 9 2 = some (80)) ∧
  (∀ s : zS, pR n (mk s) 77 9 3 = some (81)) ∧
  (∀ s : zS, pR n (mk s) 77 9 4 = some (82)) ∧
  (∀ s : zS, pR n (mk s) 77 9 5 = some (83)) ∧
  (∀ s : zS, pI n (mk s) 77 9 6 = some (s.1 (77) 6)) ∧
  (∀ (s : zS) (x : Int32), sF n (mk s) 77 9 6 .int (.int x) = some (mk (wI s (77) 6 x))) ∧
  (∀ (s : zS) (j : Nat), j < 7 → gX 1 n (mk s) 78 (nI j) = some (s.1 (78) j)) ∧
  (∀ (s : zS) (j : Nat) (x : Int32), j < 7 → wX 1 (fun x => x) n (mk s) 78 (nI j) x = some (mk (wI s (78) j x))) ∧
  (∀ s : zS, lA n (mk s) 78 = some (nI 7)) ∧
  (∀ (s : zS) (j : Nat), j < 3584 → gX 1 n (mk s) 79 (nI j) = some (s.1 (79) j)) ∧
  (∀ (s : zS) (j : Nat) (x : Int32), j < 3584 → wX 1 (fun x => x) n (mk s) 79 (nI j) x = some (mk (wI s (79) j x))) ∧
  (∀ s : zS, lA n (mk s) 79 = some (nI 3584)) ∧
  (∀ (s : zS) (j : Nat), j < 4 → gX 1 n (mk s) 80 (nI j) = some (s.1 (80) j)) ∧
  (∀ (s : zS) (j : Nat) (x : Int32), j < 4 → wX 1 (fun x => x) n (mk s) 80 (nI j) x = some (mk (wI s (80) j x))) ∧
  (∀ s : zS, lA n (mk s) 80 = some (nI 4)) ∧
  (∀ (s : zS) (j : Nat), j < 9 → gX 1 n (mk s) 81 (nI j) = some (s.1 (81) j)) ∧
  (∀ (s : zS) (j : Nat) (x : Int32), j < 9 → wX 1 (fun x => x) n (mk s) 81 (nI j) x = some (mk (wI s (81) j x))) ∧
  (∀ s : zS, lA n (mk s) 81 = some (nI 9)) ∧
  (∀ (s : zS) (j : Nat), j < 4 → gX 1 n (mk s) 82 (nI j) = some (s.1 (82) j)) ∧
  (∀ (s : zS) (j : Nat) (x : Int32), j < 4 → wX 1 (fun x => x) n (mk s) 82 (nI j) x = some (mk (wI s (82) j x))) ∧
  (∀ s : zS, lA n (mk s) 82 = some (nI 4)) ∧
  (∀ (s : zS) (j : Nat), j < 4 → gX 1 n (mk s) 83 (nI j) = some (s.1 (83) j)) ∧
  (∀ (s : zS) (j : Nat) (x : Int32), j < 4 → wX 1 (fun x => x) n (mk s) 83 (nI j) x = some (mk (wI s (83) j x))) ∧
  (∀ s : zS, lA n (mk s) 83 = some (nI 4)) := ⟨fun s => mk_kO (rfl) ⟨by omega, by omega⟩ (Or.inl (by omega)),
  fun s => mk_pR3 (a := 77) (d := 1) (rfl) rfl ⟨by omega, by omega⟩ (Or.inl (by omega)),
  fun s => mk_pR3 (a := 77) (d := 2) (rfl) rfl ⟨by omega, by omega⟩ (Or.inl (by omega)),
  fun s => mk_pR3 (a := 77) (d := 3) (rfl) rfl ⟨by omega, by omega⟩ (Or.inl (by omega)),
  fun s => mk_pR3 (a := 77) (d := 4) (rfl) rfl ⟨by omega, by omega⟩ (Or.inl (by omega)),
  fun s => mk_pR3 (a := 77) (d := 5) (rfl) rfl ⟨by omega, by omega⟩ (Or.inl (by omega)),
  fun s => mk_pR3 (a := 77) (d := 6) (rfl) rfl ⟨by omega, by omega⟩ (Or.inl (by omega)),
  fun s => mk_pI (rfl) rfl ⟨by omega, by omega⟩ (Or.inl (by omega)),
  fun s x => mk_sI (rfl) rfl (by rfl) ⟨by omega, by omega⟩ (Or.inl (by omega)),
  fun s j hj => mk_gX (rfl) ⟨by omega, by omega⟩ (Or.inl (by omega)) hj (by omega),
  fun s j x hj => mk_wX (rfl) ⟨by omega, by omega⟩ (Or.inl (by omega)) hj (by omega),
  fun s => mk_lA (rfl) ⟨by omega, by omega⟩ (Or.inl (by omega)) (by decide) (by decide),
  fun s j hj => mk_gX (rfl) ⟨by omega, by omega⟩ (Or.inl (by omega)) hj (by omega),
  fun s j x hj => mk_wX (rfl) ⟨by omega, by omega⟩ (Or.inl (by omega)) hj (by omega),
  fun s => mk_lA (rfl) ⟨by omega, by omega⟩ (Or.inl (by omega)) (by decide) (by decide),
  fun s j hj => mk_gX (rfl) ⟨by omega, by omega⟩ (Or.inl (by omega)) hj (by omega),
  fun s j x hj => mk_wX (rfl) ⟨by omega, by omega⟩ (Or.inl (by omega)) hj (by omega),
  fun s => mk_lA (rfl) ⟨by omega, by omega⟩ (Or.inl (by omega)) (by decide) (by decide),
  fun s j hj => mk_gX (rfl) ⟨by omega, by omega⟩ (Or.inl (by omega)) hj (by omega),
  fun s j x hj => mk_wX (rfl) ⟨by omega, by omega⟩ (Or.inl (by omega)) hj (by omega),
  fun s => mk_lA (rfl) ⟨by omega, by omega⟩ (Or.inl (by omega)) (by decide) (by decide),
  fun s j hj => mk_gX (rfl) ⟨by omega, by omega⟩ (Or.inl (by omega)) hj (by omega),
  fun s j x hj => mk_wX (rfl) ⟨by omega, by omega⟩ (Or.inl (by omega)) hj (by omega),
  fun s => mk_lA (rfl) ⟨by omega, by omega⟩ (Or.inl (by omega)) (by decide) (by decide),
  fun s j hj => mk_gX (rfl) ⟨by omega, by omega⟩ (Or.inl (by omega)) hj (by omega),
  fun s j x hj => mk_wX (rfl) ⟨by omega, by omega⟩ (Or.inl (by omega)) hj (by omega),
  fun s => mk_lA (rfl) ⟨by omega, by omega⟩ (Or.inl (by omega)) (by decide) (by decide)⟩
set_option maxRecDepth 4000 in
theorem B_m {n : Nat} (hn : 239 ≤ n) : (∀ s : zS, kO n (mk s) 187 11 = some ()) ∧
  (∀ s : zS, pR n (mk s) 187 11 0 = some (188)) ∧
  (∀ s : zS, pI n (mk s) 187 11 1 = some (s.1 (187) 1)) ∧
  (∀ (s : zS) (x : Int32), sF n (mk s) 187 11 1 .int (.int x) = some (mk (wI s (187) 1 x))) ∧
  (∀ s : zS, pI n (mk s) 187 11 2 = some (s.1 (187) 2)) ∧
  (∀ (s : zS) (x : Int32), sF n (mk s) 187 11 2 .int (.int x) = some (mk (wI s (187) 2 x))) ∧
  (∀ s : zS, pR n (mk s) 187 11 3 = some (189)) ∧
  (∀ s : zS, pI n (mk s) 187 11 4 = some (s.1 (187) 4)) ∧
  (∀ (s : zS) (x : Int32), sF n (mk s) 187 11 4 .int (.int x) = some (mk (wI s (187) 4 x))) ∧
  (∀ s : zS, pI n (mk s) 187 11 5 = some (s.1 (187) 5)) ∧
  (∀ (s : zS) (x : Int32), sF n (mk s) 187 11 5 .int (.int x) = some (mk (wI s (187) 5 x))) ∧
  (∀ s : zS, pI n (mk s) 187 11 6 = some (s.1 (187) 6)) ∧
  (∀ (s : zS) (x : Int32), sF n (mk s) 187 11 6 .int (.int x) = some (mk (wI s (187) 6 x))) ∧
  (∀ s : zS, pI n (mk s) 187 11 7 = some (s.1 (187) 7)) ∧
  (∀ (s : zS) (x : Int32), sF n (mk s) 187 11 7 .int (.int x) = some (mk (wI s (187) 7 x))) ∧
  (∀ s : zS, pI n (mk s) 187 11 8 = some (s.1 (187) 8)) ∧
  (∀ (s : zS) (x : Int32), sF n (mk s) 187 11 8 .int (.int x) = some (mk (wI s (187) 8 x))) ∧
  (∀ s : zS, pI n (mk s) 187 11 9 = some (s.1 (187) 9)) ∧
  (∀ (s : zS) (x : Int32), sF n (mk s) 187 11 9 .int (.int x) = some (mk (wI s (187) 9 x))) ∧
  (∀ s : zS, pI n (mk s) 187 11 10 = some (s.1 (187) 10)) ∧
  (∀ (s : zS) (x : Int32), sF n (mk s) 187 11 10 .int (.int x) = some (mk (wI s (187) 10 x))) ∧
  (∀ s : zS, pI n (mk s) 187 11 11 = some (s.1 (187) 11)) ∧
  (∀ (s : zS) (x : Int32), sF n (mk s) 187 11 11 .int (.int x) = some (mk (wI s (187) 11 x))) ∧
  (∀ s : zS, pI n (mk s) 187 11 12 = some (s.1 (187) 12)) ∧
  (∀ (s : zS) (x : Int32), sF n (mk s) 187 11 12 .int (.int x) = some (mk (wI s (187) 12 x))) ∧
  (∀ s : zS, pI n (mk s) 187 11 13 = some (s.1 (187) 13)) ∧
  (∀ (s : zS) (x : Int32), sF n (mk s) 187 11 13 .int (.int x) = some (mk (wI s (187) 13 x))) ∧
  (∀ s : zS, pI n (mk s) 187 11 14 = some (s.1 (187) 14)) ∧
  (∀ (s : zS) (x : Int32), sF n (mk s) 187 11 14 .int (.int x) = some (mk (wI s (187) 14 x))) ∧
  (∀ s : zS, pI n (mk s) 187 11 15 = some (s.1 (187) 15)) ∧
  (∀ (s : zS) (x : Int32), sF n (mk s) 187 11 15 .int (.int x) = some (mk (wI s (187) 15 x))) ∧
  (∀ s : zS, pI n (mk s) 187 11 16 = some (s.1 (187) 16)) ∧
  (∀ (s : zS) (x : Int32), sF n (mk s) 187 11 16 .int (.int x) = some (mk (wI s (187) 16 x))) ∧
  (∀ s : zS, pI n (mk s) 187 11 17 = some (s.1 (187) 17)) ∧
  (∀ (s : zS) (x : Int32), sF n (mk s) 187 11 17 .int (.int x) = some (mk (wI s (187) 17 x))) ∧
  (∀ s : zS, pI n (mk s) 187 11 18 = some (s.1 (187) 18)) ∧
  (∀ (s : zS) (x : Int32), sF n (mk s) 187 11 18 .int (.int x) = some (mk (wI s (187) 18 x))) ∧
  (∀ s : zS, pI n (mk s) 187 11 19 = some (s.1 (187) 19)) ∧
  (∀ (s : zS) (x : Int32), sF n (mk s) 187 11 19 .int (.int x) = some (mk (wI s (187) 19 x))) ∧
  (∀ s : zS, pI n (mk s) 187 11 20 = some (s.1 (187) 20)) ∧
  (∀ (s : zS) (x : Int32), sF n (mk s) 187 11 20 .int (.int x) = some (mk (wI s (187) 20 x))) ∧
  (∀ s : zS, pI n (mk s) 187 11 21 = some (s.1 (187) 21)) ∧
  (∀ (s : zS) (x : Int32), sF n (mk s) 187 11 21 .int (.int x) = some (mk (wI s (187) 21 x))) ∧
  (∀ s : zS, pI n (mk s) 187 11 22 = some (s.1 (187) 22)) ∧
  (∀ (s : zS) (x : Int32), sF n (mk s) 187 11 22 .int (.int x) = some (mk (wI s (187) 22 x))) ∧
  (∀ s : zS, pI n (mk s) 187 11 23 = some (s.1 (187) 23)) ∧
  (∀ (s : zS) (x : Int32), sF n (mk s) 187 11 23 .int (.int x) = some (mk (wI s (187) 23 x))) ∧
  (∀ s : zS, pR n (mk s) 187 11 24 = some (190)) ∧
  (∀ s : zS, pR n (mk s) 187 11 25 = some (191)) ∧
  (∀ s : zS, pR n (mk s) 187 11 26 = some (192)) ∧
  (∀ s : zS, pR n (mk s) 187 11 27 = some (193)) ∧
  (∀ s : zS, pR n (mk s) 187 11 28 = some (194)) ∧
  (∀ s : zS, pR n (mk s) 187 11 29 = some (195)) ∧
  (∀ s : zS, pR n (mk s) 187 11 30 = some (196)) ∧
  (∀ s : zS, pR n (mk s) 187 11 31 = some (197)) ∧
  (∀ s : zS, pR n (mk s) 187 11 32 = some (198)) ∧
  (∀ s : zS, pR n (mk s) 187 11 33 = some (199)) ∧
  (∀ s : zS, pR n (mk s) 187 11 34 = some (200)) ∧
  (∀ s : zS, pR n (mk s) 187 11 35 = some (201)) ∧
  (∀ s : zS, pR n (mk s) 187 11 36 = some (202)) ∧
  (∀ s : zS, pR n (mk s) 187 11 37 = some (203)) ∧
  (∀ s : zS, pR n (mk s) 187 11 38 = some (204)) ∧
  (∀ s : zS, pR n (mk s) 187 11 39 = some (205)) ∧
  (∀ s : zS, pR n (mk s) 187 11 40 = some (206)) ∧
  (∀ s : zS, pR n (mk s) 187 11 41 = some (207)) ∧
  (∀ s : zS, pR n (mk s) 187 11 42 = some (208)) ∧
  (∀ s : zS, pR n (mk s) 187 11 43 = some (209)) ∧
  (∀ s : zS, pR n (mk s) 187 11 44 = some (210)) ∧
  (∀ s : zS, pR n (mk s) 187 11 45 = some (211)) ∧
  (∀ s : zS, pR n (mk s) 187 11 46 = some (212)) ∧
  (∀ s : zS, pR n (mk s) 187 11 47 = some (213)) ∧
  (∀ s : zS, pR n (mk s) 187 11 48 = some (214)) ∧
  (∀ s : zS, pR n (mk s) 187 11 49 = some (215)) ∧
  (∀ s : zS, pR n (mk s) 187 11 50 = some (216)) ∧
  (∀ s : zS, pI n (mk s) 187 11 51 = some (s.1 (187) 51)) ∧
  (∀ (s : zS) (x : Int32), sF n (mk s) 187 11 51 .int (.int x) = some (mk (wI s (187) 51 x))) ∧
  (∀ s : zS, pI n (mk s) 187 11 52 = some (s.1 (187) 52)) ∧
  (∀ (s : zS) (x : Int32), sF n (mk s) 187 11 52 .int (.int x) = some (mk (wI s (187) 52 x))) ∧
  (∀ s : zS, pI n (mk s) 187 11 53 = some (s.1 (187) 53)) ∧
  (∀ (s : zS) (x : Int32), sF n (mk s) 187 11 53 .int (.int x) = some (mk (wI s (187) 53 x))) ∧
  (∀ s : zS, pI n (mk s) 187 11 54 = some (s.1 (187) 54)) ∧
  (∀ (s : zS) (x : Int32), sF n (mk s) 187 11 54 .int (.int x) = some (mk (wI s (187) 54 x))) ∧
  (∀ s : zS, pI n (mk s) 187 11 55 = some (s.1 (187) 55)) ∧
  (∀ s : zS, sF n (mk s) 187 11 55 .boolean (.int 0) = some (mk (wI s (187) 55 0))) ∧
  (∀ s : zS, sF n (mk s) 187 11 55 .boolean (.int 1) = some (mk (wI s (187) 55 1))) ∧
  (∀ s : zS, pI n (mk s) 187 11 56 = some (s.1 (187) 56)) ∧
  (∀ s : zS, sF n (mk s) 187 11 56 .boolean (.int 0) = some (mk (wI s (187) 56 0))) ∧
  (∀ s : zS, sF n (mk s) 187 11 56 .boolean (.int 1) = some (mk (wI s (187) 56 1))) ∧
  (∀ s : zS, pR n (mk s) 187 11 57 = some (217)) ∧
  (∀ s : zS, pR n (mk s) 187 11 58 = some (218)) ∧
  (∀ s : zS, pI n (mk s) 187 11 59 = some (s.1 (187) 59)) ∧
  (∀ s : zS, sF n (mk s) 187 11 59 .boolean (.int 0) = some (mk (wI s (187) 59 0))) ∧
  (∀ s : zS, sF n (mk s) 187 11 59 .boolean (.int 1) = some (mk (wI s (187) 59 1))) ∧
  (∀ s : zS, pR n (mk s) 187 11 60 = some (219)) ∧
  (∀ s : zS, pR n (mk s) 187 11 61 = some (220)) ∧
  (∀ s : zS, pR n (mk s) 187 11 62 = some (221)) ∧
  (∀ s : zS, pR n (mk s) 187 11 63 = some (222)) ∧
  (∀ s : zS, pR n (mk s) 187 11 64 = some (223)) ∧
  (∀ s : zS, pR n (mk s) 187 11 65 = some (224)) ∧
  (∀ s : zS, pR n (mk s) 187 11 66 = some (225)) ∧
  (∀ s : zS, pR n (mk s) 187 11 67 = some (226)) ∧
  (∀ s : zS, pJ n (mk s) 187 11 68 = some (s.2.1 (187) 68)) ∧
  (∀ (s : zS) (x : Int64), sF n (mk s) 187 11 68 .long (.long x) = some (mk (wL s (187) 68 x))) ∧
  (∀ s : zS, pI n (mk s) 187 11 69 = some (s.1 (187) 69)) ∧
  (∀ s : zS, sF n (mk s) 187 11 69 .boolean (.int 0) = some (mk (wI s (187) 69 0))) ∧
  (∀ s : zS, sF n (mk s) 187 11 69 .boolean (.int 1) = some (mk (wI s (187) 69 1))) ∧
  (∀ s : zS, pI n (mk s) 187 11 70 = some (s.1 (187) 70)) ∧
  (∀ s : zS, sF n (mk s) 187 11 70 .boolean (.int 0) = some (mk (wI s (187) 70 0))) ∧
  (∀ s : zS, sF n (mk s) 187 11 70 .boolean (.int 1) = some (mk (wI s (187) 70 1))) ∧
  (∀ s : zS, pI n (mk s) 187 11 71 = some (s.1 (187) 71)) ∧
  (∀ s : zS, sF n (mk s) 187 11 71 .boolean (.int 0) = some (mk (wI s (187) 71 0))) ∧
  (∀ s : zS, sF n (mk s) 187 11 71 .boolean (.int 1) = some (mk (wI s (187) 71 1))) ∧
  (∀ s : zS, pI n (mk s) 187 11 72 = some (s.1 (187) 72)) ∧
  (∀ s : zS, sF n (mk s) 187 11 72 .boolean (.int 0) = some (mk (wI s (187) 72 0))) ∧
  (∀ s : zS, sF n (mk s) 187 11 72 .boolean (.int 1) = some (mk (wI s (187) 72 1))) ∧
  (∀ s : zS, pI n (mk s) 187 11 73 = some (s.1 (187) 73)) ∧
  (∀ s : zS, sF n (mk s) 187 11 73 .boolean (.int 0) = some (mk (wI s (187) 73 0))) ∧
  (∀ s : zS, sF n (mk s) 187 11 73 .boolean (.int 1) = some (mk (wI s (187) 73 1))) ∧
  (∀ s : zS, pI n (mk s) 187 11 74 = some (s.1 (187) 74)) ∧
  (∀ (s : zS) (x : Int32), sF n (mk s) 187 11 74 .int (.int x) = some (mk (wI s (187) 74 x))) ∧
  (∀ s : zS, pI n (mk s) 187 11 75 = some (s.1 (187) 75)) ∧
  (∀ (s : zS) (x : Int32), sF n (mk s) 187 11 75 .int (.int x) = some (mk (wI s (187) 75 x))) ∧
  (∀ s : zS, pI n (mk s) 187 11 76 = some (s.1 (187) 76)) ∧
  (∀ (s : zS) (x : Int32), sF n (mk s) 187 11 76 .int (.int x) = some (mk (wI s (187) 76 x))) ∧
  (∀ s : zS, pR n (mk s) 187 11 77 = some (227)) ∧
  (∀ s : zS, pR n (mk s) 187 11 78 = some (228)) ∧
  (∀ s : zS, pR n (mk s) 187 11 79 = some (229)) ∧
  (∀ s : zS, pR n (mk s) 187 11 80 = some (230)) ∧
  (∀ s : zS, pR n (mk s) 187 11 81 = some (231)) ∧
  (∀ s : zS, pI n (mk s) 187 11 82 = some (s.1 (187) 82)) ∧
  (∀ (s : zS) (x : Int32), sF n (mk s) 187 11 82 .int (.int x) = some (mk (wI s (187) 82 x))) ∧
  (∀ s : zS, pR n (mk s) 187 11 83 = some (232)) ∧
  (∀ s : zS, pI n (mk s) 187 11 84 = some (s.1 (187) 84)) ∧
  (∀ (s : zS) (x : Int32), sF n (mk s) 187 11 84 .int (.int x) = some (mk (wI s (187) 84 x))) ∧
  (∀ s : zS, pI n (mk s) 187 11 85 = some (s.1 (187) 85)) ∧
  (∀ (s : zS) (x : Int32), sF n (mk s) 187 11 85 .int (.int x) = some (mk (wI s (187) 85 x))) ∧
  (∀ s : zS, pR n (mk s) 187 11 86 = some (233)) ∧
  (∀ s : zS, pR n (mk s) 187 11 87 = some (234)) ∧
  (∀ s : zS, pR n (mk s) 187 11 88 = some (235)) ∧
  (∀ s : zS, pI n (mk s) 187 11 89 = some (s.1 (187) 89)) ∧
  (∀ (s : zS) (x : Int32), sF n (mk s) 187 11 89 .int (.int x) = some (mk (wI s (187) 89 x))) ∧
  (∀ s : zS, pR n (mk s) 187 11 90 = some (236)) ∧
  (∀ s : zS, pI n (mk s) 187 11 91 = some (s.1 (187) 91)) ∧
  (∀ s : zS, sF n (mk s) 187 11 91 .boolean (.int 0) = some (mk (wI s (187) 91 0))) ∧
  (∀ s : zS, sF n (mk s) 187 11 91 .boolean (.int 1) = some (mk (wI s (187) 91 1))) ∧
  (∀ s : zS, pR n (mk s) 187 11 92 = some (237)) ∧
  (∀ s : zS, pI n (mk s) 187 11 93 = some (s.1 (187) 93)) ∧
  (∀ (s : zS) (x : Int32), sF n (mk s) 187 11 93 .int (.int x) = some (mk (wI s (187) 93 x))) ∧
  (∀ s : zS, pI n (mk s) 187 11 94 = some (s.1 (187) 94)) ∧
  (∀ (s : zS) (x : Int32), sF n (mk s) 187 11 94 .int (.int x) = some (mk (wI s (187) 94 x))) ∧
  (∀ s : zS, pJ n (mk s) 187 11 95 = some (s.2.1 (187) 95)) ∧
  (∀ (s : zS) (x : Int64), sF n (mk s) 187 11 95 .long (.long x) = some (mk (wL s (187) 95 x))) := ⟨fun s => mk_kO (rfl) ⟨by omega, by omega⟩ (Or.inl (by omega)),
  fun s => mk_pR3 (a := 187) (d := 1) (rfl) rfl ⟨by omega, by omega⟩ (Or.inl (by omega)),
  fun s => mk_pI (rfl) rfl ⟨by omega, by omega⟩ (Or.inl (by omega)),
  fun s x => mk_sI (rfl) rfl (by rfl) ⟨by omega, by omega⟩ (Or.inl (by omega)),
  fun s => mk_pI (rfl) rfl ⟨by omega, by omega⟩ (Or.inl (by omega)),
  fun s x => mk_sI (rfl) rfl (by rfl) ⟨by omega, by omega⟩ (Or.inl (by omega)),
  fun s => mk_pR3 (a := 187) (d := 2) (rfl) rfl ⟨by omega, by omega⟩ (Or.inl (by omega)),
  fun s => mk_pI (rfl) rfl ⟨by omega, by omega⟩ (Or.inl (by omega)),
  fun s x => mk_sI (rfl) rfl (by rfl) ⟨by omega, by omega⟩ (Or.inl (by omega)),
  fun s => mk_pI (rfl) rfl ⟨by omega, by omega⟩ (Or.inl (by omega)),
  fun s x => mk_sI (rfl) rfl (by rfl) ⟨by omega, by omega⟩ (Or.inl (by omega)),
  fun s => mk_pI (rfl) rfl ⟨by omega, by omega⟩ (Or.inl (by omega)),
  fun s x => mk_sI (rfl) rfl (by rfl) ⟨by omega, by omega⟩ (Or.inl (by omega)),
  fun s => mk_pI (rfl) rfl ⟨by omega, by omega⟩ (Or.inl (by omega)),
  fun s x => mk_sI (rfl) rfl (by rfl) ⟨by omega, by omega⟩ (Or.inl (by omega)),
  fun s => mk_pI (rfl) rfl ⟨by omega, by omega⟩ (Or.inl (by omega)),
  fun s x => mk_sI (rfl) rfl (by rfl) ⟨by omega, by omega⟩ (Or.inl (by omega)),
  fun s => mk_pI (rfl) rfl ⟨by omega, by omega⟩ (Or.inl (by omega)),
  fun s x => mk_sI (rfl) rfl (by rfl) ⟨by omega, by omega⟩ (Or.inl (by omega)),
  fun s => mk_pI (rfl) rfl ⟨by omega, by omega⟩ (Or.inl (by omega)),
  fun s x => mk_sI (rfl) rfl (by rfl) ⟨by omega, by omega⟩ (Or.inl (by omega)),
  fun s => mk_pI (rfl) rfl ⟨by omega, by omega⟩ (Or.inl (by omega)),
  fun s x => mk_sI (rfl) rfl (by rfl) ⟨by omega, by omega⟩ (Or.inl (by omega)),
  fun s => mk_pI (rfl) rfl ⟨by omega, by omega⟩ (Or.inl (by omega)),
  fun s x => mk_sI (rfl) rfl (by rfl) ⟨by omega, by omega⟩ (Or.inl (by omega)),
  fun s => mk_pI (rfl) rfl ⟨by omega, by omega⟩ (Or.inl (by omega)),
  fun s x => mk_sI (rfl) rfl (by rfl) ⟨by omega, by omega⟩ (Or.inl (by omega)),
  fun s => mk_pI (rfl) rfl ⟨by omega, by omega⟩ (Or.inl (by omega)),
  fun s x => mk_sI (rfl) rfl (by rfl) ⟨by omega, by omega⟩ (Or.inl (by omega)),
  fun s => mk_pI (rfl) rfl ⟨by omega, by omega⟩ (Or.inl (by omega)),
  fun s x => mk_sI (rfl) rfl (by rfl) ⟨by omega, by omega⟩ (Or.inl (by omega)),
  fun s => mk_pI (rfl) rfl ⟨by omega, by omega⟩ (Or.inl (by omega)),
  fun s x => mk_sI (rfl) rfl (by rfl) ⟨by omega, by omega⟩ (Or.inl (by omega)),
  fun s => mk_pI (rfl) rfl ⟨by omega, by omega⟩ (Or.inl (by omega)),
  fun s x => mk_sI (rfl) rfl (by rfl) ⟨by omega, by omega⟩ (Or.inl (by omega)),
  fun s => mk_pI (rfl) rfl ⟨by omega, by omega⟩ (Or.inl (by omega)),
  fun s x => mk_sI (rfl) rfl (by rfl) ⟨by omega, by omega⟩ (Or.inl (by omega)),
  fun s => mk_pI (rfl) rfl ⟨by omega, by omega⟩ (Or.inl (by omega)),
  fun s x => mk_sI (rfl) rfl (by rfl) ⟨by omega, by omega⟩ (Or.inl (by omega)),
  fun s => mk_pI (rfl) rfl ⟨by omega, by omega⟩ (Or.inl (by omega)),
  fun s x => mk_sI (rfl) rfl (by rfl) ⟨by omega, by omega⟩ (Or.inl (by omega)),
  fun s => mk_pI (rfl) rfl ⟨by omega, by omega⟩ (Or.inl (by omega)),
  fun s x => mk_sI (rfl) rfl (by rfl) ⟨by omega, by omega⟩ (Or.inl (by omega)),
  fun s => mk_pI (rfl) rfl ⟨by omega, by omega⟩ (Or.inl (by omega)),
  fun s x => mk_sI (rfl) rfl (by rfl) ⟨by omega, by omega⟩ (Or.inl (by omega)),
  fun s => mk_pI (rfl) rfl ⟨by omega, by omega⟩ (Or.inl (by omega)),
  fun s x => mk_sI (rfl) rfl (by rfl) ⟨by omega, by omega⟩ (Or.inl (by omega)),
  fun s => mk_pR3 (a := 187) (d := 3) (rfl) rfl ⟨by omega, by omega⟩ (Or.inl (by omega)),
  fun s => mk_pR3 (a := 187) (d := 4) (rfl) rfl ⟨by omega, by omega⟩ (Or.inl (by omega)),
  fun s => mk_pR3 (a := 187) (d := 5) (rfl) rfl ⟨by omega, by omega⟩ (Or.inl (by omega)),
  fun s => mk_pR3 (a := 187) (d := 6) (rfl) rfl ⟨by omega, by omega⟩ (Or.inl (by omega)),
  fun s => mk_pR3 (a := 187) (d := 7) (rfl) rfl ⟨by omega, by omega⟩ (Or.inl (by omega)),
  fun s => mk_pR3 (a := 187) (d := 8) (rfl) rfl ⟨by omega, by omega⟩ (Or.inl (by omega)),
  fun s => mk_pR3 (a := 187) (d := 9) (rfl) rfl ⟨by omega, by omega⟩ (Or.inl (by omega)),
  fun s => mk_pR3 (a := 187) (d := 10) (rfl) rfl ⟨by omega, by omega⟩ (Or.inl (by omega)),
  fun s => mk_pR3 (a := 187) (d := 11) (rfl) rfl ⟨by omega, by omega⟩ (Or.inl (by omega)),
  fun s => mk_pR3 (a := 187) (d := 12) (rfl) rfl ⟨by omega, by omega⟩ (Or.inl (by omega)),
  fun s => mk_pR3 (a := 187) (d := 13) (rfl) rfl ⟨by omega, by omega⟩ (Or.inl (by omega)),
  fun s => mk_pR3 (a := 187) (d := 14) (rfl) rfl ⟨by omega, by omega⟩ (Or.inl (by omega)),
  fun s => mk_pR3 (a := 187) (d := 15) (rfl) rfl ⟨by omega, by omega⟩ (Or.inl (by omega)),
  fun s => mk_pR3 (a := 187) (d := 16) (rfl) rfl ⟨by omega, by omega⟩ (Or.inl (by omega)),
  fun s => mk_pR3 (a := 187) (d := 17) (rfl) rfl ⟨by omega, by omega⟩ (Or.inl (by omega)),
  fun s => mk_pR3 (a := 187) (d := 18) (rfl) rfl ⟨by omega, by omega⟩ (Or.inl (by omega)),
  fun s => mk_pR3 (a := 187) (d := 19) (rfl) rfl ⟨by omega, by omega⟩ (Or.inl (by omega)),
  fun s => mk_pR3 (a := 187) (d := 20) (rfl) rfl ⟨by omega, by omega⟩ (Or.inl (by omega)),
  fun s => mk_pR3 (a := 187) (d := 21) (rfl) rfl ⟨by omega, by omega⟩ (Or.inl (by omega)),
  fun s => mk_pR3 (a := 187) (d := 22) (rfl) rfl ⟨by omega, by omega⟩ (Or.inl (by omega)),
  fun s => mk_pR3 (a := 187) (d := 23) (rfl) rfl ⟨by omega, by omega⟩ (Or.inl (by omega)),
  fun s => mk_pR3 (a := 187) (d := 24) (rfl) rfl ⟨by omega, by omega⟩ (Or.inl (by omega)),
  fun s => mk_pR3 (a := 187) (d := 25) (rfl) rfl ⟨by omega, by omega⟩ (Or.inl (by omega)),
  fun s => mk_pR3 (a := 187) (d := 26) (rfl) rfl ⟨by omega, by omega⟩ (Or.inl (by omega)),
  fun s => mk_pR3 (a := 187) (d := 27) (rfl) rfl ⟨by omega, by omega⟩ (Or.inl (by omega)),
  fun s => mk_pR3 (a := 187) (d := 28) (rfl) rfl ⟨by omega, by omega⟩ (Or.inl (by omega)),
  fun s => mk_pR3 (a := 187) (d := 29) (rfl) rfl ⟨by omega, by omega⟩ (Or.inl (by omega)),
  fun s => mk_pI (rfl) rfl ⟨by omega, by omega⟩ (Or.inl (by omega)),
  fun s x => mk_sI (rfl) rfl (by rfl) ⟨by omega, by omega⟩ (Or.inl (by omega)),
  fun s => mk_pI (rfl) rfl ⟨by omega, by omega⟩ (Or.inl (by omega)),
  fun s x => mk_sI (rfl) rfl (by rfl) ⟨by omega, by omega⟩ (Or.inl (by omega)),
  fun s => mk_pI (rfl) rfl ⟨by omega, by omega⟩ (Or.inl (by omega)),
  fun s x => mk_sI (rfl) rfl (by rfl) ⟨by omega, by omega⟩ (Or.inl (by omega)),
  fun s => mk_pI (rfl) rfl ⟨by omega, by omega⟩ (Or.inl (by omega)),
  fun s x => mk_sI (rfl) rfl (by rfl) ⟨by omega, by omega⟩ (Or.inl (by omega)),
  fun s => mk_pI (rfl) rfl ⟨by omega, by omega⟩ (Or.inl (by omega)),
  fun s => mk_sI (rfl) rfl (by rfl) ⟨by omega, by omega⟩ (Or.inl (by omega)),
  fun s => mk_sI (rfl) rfl (by rfl) ⟨by omega, by omega⟩ (Or.inl (by omega)),
  fun s => mk_pI (rfl) rfl ⟨by omega, by omega⟩ (Or.inl (by omega)),
  fun s => mk_sI (rfl) rfl (by rfl) ⟨by omega, by omega⟩ (Or.inl (by omega)),
  fun s => mk_sI (rfl) rfl (by rfl) ⟨by omega, by omega⟩ (Or.inl (by omega)),
  fun s => mk_pR3 (a := 187) (d := 30) (rfl) rfl ⟨by omega, by omega⟩ (Or.inl (by omega)),
  fun s => mk_pR3 (a := 187) (d := 31) (rfl) rfl ⟨by omega, by omega⟩ (Or.inl (by omega)),
  fun s => mk_pI (rfl) rfl ⟨by omega, by omega⟩ (Or.inl (by omega)),
  fun s => mk_sI (rfl) rfl (by rfl) ⟨by omega, by omega⟩ (Or.inl (by omega)),
  fun s => mk_sI (rfl) rfl (by rfl) ⟨by omega, by omega⟩ (Or.inl (by omega)),
  fun s => mk_pR3 (a := 187) (d := 32) (rfl) rfl ⟨by omega, by omega⟩ (Or.inl (by omega)),
  fun s => mk_pR3 (a := 187) (d := 33) (rfl) rfl ⟨by omega, by omega⟩ (Or.inl (by omega)),
  fun s => mk_pR3 (a := 187) (d := 34) (rfl) rfl ⟨by omega, by omega⟩ (Or.inl (by omega)),
  fun s => mk_pR3 (a := 187) (d := 35) (rfl) rfl ⟨by omega, by omega⟩ (Or.inl (by omega)),
  fun s => mk_pR3 (a := 187) (d := 36) (rfl) rfl ⟨by omega, by omega⟩ (Or.inl (by omega)),
  fun s => mk_pR3 (a := 187) (d := 37) (rfl) rfl ⟨by omega, by omega⟩ (Or.inl (by omega)),
  fun s => mk_pR3 (a := 187) (d := 38) (rfl) rfl ⟨by omega, by omega⟩ (Or.inl (by omega)),
  fun s => mk_pR3 (a := 187) (d := 39) (rfl) rfl ⟨by omega, by omega⟩ (Or.inl (by omega)),
  fun s => mk_pJ (rfl) rfl ⟨by omega, by omega⟩ (Or.inl (by omega)),
  fun s x => mk_sJ (rfl) rfl ⟨by omega, by omega⟩ (Or.inl (by omega)),
  fun s => mk_pI (rfl) rfl ⟨by omega, by omega⟩ (Or.inl (by omega)),
  fun s => mk_sI (rfl) rfl (by rfl) ⟨by omega, by omega⟩ (Or.inl (by omega)),
  fun s => mk_sI (rfl) rfl (by rfl) ⟨by omega, by omega⟩ (Or.inl (by omega)),
  fun s => mk_pI (rfl) rfl ⟨by omega, by omega⟩ (Or.inl (by omega)),
  fun s => mk_sI (rfl) rfl (by rfl) ⟨by omega, by omega⟩ (Or.inl (by omega)),
  fun s => mk_sI (rfl) rfl (by rfl) ⟨by omega, by omega⟩ (Or.inl (by omega)),
  fun s => mk_pI (rfl) rfl ⟨by omega, by omega⟩ (Or.inl (by omega)),
  fun s => mk_sI (rfl) rfl (by rfl) ⟨by omega, by omega⟩ (Or.inl (by omega)),
  fun s => mk_sI (rfl) rfl (by rfl) ⟨by omega, by omega⟩ (Or.inl (by omega)),
  fun s => mk_pI (rfl) rfl ⟨by omega, by omega⟩ (Or.inl (by omega)),
  fun s => mk_sI (rfl) rfl (by rfl) ⟨by omega, by omega⟩ (Or.inl (by omega)),
  fun s => mk_sI (rfl) rfl (by rfl) ⟨by omega, by omega⟩ (Or.inl (by omega)),
  fun s => mk_pI (rfl) rfl ⟨by omega, by omega⟩ (Or.inl (by omega)),
  fun s => mk_sI (rfl) rfl (by rfl) ⟨by omega, by omega⟩ (Or.inl (by omega)),
  fun s => mk_sI (rfl) rfl (by rfl) ⟨by omega, by omega⟩ (Or.inl (by omega)),
  fun s => mk_pI (rfl) rfl ⟨by omega, by omega⟩ (Or.inl (by omega)),
  fun s x => mk_sI (rfl) rfl (by rfl) ⟨by omega, by omega⟩ (Or.inl (by omega)),
  fun s => mk_pI (rfl) rfl ⟨by omega, by omega⟩ (Or.inl (by omega)),
  fun s x => mk_sI (rfl) rfl (by rfl) ⟨by omega, by omega⟩ (Or.inl (by omega)),
  fun s => mk_pI (rfl) rfl ⟨by omega, by omega⟩ (Or.inl (by omega)),
  fun s x => mk_sI (rfl) rfl (by rfl) ⟨by omega, by omega⟩ (Or.inl (by omega)),
  fun s => mk_pR3 (a := 187) (d := 40) (rfl) rfl ⟨by omega, by omega⟩ (Or.inl (by omega)),
  fun s => mk_pR3 (a := 187) (d := 41) (rfl) rfl ⟨by omega, by omega⟩ (Or.inl (by omega)),
  fun s => mk_pR3 (a := 187) (d := 42) (rfl) rfl ⟨by omega, by omega⟩ (Or.inl (by omega)),
  fun s => mk_pR3 (a := 187) (d := 43) (rfl) rfl ⟨by omega, by omega⟩ (Or.inl (by omega)),
  fun s => mk_pR3 (a := 187) (d := 44) (rfl) rfl ⟨by omega, by omega⟩ (Or.inl (by omega)),
  fun s => mk_pI (rfl) rfl ⟨by omega, by omega⟩ (Or.inl (by omega)),
  fun s x => mk_sI (rfl) rfl (by rfl) ⟨by omega, by omega⟩ (Or.inl (by omega)),
  fun s => mk_pR3 (a := 187) (d := 45) (rfl) rfl ⟨by omega, by omega⟩ (Or.inl (by omega)),
  fun s => mk_pI (rfl) rfl ⟨by omega, by omega⟩ (Or.inl (by omega)),
  fun s x => mk_sI (rfl) rfl (by rfl) ⟨by omega, by omega⟩ (Or.inl (by omega)),
  fun s => mk_pI (rfl) rfl ⟨by omega, by omega⟩ (Or.inl (by omega)),
  fun s x => mk_sI (rfl) rfl (by rfl) ⟨by omega, by omega⟩ (Or.inl (by omega)),
  fun s => mk_pR3 (a := 187) (d := 46) (rfl) rfl ⟨by omega, by omega⟩ (Or.inl (by omega)),
  fun s => mk_pR3 (a := 187) (d := 47) (rfl) rfl ⟨by omega, by omega⟩ (Or.inl (by omega)),
  fun s => mk_pR3 (a := 187) (d := 48) (rfl) rfl ⟨by omega, by omega⟩ (Or.inl (by omega)),
  fun s => mk_pI (rfl) rfl ⟨by omega, by omega⟩ (Or.inl (by omega)),
  fun s x => mk_sI (rfl) rfl (by rfl) ⟨by omega, by omega⟩ (Or.inl (by omega)),
  fun s => mk_pR3 (a := 187) (d := 49) (rfl) rfl ⟨by omega, by omega⟩ (Or.inl (by omega)),
  fun s => mk_pI (rfl) rfl ⟨by omega, by omega⟩ (Or.inl (by omega)),
  fun s => mk_sI (rfl) rfl (by rfl) ⟨by omega, by omega⟩ (Or.inl (by omega)),
  fun s => mk_sI (rfl) rfl (by rfl) ⟨by omega, by omega⟩ (Or.inl (by omega)),
  fun s => mk_pR3 (a := 187) (d := 50) (rfl) rfl ⟨by omega, by omega⟩ (Or.inl (by omega)),
  fun s => mk_pI (rfl) rfl ⟨by omega, by omega⟩ (Or.inl (by omega)),
  fun s x => mk_sI (rfl) rfl (by rfl) ⟨by omega, by omega⟩ (Or.inl (by omega)),
  fun s => mk_pI (rfl) rfl ⟨by omega, by omega⟩ (Or.inl (by omega)),
  fun s x => mk_sI (rfl) rfl (by rfl) ⟨by omega, by omega⟩ (Or.inl (by omega)),
  fun s => mk_pJ (rfl) rfl ⟨by omega, by omega⟩ (Or.inl (by omega)),
  fun s x => mk_sJ (rfl) rfl ⟨by omega, by omega⟩ (Or.inl (by omega))⟩
set_option maxRecDepth 4000 in
theorem B_ma {n : Nat} (hn : 239 ≤ n) : (∀ (s : zS) (j : Nat), j < 700 → gX 1 n (mk s) 188 (nI j) = some (s.1 (188) j)) ∧
  (∀ (s : zS) (j : Nat) (x : Int32), j < 700 → wX 1 (fun x => x) n (mk s) 188 (nI j) x = some (mk (wI s (188) j x))) ∧
  (∀ s : zS, lA n (mk s) 188 = some (nI 700)) ∧
  (∀ (s : zS) (j : Nat), j < 108 → gX 1 n (mk s) 189 (nI j) = some (s.1 (189) j)) ∧
  (∀ (s : zS) (j : Nat) (x : Int32), j < 108 → wX 1 (fun x => x) n (mk s) 189 (nI j) x = some (mk (wI s (189) j x))) ∧
  (∀ s : zS, lA n (mk s) 189 = some (nI 108)) ∧
  (∀ (s : zS) (j : Nat), j < 3 → gB n (mk s) 190 (nI j) = some (s.1 (190) j)) ∧
  (∀ (s : zS) (j : Nat) (x : Int32), j < 3 → wB n (mk s) 190 (nI j) x = some (mk (wI s (190) j (vp_nar .boolean x)))) ∧
  (∀ s : zS, lA n (mk s) 190 = some (nI 3)) ∧
  (∀ (s : zS) (j : Nat), j < 6 → gX 1 n (mk s) 191 (nI j) = some (s.1 (191) j)) ∧
  (∀ (s : zS) (j : Nat) (x : Int32), j < 6 → wX 1 (fun x => x) n (mk s) 191 (nI j) x = some (mk (wI s (191) j x))) ∧
  (∀ s : zS, lA n (mk s) 191 = some (nI 6)) ∧
  (∀ (s : zS) (j : Nat), j < 14 → gX 1 n (mk s) 192 (nI j) = some (s.1 (192) j)) ∧
  (∀ (s : zS) (j : Nat) (x : Int32), j < 14 → wX 1 (fun x => x) n (mk s) 192 (nI j) x = some (mk (wI s (192) j x))) ∧
  (∀ s : zS, lA n (mk s) 192 = some (nI 14)) ∧
  (∀ (s : zS) (j : Nat), j < 18 → gX 1 n (mk s) 193 (nI j) = some (s.1 (193) j)) ∧
  (∀ (s : zS) (j : Nat) (x : Int32), j < 18 → wX 1 (fun x => x) n (mk s) 193 (nI j) x = some (mk (wI s (193) j x))) ∧
  (∀ s : zS, lA n (mk s) 193 = some (nI 18)) ∧
  (∀ (s : zS) (j : Nat), j < 18 → gX 1 n (mk s) 194 (nI j) = some (s.1 (194) j)) ∧
  (∀ (s : zS) (j : Nat) (x : Int32), j < 18 → wX 1 (fun x => x) n (mk s) 194 (nI j) x = some (mk (wI s (194) j x))) ∧
  (∀ s : zS, lA n (mk s) 194 = some (nI 18)) ∧
  (∀ (s : zS) (j : Nat), j < 18 → gX 1 n (mk s) 195 (nI j) = some (s.1 (195) j)) ∧
  (∀ (s : zS) (j : Nat) (x : Int32), j < 18 → wX 1 (fun x => x) n (mk s) 195 (nI j) x = some (mk (wI s (195) j x))) ∧
  (∀ s : zS, lA n (mk s) 195 = some (nI 18)) ∧
  (∀ (s : zS) (j : Nat), j < 18 → gX 1 n (mk s) 196 (nI j) = some (s.1 (196) j)) ∧
  (∀ (s : zS) (j : Nat) (x : Int32), j < 18 → wX 1 (fun x => x) n (mk s) 196 (nI j) x = some (mk (wI s (196) j x))) ∧
  (∀ s : zS, lA n (mk s) 196 = some (nI 18)) ∧
  (∀ (s : zS) (j : Nat), j < 18 → gX 1 n (mk s) 197 (nI j) = some (s.1 (197) j)) ∧
  (∀ (s : zS) (j : Nat) (x : Int32), j < 18 → wX 1 (fun x => x) n (mk s) 197 (nI j) x = some (mk (wI s (197) j x))) ∧
  (∀ s : zS, lA n (mk s) 197 = some (nI 18)) ∧
  (∀ (s : zS) (j : Nat), j < 18 → gX 1 n (mk s) 198 (nI j) = some (s.1 (198) j)) ∧
  (∀ (s : zS) (j : Nat) (x : Int32), j < 18 → wX 1 (fun x => x) n (mk s) 198 (nI j) x = some (mk (wI s (198) j x))) ∧
  (∀ s : zS, lA n (mk s) 198 = some (nI 18)) ∧
  (∀ (s : zS) (j : Nat), j < 8 → gX 1 n (mk s) 199 (nI j) = some (s.1 (199) j)) ∧
  (∀ (s : zS) (j : Nat) (x : Int32), j < 8 → wX 1 (fun x => x) n (mk s) 199 (nI j) x = some (mk (wI s (199) j x))) ∧
  (∀ s : zS, lA n (mk s) 199 = some (nI 8)) ∧
  (∀ (s : zS) (j : Nat), j < 8 → gX 1 n (mk s) 200 (nI j) = some (s.1 (200) j)) ∧
  (∀ (s : zS) (j : Nat) (x : Int32), j < 8 → wX 1 (fun x => x) n (mk s) 200 (nI j) x = some (mk (wI s (200) j x))) ∧
  (∀ s : zS, lA n (mk s) 200 = some (nI 8)) ∧
  (∀ (s : zS) (j : Nat), j < 8 → gX 1 n (mk s) 201 (nI j) = some (s.1 (201) j)) ∧
  (∀ (s : zS) (j : Nat) (x : Int32), j < 8 → wX 1 (fun x => x) n (mk s) 201 (nI j) x = some (mk (wI s (201) j x))) ∧
  (∀ s : zS, lA n (mk s) 201 = some (nI 8)) ∧
  (∀ (s : zS) (j : Nat), j < 8 → gX 1 n (mk s) 202 (nI j) = some (s.1 (202) j)) ∧
  (∀ (s : zS) (j : Nat) (x : Int32), j < 8 → wX 1 (fun x => x) n (mk s) 202 (nI j) x = some (mk (wI s (202) j x))) ∧
  (∀ s : zS, lA n (mk s) 202 = some (nI 8)) ∧
  (∀ (s : zS) (j : Nat), j < 24 → gX 1 n (mk s) 203 (nI j) = some (s.1 (203) j)) ∧
  (∀ (s : zS) (j : Nat) (x : Int32), j < 24 → wX 1 (fun x => x) n (mk s) 203 (nI j) x = some (mk (wI s (203) j x))) ∧
  (∀ s : zS, lA n (mk s) 203 = some (nI 24)) ∧
  (∀ (s : zS) (j : Nat), j < 24 → gX 1 n (mk s) 204 (nI j) = some (s.1 (204) j)) ∧
  (∀ (s : zS) (j : Nat) (x : Int32), j < 24 → wX 1 (fun x => x) n (mk s) 204 (nI j) x = some (mk (wI s (204) j x))) ∧
  (∀ s : zS, lA n (mk s) 204 = some (nI 24)) ∧
  (∀ (s : zS) (j : Nat), j < 24 → gX 1 n (mk s) 205 (nI j) = some (s.1 (205) j)) ∧
  (∀ (s : zS) (j : Nat) (x : Int32), j < 24 → wX 1 (fun x => x) n (mk s) 205 (nI j) x = some (mk (wI s (205) j x))) ∧
  (∀ s : zS, lA n (mk s) 205 = some (nI 24)) ∧
  (∀ (s : zS) (j : Nat), j < 12 → gX 1 n (mk s) 206 (nI j) = some (s.1 (206) j)) ∧
  (∀ (s : zS) (j : Nat) (x : Int32), j < 12 → wX 1 (fun x => x) n (mk s) 206 (nI j) x = some (mk (wI s (206) j x))) ∧
  (∀ s : zS, lA n (mk s) 206 = some (nI 12)) ∧
  (∀ (s : zS) (j : Nat), j < 12 → gX 1 n (mk s) 207 (nI j) = some (s.1 (207) j)) ∧
  (∀ (s : zS) (j : Nat) (x : Int32), j < 12 → wX 1 (fun x => x) n (mk s) 207 (nI j) x = some (mk (wI s (207) j x))) ∧
  (∀ s : zS, lA n (mk s) 207 = some (nI 12)) ∧
  (∀ (s : zS) (j : Nat), j < 12 → gX 1 n (mk s) 208 (nI j) = some (s.1 (208) j)) ∧
  (∀ (s : zS) (j : Nat) (x : Int32), j < 12 → wX 1 (fun x => x) n (mk s) 208 (nI j) x = some (mk (wI s (208) j x))) ∧
  (∀ s : zS, lA n (mk s) 208 = some (nI 12)) ∧
  (∀ (s : zS) (j : Nat), j < 6 → gB n (mk s) 209 (nI j) = some (s.1 (209) j)) ∧
  (∀ (s : zS) (j : Nat) (x : Int32), j < 6 → wB n (mk s) 209 (nI j) x = some (mk (wI s (209) j (vp_nar .boolean x)))) ∧
  (∀ s : zS, lA n (mk s) 209 = some (nI 6)) ∧
  (∀ (s : zS) (j : Nat), j < 6 → gX 1 n (mk s) 210 (nI j) = some (s.1 (210) j)) ∧
  (∀ (s : zS) (j : Nat) (x : Int32), j < 6 → wX 1 (fun x => x) n (mk s) 210 (nI j) x = some (mk (wI s (210) j x))) ∧
  (∀ s : zS, lA n (mk s) 210 = some (nI 6)) ∧
  (∀ (s : zS) (j : Nat), j < 6 → gX 1 n (mk s) 211 (nI j) = some (s.1 (211) j)) ∧
  (∀ (s : zS) (j : Nat) (x : Int32), j < 6 → wX 1 (fun x => x) n (mk s) 211 (nI j) x = some (mk (wI s (211) j x))) ∧
  (∀ s : zS, lA n (mk s) 211 = some (nI 6)) := ⟨fun s j hj => mk_gX (rfl) ⟨by omega, by omega⟩ (Or.inl (by omega)) hj (by omega),
  fun s j x hj => mk_wX (rfl) ⟨by omega, by omega⟩ (Or.inl (by omega)) hj (by omega),
  fun s => mk_lA (rfl) ⟨by omega, by omega⟩ (Or.inl (by omega)) (by decide) (by decide),
  fun s j hj => mk_gX (rfl) ⟨by omega, by omega⟩ (Or.inl (by omega)) hj (by omega),
  fun s j x hj => mk_wX (rfl) ⟨by omega, by omega⟩ (Or.inl (by omega)) hj (by omega),
  fun s => mk_lA (rfl) ⟨by omega, by omega⟩ (Or.inl (by omega)) (by decide) (by decide),
  fun s j hj => mk_gB3 (rfl) ⟨by omega, by omega⟩ (Or.inl (by omega)) hj (by omega),
  fun s j x hj => mk_wB3 (rfl) ⟨by omega, by omega⟩ (Or.inl (by omega)) hj (by omega),
  fun s => mk_lA (rfl) ⟨by omega, by omega⟩ (Or.inl (by omega)) (by decide) (by decide),
  fun s j hj => mk_gX (rfl) ⟨by omega, by omega⟩ (Or.inl (by omega)) hj (by omega),
  fun s j x hj => mk_wX (rfl) ⟨by omega, by omega⟩ (Or.inl (by omega)) hj (by omega),
  fun s => mk_lA (rfl) ⟨by omega, by omega⟩ (Or.inl (by omega)) (by decide) (by decide),
  fun s j hj => mk_gX (rfl) ⟨by omega, by omega⟩ (Or.inl (by omega)) hj (by omega),
  fun s j x hj => mk_wX (rfl) ⟨by omega, by omega⟩ (Or.inl (by omega)) hj (by omega),
  fun s => mk_lA (rfl) ⟨by omega, by omega⟩ (Or.inl (by omega)) (by decide) (by decide),
  fun s j hj => mk_gX (rfl) ⟨by omega, by omega⟩ (Or.inl (by omega)) hj (by omega),
  fun s j x hj => mk_wX (rfl) ⟨by omega, by omega⟩ (Or.inl (by omega)) hj (by omega),
  fun s => mk_lA (rfl) ⟨by omega, by omega⟩ (Or.inl (by omega)) (by decide) (by decide),
  fun s j hj => mk_gX (rfl) ⟨by omega, by omega⟩ (Or.inl (by omega)) hj (by omega),
  fun s j x hj => mk_wX (rfl) ⟨by omega, by omega⟩ (Or.inl (by omega)) hj (by omega),
  fun s => mk_lA (rfl) ⟨by omega, by omega⟩ (Or.inl (by omega)) (by decide) (by decide),
  fun s j hj => mk_gX (rfl) ⟨by omega, by omega⟩ (Or.inl (by omega)) hj (by omega),
  fun s j x hj => mk_wX (rfl) ⟨by omega, by omega⟩ (Or.inl (by omega)) hj (by omega),
  fun s => mk_lA (rfl) ⟨by omega, by omega⟩ (Or.inl (by omega)) (by decide) (by decide),
  fun s j hj => mk_gX (rfl) ⟨by omega, by omega⟩ (Or.inl (by omega)) hj (by omega),
  fun s j x hj => mk_wX (rfl) ⟨by omega, by omega⟩ (Or.inl (by omega)) hj (by omega),
  fun s => mk_lA (rfl) ⟨by omega, by omega⟩ (Or.inl (by omega)) (by decide) (by decide),
  fun s j hj => mk_gX (rfl) ⟨by omega, by omega⟩ (Or.inl (by omega)) hj (by omega),
  fun s j x hj => mk_wX (rfl) ⟨by omega, by omega⟩ (Or.inl (by omega)) hj (by omega),
  fun s => mk_lA (rfl) ⟨by omega, by omega⟩ (Or.inl (by omega)) (by decide) (by decide),
  fun s j hj => mk_gX (rfl) ⟨by omega, by omega⟩ (Or.inl (by omega)) hj (by omega),
  fun s j x hj => mk_wX (rfl) ⟨by omega, by omega⟩ (Or.inl (by omega)) hj (by omega),
  fun s => mk_lA (rfl) ⟨by omega, by omega⟩ (Or.inl (by omega)) (by decide) (by decide),
  fun s j hj => mk_gX (rfl) ⟨by omega, by omega⟩ (Or.inl (by omega)) hj (by omega),
  fun s j x hj => mk_wX (rfl) ⟨by omega, by omega⟩ (Or.inl (by omega)) hj (by omega),
  fun s => mk_lA (rfl) ⟨by omega, by omega⟩ (Or.inl (by omega)) (by decide) (by decide),
  fun s j hj => mk_gX (rfl) ⟨by omega, by omega⟩ (Or.inl (by omega)) hj (by omega),
  fun s j x hj => mk_wX (rfl) ⟨by omega, by omega⟩ (Or.inl (by omega)) hj (by omega),
  fun s => mk_lA (rfl) ⟨by omega, by omega⟩ (Or.inl (by omega)) (by decide) (by decide),
  fun s j hj => mk_gX (rfl) ⟨by omega, by omega⟩ (Or.inl (by omega)) hj (by omega),
  fun s j x hj => mk_wX (rfl) ⟨by omega, by omega⟩ (Or.inl (by omega)) hj (by omega),
  fun s => mk_lA (rfl) ⟨by omega, by omega⟩ (Or.inl (by omega)) (by decide) (by decide),
  fun s j hj => mk_gX (rfl) ⟨by omega, by omega⟩ (Or.inl (by omega)) hj (by omega),
  fun s j x hj => mk_wX (rfl) ⟨by omega, by omega⟩ (Or.inl (by omega)) hj (by omega),
  fun s => mk_lA (rfl) ⟨by omega, by omega⟩ (Or.inl (by omega)) (by decide) (by decide),
  fun s j hj => mk_gX (rfl) ⟨by omega, by omega⟩ (Or.inl (by omega)) hj (by omega),
  fun s j x hj => mk_wX (rfl) ⟨by omega, by omega⟩ (Or.inl (by omega)) hj (by omega),
  fun s => mk_lA (rfl) ⟨by omega, by omega⟩ (Or.inl (by omega)) (by decide) (by decide),
  fun s j hj => mk_gX (rfl) ⟨by omega, by omega⟩ (Or.inl (by omega)) hj (by omega),
  fun s j x hj => mk_wX (rfl) ⟨by omega, by omega⟩ (Or.inl (by omega)) hj (by omega),
  fun s => mk_lA (rfl) ⟨by omega, by omega⟩ (Or.inl (by omega)) (by decide) (by decide),
  fun s j hj => mk_gX (rfl) ⟨by omega, by omega⟩ (Or.inl (by omega)) hj (by omega),
  fun s j x hj => mk_wX (rfl) ⟨by omega, by omega⟩ (Or.inl (by omega)) hj (by omega),
  fun s => mk_lA (rfl) ⟨by omega, by omega⟩ (Or.inl (by omega)) (by decide) (by decide),
  fun s j hj => mk_gX (rfl) ⟨by omega, by omega⟩ (Or.inl (by omega)) hj (by omega),
  fun s j x hj => mk_wX (rfl) ⟨by omega, by omega⟩ (Or.inl (by omega)) hj (by omega),
  fun s => mk_lA (rfl) ⟨by omega, by omega⟩ (Or.inl (by omega)) (by decide) (by decide),
  fun s j hj => mk_gX (rfl) ⟨by omega, by omega⟩ (Or.inl (by omega)) hj (by omega),
  fun s j x hj => mk_wX (rfl) ⟨by omega, by omega⟩ (Or.inl (by omega)) hj (by omega),
  fun s => mk_lA (rfl) ⟨by omega, by omega⟩ (Or.inl (by omega)) (by decide) (by decide),
  fun s j hj => mk_gX (rfl) ⟨by omega, by omega⟩ (Or.inl (by omega)) hj (by omega),
  fun s j x hj => mk_wX (rfl) ⟨by omega, by omega⟩ (Or.inl (by omega)) hj (by omega),
  fun s => mk_lA (rfl) ⟨by omega, by omega⟩ (Or.inl (by omega)) (by decide) (by decide),
  fun s j hj => mk_gB3 (rfl) ⟨by omega, by omega⟩ (Or.inl (by omega)) hj (by omega),
  fun s j x hj => mk_wB3 (rfl) ⟨by omega, by omega⟩ (Or.inl (by omega)) hj (by omega),
  fun s => mk_lA (rfl) ⟨by omega, by omega⟩ (Or.inl (by omega)) (by decide) (by decide),
  fun s j hj => mk_gX (rfl) ⟨by omega, by omega⟩ (Or.inl (by omega)) hj (by omega),
  fun s j x hj => mk_wX (rfl) ⟨by omega, by omega⟩ (Or.inl (by omega)) hj (by omega),
  fun s => mk_lA (rfl) ⟨by omega, by omega⟩ (Or.inl (by omega)) (by decide) (by decide),
  fun s j hj => mk_gX (rfl) ⟨by omega, by omega⟩ (Or.inl (by omega)) hj (by omega),
  fun s j x hj => mk_wX (rfl) ⟨by omega, by omega⟩ (Or.inl (by omega)) hj (by omega),
  fun s => mk_lA (rfl) ⟨by omega, by omega⟩ (Or.inl (by omega)) (by decide) (by decide)⟩
set_option maxRecDepth 4000 in
theorem B_mb {n : Nat} (hn : 239 ≤ n) : (∀ (s : zS) (j : Nat), j < 128 → gX 1 n (mk s) 212 (nI j) = some (s.1 (212) j)) ∧
  (∀ (s : zS) (j : Nat) (x : Int32), j < 128 → wX 1 (fun x => x) n (mk s) 212 (nI j) x = some (mk (wI s (212) j x))) ∧
  (∀ s : zS, lA n (mk s) 212 = some (nI 128)) ∧
  (∀ (s : zS) (j : Nat), j < 128 → gX 1 n (mk s) 213 (nI j) = some (s.1 (213) j)) ∧
  (∀ (s : zS) (j : Nat) (x : Int32), j < 128 → wX 1 (fun x => x) n (mk s) 213 (nI j) x = some (mk (wI s (213) j x))) ∧
  (∀ s : zS, lA n (mk s) 213 = some (nI 128)) ∧
  (∀ (s : zS) (j : Nat), j < 128 → gX 1 n (mk s) 214 (nI j) = some (s.1 (214) j)) ∧
  (∀ (s : zS) (j : Nat) (x : Int32), j < 128 → wX 1 (fun x => x) n (mk s) 214 (nI j) x = some (mk (wI s (214) j x))) ∧
  (∀ s : zS, lA n (mk s) 214 = some (nI 128)) ∧
  (∀ (s : zS) (j : Nat), j < 96 → gX 1 n (mk s) 215 (nI j) = some (s.1 (215) j)) ∧
  (∀ (s : zS) (j : Nat) (x : Int32), j < 96 → wX 1 (fun x => x) n (mk s) 215 (nI j) x = some (mk (wI s (215) j x))) ∧
  (∀ s : zS, lA n (mk s) 215 = some (nI 96)) ∧
  (∀ (s : zS) (j : Nat), j < 96 → gX 1 n (mk s) 216 (nI j) = some (s.1 (216) j)) ∧
  (∀ (s : zS) (j : Nat) (x : Int32), j < 96 → wX 1 (fun x => x) n (mk s) 216 (nI j) x = some (mk (wI s (216) j x))) ∧
  (∀ s : zS, lA n (mk s) 216 = some (nI 96)) ∧
  (∀ (s : zS) (j : Nat), j < 7 → gJ n (mk s) 217 (nI j) = some (s.2.1 (217) j)) ∧
  (∀ (s : zS) (j : Nat) (x : Int64), j < 7 → wJ n (mk s) 217 (nI j) x = some (mk (wL s (217) j x))) ∧
  (∀ (s : zS) (j : Nat), j < 64 → gJ n (mk s) 218 (nI j) = some (s.2.1 (218) j)) ∧
  (∀ (s : zS) (j : Nat) (x : Int64), j < 64 → wJ n (mk s) 218 (nI j) x = some (mk (wL s (218) j x))) ∧
  (∀ (s : zS) (j : Nat), j < 8 → gX 1 n (mk s) 219 (nI j) = some (s.1 (219) j)) ∧
  (∀ (s : zS) (j : Nat) (x : Int32), j < 8 → wX 1 (fun x => x) n (mk s) 219 (nI j) x = some (mk (wI s (219) j x))) ∧
  (∀ s : zS, lA n (mk s) 219 = some (nI 8)) ∧
  (∀ (s : zS) (j : Nat), j < 8 → gX 1 n (mk s) 220 (nI j) = some (s.1 (220) j)) ∧
  (∀ (s : zS) (j : Nat) (x : Int32), j < 8 → wX 1 (fun x => x) n (mk s) 220 (nI j) x = some (mk (wI s (220) j x))) ∧
  (∀ s : zS, lA n (mk s) 220 = some (nI 8)) ∧
  (∀ (s : zS) (j : Nat), j < 18 → gX 1 n (mk s) 221 (nI j) = some (s.1 (221) j)) ∧
  (∀ (s : zS) (j : Nat) (x : Int32), j < 18 → wX 1 (fun x => x) n (mk s) 221 (nI j) x = some (mk (wI s (221) j x))) ∧
  (∀ s : zS, lA n (mk s) 221 = some (nI 18)) ∧
  (∀ (s : zS) (j : Nat), j < 18 → gB n (mk s) 222 (nI j) = some (s.1 (222) j)) ∧
  (∀ (s : zS) (j : Nat) (x : Int32), j < 18 → wB n (mk s) 222 (nI j) x = some (mk (wI s (222) j (vp_nar .boolean x)))) ∧
  (∀ s : zS, lA n (mk s) 222 = some (nI 18)) ∧
  (∀ (s : zS) (j : Nat), j < 18 → gX 1 n (mk s) 223 (nI j) = some (s.1 (223) j)) ∧
  (∀ (s : zS) (j : Nat) (x : Int32), j < 18 → wX 1 (fun x => x) n (mk s) 223 (nI j) x = some (mk (wI s (223) j x))) ∧
  (∀ s : zS, lA n (mk s) 223 = some (nI 18)) ∧
  (∀ (s : zS) (j : Nat), j < 2 → gX 1 n (mk s) 224 (nI j) = some (s.1 (224) j)) ∧
  (∀ (s : zS) (j : Nat) (x : Int32), j < 2 → wX 1 (fun x => x) n (mk s) 224 (nI j) x = some (mk (wI s (224) j x))) ∧
  (∀ s : zS, lA n (mk s) 224 = some (nI 2)) ∧
  (∀ (s : zS) (j : Nat), j < 2 → gX 1 n (mk s) 225 (nI j) = some (s.1 (225) j)) ∧
  (∀ (s : zS) (j : Nat) (x : Int32), j < 2 → wX 1 (fun x => x) n (mk s) 225 (nI j) x = some (mk (wI s (225) j x))) ∧
  (∀ s : zS, lA n (mk s) 225 = some (nI 2)) := ⟨fun s j hj => mk_gX (rfl) ⟨by omega, by omega⟩ (Or.inl (by omega)) hj (by omega),
  fun s j x hj => mk_wX (rfl) ⟨by omega, by omega⟩ (Or.inl (by omega)) hj (by omega),
  fun s => mk_lA (rfl) ⟨by omega, by omega⟩ (Or.inl (by omega)) (by decide) (by decide),
  fun s j hj => mk_gX (rfl) ⟨by omega, by omega⟩ (Or.inl (by omega)) hj (by omega),
  fun s j x hj => mk_wX (rfl) ⟨by omega, by omega⟩ (Or.inl (by omega)) hj (by omega),
  fun s => mk_lA (rfl) ⟨by omega, by omega⟩ (Or.inl (by omega)) (by decide) (by decide),
  fun s j hj => mk_gX (rfl) ⟨by omega, by omega⟩ (Or.inl (by omega)) hj (by omega),
  fun s j x hj => mk_wX (rfl) ⟨by omega, by omega⟩ (Or.inl (by omega)) hj (by omega),
  fun s => mk_lA (rfl) ⟨by omega, by omega⟩ (Or.inl (by omega)) (by decide) (by decide),
  fun s j hj => mk_gX (rfl) ⟨by omega, by omega⟩ (Or.inl (by omega)) hj (by omega),
  fun s j x hj => mk_wX (rfl) ⟨by omega, by omega⟩ (Or.inl (by omega)) hj (by omega),
  fun s => mk_lA (rfl) ⟨by omega, by omega⟩ (Or.inl (by omega)) (by decide) (by decide),
  fun s j hj => mk_gX (rfl) ⟨by omega, by omega⟩ (Or.inl (by omega)) hj (by omega),
  fun s j x hj => mk_wX (rfl) ⟨by omega, by omega⟩ (Or.inl (by omega)) hj (by omega),
  fun s => mk_lA (rfl) ⟨by omega, by omega⟩ (Or.inl (by omega)) (by decide) (by decide),
  fun s j hj => mk_gJ (rfl) ⟨by omega, by omega⟩ (Or.inl (by omega)) hj (by omega),
  fun s j x hj => mk_wJ (rfl) ⟨by omega, by omega⟩ (Or.inl (by omega)) hj (by omega),
  fun s j hj => mk_gJ (rfl) ⟨by omega, by omega⟩ (Or.inl (by omega)) hj (by omega),
  fun s j x hj => mk_wJ (rfl) ⟨by omega, by omega⟩ (Or.inl (by omega)) hj (by omega),
  fun s j hj => mk_gX (rfl) ⟨by omega, by omega⟩ (Or.inl (by omega)) hj (by omega),
  fun s j x hj => mk_wX (rfl) ⟨by omega, by omega⟩ (Or.inl (by omega)) hj (by omega),
  fun s => mk_lA (rfl) ⟨by omega, by omega⟩ (Or.inl (by omega)) (by decide) (by decide),
  fun s j hj => mk_gX (rfl) ⟨by omega, by omega⟩ (Or.inl (by omega)) hj (by omega),
  fun s j x hj => mk_wX (rfl) ⟨by omega, by omega⟩ (Or.inl (by omega)) hj (by omega),
  fun s => mk_lA (rfl) ⟨by omega, by omega⟩ (Or.inl (by omega)) (by decide) (by decide),
  fun s j hj => mk_gX (rfl) ⟨by omega, by omega⟩ (Or.inl (by omega)) hj (by omega),
  fun s j x hj => mk_wX (rfl) ⟨by omega, by omega⟩ (Or.inl (by omega)) hj (by omega),
  fun s => mk_lA (rfl) ⟨by omega, by omega⟩ (Or.inl (by omega)) (by decide) (by decide),
  fun s j hj => mk_gB3 (rfl) ⟨by omega, by omega⟩ (Or.inl (by omega)) hj (by omega),
  fun s j x hj => mk_wB3 (rfl) ⟨by omega, by omega⟩ (Or.inl (by omega)) hj (by omega),
  fun s => mk_lA (rfl) ⟨by omega, by omega⟩ (Or.inl (by omega)) (by decide) (by decide),
  fun s j hj => mk_gX (rfl) ⟨by omega, by omega⟩ (Or.inl (by omega)) hj (by omega),
  fun s j x hj => mk_wX (rfl) ⟨by omega, by omega⟩ (Or.inl (by omega)) hj (by omega),
  fun s => mk_lA (rfl) ⟨by omega, by omega⟩ (Or.inl (by omega)) (by decide) (by decide),
  fun s j hj => mk_gX (rfl) ⟨by omega, by omega⟩ (Or.inl (by omega)) hj (by omega),
  fun s j x hj => mk_wX (rfl) ⟨by omega, by omega⟩ (Or.inl (by omega)) hj (by omega),
  fun s => mk_lA (rfl) ⟨by omega, by omega⟩ (Or.inl (by omega)) (by decide) (by decide),
  fun s j hj => mk_gX (rfl) ⟨by omega, by omega⟩ (Or.inl (by omega)) hj (by omega),
  fun s j x hj => mk_wX (rfl) ⟨by omega, by omega⟩ (Or.inl (by omega)) hj (by omega),
  fun s => mk_lA (rfl) ⟨by omega, by omega⟩ (Or.inl (by omega)) (by decide) (by decide)⟩
set_option maxRecDepth 4000 in
theorem B_mc {n : Nat} (hn : 239 ≤ n) : (∀ (s : zS) (j : Nat), j < 2 → gX 1 n (mk s) 226 (nI j) = some (s.1 (226) j)) ∧
  (∀ (s : zS) (j : Nat) (x : Int32), j < 2 → wX 1 (fun x => x) n (mk s) 226 (nI j) x = some (mk (wI s (226) j x))) ∧
  (∀ s : zS, lA n (mk s) 226 = some (nI 2)) ∧
  (∀ (s : zS) (j : Nat), j < 3584 → gX 1 n (mk s) 227 (nI j) = some (s.1 (227) j)) ∧
  (∀ (s : zS) (j : Nat) (x : Int32), j < 3584 → wX 1 (fun x => x) n (mk s) 227 (nI j) x = some (mk (wI s (227) j x))) ∧
  (∀ s : zS, lA n (mk s) 227 = some (nI 3584)) ∧
  (∀ (s : zS) (j : Nat), j < 3584 → gB n (mk s) 228 (nI j) = some (s.1 (228) j)) ∧
  (∀ (s : zS) (j : Nat) (x : Int32), j < 3584 → wB n (mk s) 228 (nI j) x = some (mk (wI s (228) j (vp_nar .boolean x)))) ∧
  (∀ s : zS, lA n (mk s) 228 = some (nI 3584)) ∧
  (∀ (s : zS) (j : Nat), j < 7 → gX 1 n (mk s) 229 (nI j) = some (s.1 (229) j)) ∧
  (∀ (s : zS) (j : Nat) (x : Int32), j < 7 → wX 1 (fun x => x) n (mk s) 229 (nI j) x = some (mk (wI s (229) j x))) ∧
  (∀ s : zS, lA n (mk s) 229 = some (nI 7)) ∧
  (∀ (s : zS) (j : Nat), j < 4 → gX 1 n (mk s) 230 (nI j) = some (s.1 (230) j)) ∧
  (∀ (s : zS) (j : Nat) (x : Int32), j < 4 → wX 1 (fun x => x) n (mk s) 230 (nI j) x = some (mk (wI s (230) j x))) ∧
  (∀ s : zS, lA n (mk s) 230 = some (nI 4)) ∧
  (∀ (s : zS) (j : Nat), j < 9 → gX 1 n (mk s) 231 (nI j) = some (s.1 (231) j)) ∧
  (∀ (s : zS) (j : Nat) (x : Int32), j < 9 → wX 1 (fun x => x) n (mk s) 231 (nI j) x = some (mk (wI s (231) j x))) ∧
  (∀ s : zS, lA n (mk s) 231 = some (nI 9)) ∧
  (∀ (s : zS) (j : Nat), j < 19683 → gB n (mk s) 232 (nI j) = some (s.1 (232) j)) ∧
  (∀ (s : zS) (j : Nat) (x : Int32), j < 19683 → wB n (mk s) 232 (nI j) x = some (mk (wI s (232) j (vp_nar .boolean x)))) ∧
  (∀ s : zS, lA n (mk s) 232 = some (nI 19683)) ∧
  (∀ (s : zS) (j : Nat), j < 96 → gX 1 n (mk s) 233 (nI j) = some (s.1 (233) j)) ∧
  (∀ (s : zS) (j : Nat) (x : Int32), j < 96 → wX 1 (fun x => x) n (mk s) 233 (nI j) x = some (mk (wI s (233) j x))) ∧
  (∀ s : zS, lA n (mk s) 233 = some (nI 96)) ∧
  (∀ (s : zS) (j : Nat), j < 24 → gB n (mk s) 234 (nI j) = some (s.1 (234) j)) ∧
  (∀ (s : zS) (j : Nat) (x : Int32), j < 24 → wB n (mk s) 234 (nI j) x = some (mk (wI s (234) j (vp_nar .boolean x)))) ∧
  (∀ s : zS, lA n (mk s) 234 = some (nI 24)) ∧
  (∀ (s : zS) (j : Nat), j < 7 → gX 1 n (mk s) 235 (nI j) = some (s.1 (235) j)) ∧
  (∀ (s : zS) (j : Nat) (x : Int32), j < 7 → wX 1 (fun x => x) n (mk s) 235 (nI j) x = some (mk (wI s (235) j x))) ∧
  (∀ s : zS, lA n (mk s) 235 = some (nI 7)) ∧
  (∀ (s : zS) (j : Nat), j < 720 → gX 1 n (mk s) 236 (nI j) = some (s.1 (236) j)) ∧
  (∀ (s : zS) (j : Nat) (x : Int32), j < 720 → wX 1 (fun x => x) n (mk s) 236 (nI j) x = some (mk (wI s (236) j x))) ∧
  (∀ s : zS, lA n (mk s) 236 = some (nI 720)) ∧
  (∀ (s : zS) (j : Nat), j < 36 → gX 1 n (mk s) 237 (nI j) = some (s.1 (237) j)) ∧
  (∀ (s : zS) (j : Nat) (x : Int32), j < 36 → wX 1 (fun x => x) n (mk s) 237 (nI j) x = some (mk (wI s (237) j x))) ∧
  (∀ s : zS, lA n (mk s) 237 = some (nI 36)) := ⟨fun s j hj => mk_gX (rfl) ⟨by omega, by omega⟩ (Or.inl (by omega)) hj (by omega),
  fun s j x hj => mk_wX (rfl) ⟨by omega, by omega⟩ (Or.inl (by omega)) hj (by omega),
  fun s => mk_lA (rfl) ⟨by omega, by omega⟩ (Or.inl (by omega)) (by decide) (by decide),
  fun s j hj => mk_gX (rfl) ⟨by omega, by omega⟩ (Or.inl (by omega)) hj (by omega),
  fun s j x hj => mk_wX (rfl) ⟨by omega, by omega⟩ (Or.inl (by omega)) hj (by omega),
  fun s => mk_lA (rfl) ⟨by omega, by omega⟩ (Or.inl (by omega)) (by decide) (by decide),
  fun s j hj => mk_gB3 (rfl) ⟨by omega, by omega⟩ (Or.inl (by omega)) hj (by omega),
  fun s j x hj => mk_wB3 (rfl) ⟨by omega, by omega⟩ (Or.inl (by omega)) hj (by omega),
  fun s => mk_lA (rfl) ⟨by omega, by omega⟩ (Or.inl (by omega)) (by decide) (by decide),
  fun s j hj => mk_gX (rfl) ⟨by omega, by omega⟩ (Or.inl (by omega)) hj (by omega),
  fun s j x hj => mk_wX (rfl) ⟨by omega, by omega⟩ (Or.inl (by omega)) hj (by omega),
  fun s => mk_lA (rfl) ⟨by omega, by omega⟩ (Or.inl (by omega)) (by decide) (by decide),
  fun s j hj => mk_gX (rfl) ⟨by omega, by omega⟩ (Or.inl (by omega)) hj (by omega),
  fun s j x hj => mk_wX (rfl) ⟨by omega, by omega⟩ (Or.inl (by omega)) hj (by omega),
  fun s => mk_lA (rfl) ⟨by omega, by omega⟩ (Or.inl (by omega)) (by decide) (by decide),
  fun s j hj => mk_gX (rfl) ⟨by omega, by omega⟩ (Or.inl (by omega)) hj (by omega),
  fun s j x hj => mk_wX (rfl) ⟨by omega, by omega⟩ (Or.inl (by omega)) hj (by omega),
  fun s => mk_lA (rfl) ⟨by omega, by omega⟩ (Or.inl (by omega)) (by decide) (by decide),
  fun s j hj => mk_gB3 (rfl) ⟨by omega, by omega⟩ (Or.inl (by omega)) hj (by omega),
  fun s j x hj => mk_wB3 (rfl) ⟨by omega, by omega⟩ (Or.inl (by omega)) hj (by omega),
  fun s => mk_lA (rfl) ⟨by omega, by omega⟩ (Or.inl (by omega)) (by decide) (by decide),
  fun s j hj => mk_gX (rfl) ⟨by omega, by omega⟩ (Or.inl (by omega)) hj (by omega),
  fun s j x hj => mk_wX (rfl) ⟨by omega, by omega⟩ (Or.inl (by omega)) hj (by omega),
  fun s => mk_lA (rfl) ⟨by omega, by omega⟩ (Or.inl (by omega)) (by decide) (by decide),
  fun s j hj => mk_gB3 (rfl) ⟨by omega, by omega⟩ (Or.inl (by omega)) hj (by omega),
  fun s j x hj => mk_wB3 (rfl) ⟨by omega, by omega⟩ (Or.inl (by omega)) hj (by omega),
  fun s => mk_lA (rfl) ⟨by omega, by omega⟩ (Or.inl (by omega)) (by decide) (by decide),
  fun s j hj => mk_gX (rfl) ⟨by omega, by omega⟩ (Or.inl (by omega)) hj (by omega),
  fun s j x hj => mk_wX (rfl) ⟨by omega, by omega⟩ (Or.inl (by omega)) hj (by omega),
  fun s => mk_lA (rfl) ⟨by omega, by omega⟩ (Or.inl (by omega)) (by decide) (by decide),
  fun s j hj => mk_gX (rfl) ⟨by omega, by omega⟩ (Or.inl (by omega)) hj (by omega),
  fun s j x hj => mk_wX (rfl) ⟨by omega, by omega⟩ (Or.inl (by omega)) hj (by omega),
  fun s => mk_lA (rfl) ⟨by omega, by omega⟩ (Or.inl (by omega)) (by decide) (by decide),
  fun s j hj => mk_gX (rfl) ⟨by omega, by omega⟩ (Or.inl (by omega)) hj (by omega),
  fun s j x hj => mk_wX (rfl) ⟨by omega, by omega⟩ (Or.inl (by omega)) hj (by omega),
  fun s => mk_lA (rfl) ⟨by omega, by omega⟩ (Or.inl (by omega)) (by decide) (by decide)⟩
set_option maxRecDepth 4000 in
theorem B_t {n : Nat} {t : Nat} (hn : 239 ≤ n) (ht : t = 6 ∨ t = 29) : (∀ s : zS, kO n (mk s) t 8 = some ()) ∧
  (∀ s : zS, pR n (mk s) t 8 0 = some (t + 1)) ∧
  (∀ s : zS, pR n (mk s) t 8 1 = some (t + 4)) ∧
  (∀ s : zS, pR n (mk s) t 8 2 = some (t + 7)) ∧
  (∀ s : zS, pR n (mk s) t 8 3 = some (t + 10)) ∧
  (∀ s : zS, pR n (mk s) t 8 4 = some (t + 13)) ∧
  (∀ s : zS, pR n (mk s) t 8 5 = some (t + 16)) ∧
  (∀ s : zS, pI n (mk s) t 8 6 = some (s.1 (t) 6)) ∧
  (∀ (s : zS) (x : Int32), sF n (mk s) t 8 6 .int (.int x) = some (mk (wI s (t) 6 x))) ∧
  (∀ s : zS, pI n (mk s) t 8 7 = some (s.1 (t) 7)) ∧
  (∀ (s : zS) (x : Int32), sF n (mk s) t 8 7 .int (.int x) = some (mk (wI s (t) 7 x))) ∧
  (∀ s : zS, pI n (mk s) t 8 8 = some (s.1 (t) 8)) ∧
  (∀ (s : zS) (x : Int32), sF n (mk s) t 8 8 .int (.int x) = some (mk (wI s (t) 8 x))) ∧
  (∀ s : zS, pI n (mk s) t 8 9 = some (s.1 (t) 9)) ∧
  (∀ (s : zS) (x : Int32), sF n (mk s) t 8 9 .int (.int x) = some (mk (wI s (t) 9 x))) ∧
  (∀ s : zS, kO n (mk s) (t + 1) 6 = some ()) ∧
  (∀ s : zS, pI n (mk s) (t + 1) 6 0 = some (nI 7)) ∧
  (∀ s : zS, pI n (mk s) (t + 1) 6 1 = some (nI 0)) ∧
  (∀ s : zS, pR n (mk s) (t + 1) 6 2 = some (t + 2)) ∧
  (∀ s : zS, pR n (mk s) (t + 1) 6 3 = some (t + 3)) ∧
  (∀ s : zS, pI n (mk s) (t + 1) 6 4 = some (s.1 ((t + 1)) 4)) ∧
  (∀ (s : zS) (x : Int32), sF n (mk s) (t + 1) 6 4 .int (.int x) = some (mk (wI s ((t + 1)) 4 x))) ∧
  (∀ s : zS, kO n (mk s) (t + 4) 6 = some ()) ∧
  (∀ s : zS, pI n (mk s) (t + 4) 6 0 = some (nI 9)) ∧
  (∀ s : zS, pI n (mk s) (t + 4) 6 1 = some (nI 5)) ∧
  (∀ s : zS, pR n (mk s) (t + 4) 6 2 = some (t + 5)) ∧
  (∀ s : zS, pR n (mk s) (t + 4) 6 3 = some (t + 6)) ∧
  (∀ s : zS, pI n (mk s) (t + 4) 6 4 = some (s.1 ((t + 4)) 4)) ∧
  (∀ (s : zS) (x : Int32), sF n (mk s) (t + 4) 6 4 .int (.int x) = some (mk (wI s ((t + 4)) 4 x))) ∧
  (∀ s : zS, kO n (mk s) (t + 7) 6 = some ()) ∧
  (∀ s : zS, pI n (mk s) (t + 7) 6 0 = some (nI 4)) ∧
  (∀ s : zS, pI n (mk s) (t + 7) 6 1 = some (nI 3)) ∧
  (∀ s : zS, pR n (mk s) (t + 7) 6 2 = some (t + 8)) ∧
  (∀ s : zS, pR n (mk s) (t + 7) 6 3 = some (t + 9)) ∧
  (∀ s : zS, pI n (mk s) (t + 7) 6 4 = some (s.1 ((t + 7)) 4)) ∧
  (∀ (s : zS) (x : Int32), sF n (mk s) (t + 7) 6 4 .int (.int x) = some (mk (wI s ((t + 7)) 4 x))) ∧
  (∀ s : zS, kO n (mk s) (t + 10) 6 = some ()) ∧
  (∀ s : zS, pI n (mk s) (t + 10) 6 0 = some (nI 12)) ∧
  (∀ s : zS, pI n (mk s) (t + 10) 6 1 = some (nI 3)) ∧
  (∀ s : zS, pR n (mk s) (t + 10) 6 2 = some (t + 11)) ∧
  (∀ s : zS, pR n (mk s) (t + 10) 6 3 = some (t + 12)) ∧
  (∀ s : zS, pI n (mk s) (t + 10) 6 4 = some (s.1 ((t + 10)) 4)) ∧
  (∀ (s : zS) (x : Int32), sF n (mk s) (t + 10) 6 4 .int (.int x) = some (mk (wI s ((t + 10)) 4 x))) ∧
  (∀ s : zS, kO n (mk s) (t + 13) 6 = some ()) ∧
  (∀ s : zS, pI n (mk s) (t + 13) 6 0 = some (nI 6)) ∧
  (∀ s : zS, pI n (mk s) (t + 13) 6 1 = some (nI 3)) ∧
  (∀ s : zS, pR n (mk s) (t + 13) 6 2 = some (t + 14)) ∧
  (∀ s : zS, pR n (mk s) (t + 13) 6 3 = some (t + 15)) ∧
  (∀ s : zS, pI n (mk s) (t + 13) 6 4 = some (s.1 ((t + 13)) 4)) ∧
  (∀ (s : zS) (x : Int32), sF n (mk s) (t + 13) 6 4 .int (.int x) = some (mk (wI s ((t + 13)) 4 x))) ∧
  (∀ s : zS, kO n (mk s) (t + 16) 2 = some ()) ∧
  (∀ s : zS, pR n (mk s) (t + 16) 2 0 = some (t + 17)) ∧
  (∀ s : zS, pR n (mk s) (t + 16) 2 1 = some (t + 18)) ∧
  (∀ s : zS, pR n (mk s) (t + 16) 2 2 = some (t + 19)) ∧
  (∀ s : zS, pR n (mk s) (t + 16) 2 3 = some (t + 20)) ∧
  (∀ s : zS, pI n (mk s) (t + 16) 2 4 = some (s.1 ((t + 16)) 4)) ∧
  (∀ (s : zS) (x : Int32), sF n (mk s) (t + 16) 2 4 .int (.int x) = some (mk (wI s ((t + 16)) 4 x))) ∧
  (∀ s : zS, pI n (mk s) (t + 16) 2 5 = some (s.1 ((t + 16)) 5)) ∧
  (∀ (s : zS) (x : Int32), sF n (mk s) (t + 16) 2 5 .int (.int x) = some (mk (wI s ((t + 16)) 5 x))) ∧
  (∀ s : zS, pR n (mk s) (t + 16) 2 6 = some (t + 21)) ∧
  (∀ s : zS, pR n (mk s) (t + 16) 2 7 = some (t + 22)) ∧
  (∀ (s : zS) (j : Nat), j < 7 → gX 1 n (mk s) ((t + 2)) (nI j) = some (s.1 ((t + 2)) j)) ∧
  (∀ (s : zS) (j : Nat) (x : Int32), j < 7 → wX 1 (fun x => x) n (mk s) ((t + 2)) (nI j) x = some (mk (wI s ((t + 2)) j x))) ∧
  (∀ s : zS, lA n (mk s) ((t + 2)) = some (nI 7)) ∧
  (∀ (s : zS) (j : Nat), j < 0 → gX 1 n (mk s) ((t + 3)) (nI j) = some (s.1 ((t + 3)) j)) ∧
  (∀ (s : zS) (j : Nat) (x : Int32), j < 0 → wX 1 (fun x => x) n (mk s) ((t + 3)) (nI j) x = some (mk (wI s ((t + 3)) j x))) ∧
  (∀ s : zS, lA n (mk s) ((t + 3)) = some (nI 0)) ∧
  (∀ (s : zS) (j : Nat), j < 9 → gX 1 n (mk s) ((t + 5)) (nI j) = some (s.1 ((t + 5)) j)) ∧
  (∀ (s : zS) (j : Nat) (x : Int32), j < 9 → wX 1 (fun x => x) n (mk s) ((t + 5)) (nI j) x = some (mk (wI s ((t + 5)) j x))) ∧
  (∀ s : zS, lA n (mk s) ((t + 5)) = some (nI 9)) ∧
  (∀ (s : zS) (j : Nat), j < 45 → gX 1 n (mk s) ((t + 6)) (nI j) = some (s.1 ((t + 6)) j)) ∧
  (∀ (s : zS) (j : Nat) (x : Int32), j < 45 → wX 1 (fun x => x) n (mk s) ((t + 6)) (nI j) x = some (mk (wI s ((t + 6)) j x))) ∧
  (∀ s : zS, lA n (mk s) ((t + 6)) = some (nI 45)) ∧
  (∀ (s : zS) (j : Nat), j < 4 → gX 1 n (mk s) ((t + 8)) (nI j) = some (s.1 ((t + 8)) j)) ∧
  (∀ (s : zS) (j : Nat) (x : Int32), j < 4 → wX 1 (fun x => x) n (mk s) ((t + 8)) (nI j) x = some (mk (wI s ((t + 8)) j x))) ∧
  (∀ s : zS, lA n (mk s) ((t + 8)) = some (nI 4)) ∧
  (∀ (s : zS) (j : Nat), j < 12 → gX 1 n (mk s) ((t + 9)) (nI j) = some (s.1 ((t + 9)) j)) ∧
  (∀ (s : zS) (j : Nat) (x : Int32), j < 12 → wX 1 (fun x => x) n (mk s) ((t + 9)) (nI j) x = some (mk (wI s ((t + 9)) j x))) ∧
  (∀ s : zS, lA n (mk s) ((t + 9)) = some (nI 12)) ∧
  (∀ (s : zS) (j : Nat), j < 12 → gX 1 n (mk s) ((t + 11)) (nI j) = some (s.1 ((t + 11)) j)) ∧
  (∀ (s : zS) (j : Nat) (x : Int32), j < 12 → wX 1 (fun x => x) n (mk s) ((t + 11)) (nI j) x = some (mk (wI s ((t + 11)) j x))) ∧
  (∀ s : zS, lA n (mk s) ((t + 11)) = some (nI 12)) ∧
  (∀ (s : zS) (j : Nat), j < 36 → gX 1 n (mk s) ((t + 12)) (nI j) = some (s.1 ((t + 12)) j)) ∧
  (∀ (s : zS) (j : Nat) (x : Int32), j < 36 → wX 1 (fun x => x) n (mk s) ((t + 12)) (nI j) x = some (mk (wI s ((t + 12)) j x))) ∧
  (∀ s : zS, lA n (mk s) ((t + 12)) = some (nI 36)) ∧
  (∀ (s : zS) (j : Nat), j < 6 → gX 1 n (mk s) ((t + 14)) (nI j) = some (s.1 ((t + 14)) j)) ∧
  (∀ (s : zS) (j : Nat) (x : Int32), j < 6 → wX 1 (fun x => x) n (mk s) ((t + 14)) (nI j) x = some (mk (wI s ((t + 14)) j x))) ∧
  (∀ s : zS, lA n (mk s) ((t + 14)) = some (nI 6)) ∧
  (∀ (s : zS) (j : Nat), j < 18 → gX 1 n (mk s) ((t + 15)) (nI j) = some (s.1 ((t + 15)) j)) ∧
  (∀ (s : zS) (j : Nat) (x : Int32), j < 18 → wX 1 (fun x => x) n (mk s) ((t + 15)) (nI j) x = some (mk (wI s ((t + 15)) j x))) ∧
  (∀ s : zS, lA n (mk s) ((t + 15)) = some (nI 18)) ∧
  (∀ (s : zS) (j : Nat), j < 3 → gX 1 n (mk s) ((t + 17)) (nI j) = some (s.1 ((t + 17)) j)) ∧
  (∀ (s : zS) (j : Nat) (x : Int32), j < 3 → wX 1 (fun x => x) n (mk s) ((t + 17)) (nI j) x = some (mk (wI s ((t + 17)) j x))) ∧
  (∀ s : zS, lA n (mk s) ((t + 17)) = some (nI 3)) ∧
  (∀ (s : zS) (j : Nat), j < 3 → gX 1 n (mk s) ((t + 18)) (nI j) = some (s.1 ((t + 18)) j)) ∧
  (∀ (s : zS) (j : Nat) (x : Int32), j < 3 → wX 1 (fun x => x) n (mk s) ((t + 18)) (nI j) x = some (mk (wI s ((t + 18)) j x))) ∧
  (∀ s : zS, lA n (mk s) ((t + 18)) = some (nI 3)) ∧
  (∀ (s : zS) (j : Nat), j < 64 → gX 1 n (mk s) ((t + 19)) (nI j) = some (s.1 ((t + 19)) j)) ∧
  (∀ (s : zS) (j : Nat) (x : Int32), j < 64 → wX 1 (fun x => x) n (mk s) ((t + 19)) (nI j) x = some (mk (wI s ((t + 19)) j x))) ∧
  (∀ s : zS, lA n (mk s) ((t + 19)) = some (nI 64)) ∧
  (∀ (s : zS) (j : Nat), j < 64 → gX 1 n (mk s) ((t + 20)) (nI j) = some (s.1 ((t + 20)) j)) ∧
  (∀ (s : zS) (j : Nat) (x : Int32), j < 64 → wX 1 (fun x => x) n (mk s) ((t + 20)) (nI j) x = some (mk (wI s ((t + 20)) j x))) ∧
  (∀ s : zS, lA n (mk s) ((t + 20)) = some (nI 64)) ∧
  (∀ (s : zS) (j : Nat), j < 7 → gJ n (mk s) ((t + 21)) (nI j) = some (s.2.1 ((t + 21)) j)) ∧
  (∀ (s : zS) (j : Nat) (x : Int64), j < 7 → wJ n (mk s) ((t + 21)) (nI j) x = some (mk (wL s ((t + 21)) j x))) ∧
  (∀ (s : zS) (j : Nat), j < 64 → gJ n (mk s) ((t + 22)) (nI j) = some (s.2.1 ((t + 22)) j)) ∧
  (∀ (s : zS) (j : Nat) (x : Int64), j < 64 → wJ n (mk s) ((t + 22)) (nI j) x = some (mk (wL s ((t + 22)) j x))) := ⟨fun s => mk_kO (by rcases ht with rfl | rfl <;> rfl) ⟨by omega, by omega⟩ (Or.inl (by omega)),
  fun s => mk_pR3 (a := t) (d := 1) (by rcases ht with rfl | rfl <;> rfl) rfl ⟨by omega, by omega⟩ (Or.inl (by omega)),
  fun s => mk_pR3 (a := t) (d := 4) (by rcases ht with rfl | rfl <;> rfl) rfl ⟨by omega, by omega⟩ (Or.inl (by omega)),
  fun s => mk_pR3 (a := t) (d := 7) (by rcases ht with rfl | rfl <;> rfl) rfl ⟨by omega, by omega⟩ (Or.inl (by omega)),
  fun s => mk_pR3 (a := t) (d := 10) (by rcases ht with rfl | rfl <;> rfl) rfl ⟨by omega, by omega⟩ (Or.inl (by omega)),
  fun s => mk_pR3 (a := t) (d := 13) (by rcases ht with rfl | rfl <;> rfl) rfl ⟨by omega, by omega⟩ (Or.inl (by omega)),
  fun s => mk_pR3 (a := t) (d := 16) (by rcases ht with rfl | rfl <;> rfl) rfl ⟨by omega, by omega⟩ (Or.inl (by omega)),
  fun s => mk_pI (by rcases ht with rfl | rfl <;> rfl) rfl ⟨by omega, by omega⟩ (Or.inl (by omega)),
  fun s x => mk_sI (by rcases ht with rfl | rfl <;> rfl) rfl (by rfl) ⟨by omega, by omega⟩ (Or.inl (by omega)),
  fun s => mk_pI (by rcases ht with rfl | rfl <;> rfl) rfl ⟨by omega, by omega⟩ (Or.inl (by omega)),
  fun s x => mk_sI (by rcases ht with rfl | rfl <;> rfl) rfl (by rfl) ⟨by omega, by omega⟩ (Or.inl (by omega)),
  fun s => mk_pI (by rcases ht with rfl | rfl <;> rfl) rfl ⟨by omega, by omega⟩ (Or.inl (by omega)),
  fun s x => mk_sI (by rcases ht with rfl | rfl <;> rfl) rfl (by rfl) ⟨by omega, by omega⟩ (Or.inl (by omega)),
  fun s => mk_pI (by rcases ht with rfl | rfl <;> rfl) rfl ⟨by omega, by omega⟩ (Or.inl (by omega)),
  fun s x => mk_sI (by rcases ht with rfl | rfl <;> rfl) rfl (by rfl) ⟨by omega, by omega⟩ (Or.inl (by omega)),
  fun s => mk_kO (by rcases ht with rfl | rfl <;> rfl) ⟨by omega, by omega⟩ (Or.inl (by omega)),
  fun s => mk_pI4 (by rcases ht with rfl | rfl <;> rfl) rfl ⟨by omega, by omega⟩ (Or.inl (by omega)),
  fun s => mk_pI4 (by rcases ht with rfl | rfl <;> rfl) rfl ⟨by omega, by omega⟩ (Or.inl (by omega)),
  fun s => mk_pR3 (a := (t + 1)) (d := 1) (by rcases ht with rfl | rfl <;> rfl) rfl ⟨by omega, by omega⟩ (Or.inl (by omega)),
  fun s => mk_pR3 (a := (t + 1)) (d := 2) (by rcases ht with rfl | rfl <;> rfl) rfl ⟨by omega, by omega⟩ (Or.inl (by omega)),
  fun s => mk_pI (by rcases ht with rfl | rfl <;> rfl) rfl ⟨by omega, by omega⟩ (Or.inl (by omega)),
  fun s x => mk_sI (by rcases ht with rfl | rfl <;> rfl) rfl (by rfl) ⟨by omega, by omega⟩ (Or.inl (by omega)),
  fun s => mk_kO (by rcases ht with rfl | rfl <;> rfl) ⟨by omega, by omega⟩ (Or.inl (by omega)),
  fun s => mk_pI4 (by rcases ht with rfl | rfl <;> rfl) rfl ⟨by omega, by omega⟩ (Or.inl (by omega)),
  fun s => mk_pI4 (by rcases ht with rfl | rfl <;> rfl) rfl ⟨by omega, by omega⟩ (Or.inl (by omega)),
  fun s => mk_pR3 (a := (t + 4)) (d := 1) (by rcases ht with rfl | rfl <;> rfl) rfl ⟨by omega, by omega⟩ (Or.inl (by omega)),
  fun s => mk_pR3 (a := (t + 4)) (d := 2) (by rcases ht with rfl | rfl <;> rfl) rfl ⟨by omega, by omega⟩ (Or.inl (by omega)),
  fun s => mk_pI (by rcases ht with rfl | rfl <;> rfl) rfl ⟨by omega, by omega⟩ (Or.inl (by omega)),
  fun s x => mk_sI (by rcases ht with rfl | rfl <;> rfl) rfl (by rfl) ⟨by omega, by omega⟩ (Or.inl (by omega)),
  fun s => mk_kO (by rcases ht with rfl | rfl <;> rfl) ⟨by omega, by omega⟩ (Or.inl (by omega)),
  fun s => mk_pI4 (by rcases ht with rfl | rfl <;> rfl) rfl ⟨by omega, by omega⟩ (Or.inl (by omega)),
  fun s => mk_pI4 (by rcases ht with rfl | rfl <;> rfl) rfl ⟨by omega, by omega⟩ (Or.inl (by omega)),
  fun s => mk_pR3 (a := (t + 7)) (d := 1) (by rcases ht with rfl | rfl <;> rfl) rfl ⟨by omega, by omega⟩ (Or.inl (by omega)),
  fun s => mk_pR3 (a := (t + 7)) (d := 2) (by rcases ht with rfl | rfl <;> rfl) rfl ⟨by omega, by omega⟩ (Or.inl (by omega)),
  fun s => mk_pI (by rcases ht with rfl | rfl <;> rfl) rfl ⟨by omega, by omega⟩ (Or.inl (by omega)),
  fun s x => mk_sI (by rcases ht with rfl | rfl <;> rfl) rfl (by rfl) ⟨by omega, by omega⟩ (Or.inl (by omega)),
  fun s => mk_kO (by rcases ht with rfl | rfl <;> rfl) ⟨by omega, by omega⟩ (Or.inl (by omega)),
  fun s => mk_pI4 (by rcases ht with rfl | rfl <;> rfl) rfl ⟨by omega, by omega⟩ (Or.inl (by omega)),
  fun s => mk_pI4 (by rcases ht with rfl | rfl <;> rfl) rfl ⟨by omega, by omega⟩ (Or.inl (by omega)),
  fun s => mk_pR3 (a := (t + 10)) (d := 1) (by rcases ht with rfl | rfl <;> rfl) rfl ⟨by omega, by omega⟩ (Or.inl (by omega)),
  fun s => mk_pR3 (a := (t + 10)) (d := 2) (by rcases ht with rfl | rfl <;> rfl) rfl ⟨by omega, by omega⟩ (Or.inl (by omega)),
  fun s => mk_pI (by rcases ht with rfl | rfl <;> rfl) rfl ⟨by omega, by omega⟩ (Or.inl (by omega)),
  fun s x => mk_sI (by rcases ht with rfl | rfl <;> rfl) rfl (by rfl) ⟨by omega, by omega⟩ (Or.inl (by omega)),
  fun s => mk_kO (by rcases ht with rfl | rfl <;> rfl) ⟨by omega, by omega⟩ (Or.inl (by omega)),
  fun s => mk_pI4 (by rcases ht with rfl | rfl <;> rfl) rfl ⟨by omega, by omega⟩ (Or.inl (by omega)),
  fun s => mk_pI4 (by rcases ht with rfl | rfl <;> rfl) rfl ⟨by omega, by omega⟩ (Or.inl (by omega)),
  fun s => mk_pR3 (a := (t + 13)) (d := 1) (by rcases ht with rfl | rfl <;> rfl) rfl ⟨by omega, by omega⟩ (Or.inl (by omega)),
  fun s => mk_pR3 (a := (t + 13)) (d := 2) (by rcases ht with rfl | rfl <;> rfl) rfl ⟨by omega, by omega⟩ (Or.inl (by omega)),
  fun s => mk_pI (by rcases ht with rfl | rfl <;> rfl) rfl ⟨by omega, by omega⟩ (Or.inl (by omega)),
  fun s x => mk_sI (by rcases ht with rfl | rfl <;> rfl) rfl (by rfl) ⟨by omega, by omega⟩ (Or.inl (by omega)),
  fun s => mk_kO (by rcases ht with rfl | rfl <;> rfl) ⟨by omega, by omega⟩ (Or.inl (by omega)),
  fun s => mk_pR3 (a := (t + 16)) (d := 1) (by rcases ht with rfl | rfl <;> rfl) rfl ⟨by omega, by omega⟩ (Or.inl (by omega)),
  fun s => mk_pR3 (a := (t + 16)) (d := 2) (by rcases ht with rfl | rfl <;> rfl) rfl ⟨by omega, by omega⟩ (Or.inl (by omega)),
  fun s => mk_pR3 (a := (t + 16)) (d := 3) (by rcases ht with rfl | rfl <;> rfl) rfl ⟨by omega, by omega⟩ (Or.inl (by omega)),
  fun s => mk_pR3 (a := (t + 16)) (d := 4) (by rcases ht with rfl | rfl <;> rfl) rfl ⟨by omega, by omega⟩ (Or.inl (by omega)),
  fun s => mk_pI (by rcases ht with rfl | rfl <;> rfl) rfl ⟨by omega, by omega⟩ (Or.inl (by omega)),
  fun s x => mk_sI (by rcases ht with rfl | rfl <;> rfl) rfl (by rfl) ⟨by omega, by omega⟩ (Or.inl (by omega)),
  fun s => mk_pI (by rcases ht with rfl | rfl <;> rfl) rfl ⟨by omega, by omega⟩ (Or.inl (by omega)),
  fun s x => mk_sI (by rcases ht with rfl | rfl <;> rfl) rfl (by rfl) ⟨by omega, by omega⟩ (Or.inl (by omega)),
  fun s => mk_pR3 (a := (t + 16)) (d := 5) (by rcases ht with rfl | rfl <;> rfl) rfl ⟨by omega, by omega⟩ (Or.inl (by omega)),
  fun s => mk_pR3 (a := (t + 16)) (d := 6) (by rcases ht with rfl | rfl <;> rfl) rfl ⟨by omega, by omega⟩ (Or.inl (by omega)),
  fun s j hj => mk_gX (by rcases ht with rfl | rfl <;> rfl) ⟨by omega, by omega⟩ (Or.inl (by omega)) hj (by omega),
  fun s j x hj => mk_wX (by rcases ht with rfl | rfl <;> rfl) ⟨by omega, by omega⟩ (Or.inl (by omega)) hj (by omega),
  fun s => mk_lA (by rcases ht with rfl | rfl <;> rfl) ⟨by omega, by omega⟩ (Or.inl (by omega)) (by decide) (by decide),
  fun s j hj => mk_gX (by rcases ht with rfl | rfl <;> rfl) ⟨by omega, by omega⟩ (Or.inl (by omega)) hj (by omega),
  fun s j x hj => mk_wX (by rcases ht with rfl | rfl <;> rfl) ⟨by omega, by omega⟩ (Or.inl (by omega)) hj (by omega),
  fun s => mk_lA (by rcases ht with rfl | rfl <;> rfl) ⟨by omega, by omega⟩ (Or.inl (by omega)) (by decide) (by decide),
  fun s j hj => mk_gX (by rcases ht with rfl | rfl <;> rfl) ⟨by omega, by omega⟩ (Or.inl (by omega)) hj (by omega),
  fun s j x hj => mk_wX (by rcases ht with rfl | rfl <;> rfl) ⟨by omega, by omega⟩ (Or.inl (by omega)) hj (by omega),
  fun s => mk_lA (by rcases ht with rfl | rfl <;> rfl) ⟨by omega, by omega⟩ (Or.inl (by omega)) (by decide) (by decide),
  fun s j hj => mk_gX (by rcases ht with rfl | rfl <;> rfl) ⟨by omega, by omega⟩ (Or.inl (by omega)) hj (by omega),
  fun s j x hj => mk_wX (by rcases ht with rfl | rfl <;> rfl) ⟨by omega, by omega⟩ (Or.inl (by omega)) hj (by omega),
  fun s => mk_lA (by rcases ht with rfl | rfl <;> rfl) ⟨by omega, by omega⟩ (Or.inl (by omega)) (by decide) (by decide),
  fun s j hj => mk_gX (by rcases ht with rfl | rfl <;> rfl) ⟨by omega, by omega⟩ (Or.inl (by omega)) hj (by omega),
  fun s j x hj => mk_wX (by rcases ht with rfl | rfl <;> rfl) ⟨by omega, by omega⟩ (Or.inl (by omega)) hj (by omega),
  fun s => mk_lA (by rcases ht with rfl | rfl <;> rfl) ⟨by omega, by omega⟩ (Or.inl (by omega)) (by decide) (by decide),
  fun s j hj => mk_gX (by rcases ht with rfl | rfl <;> rfl) ⟨by omega, by omega⟩ (Or.inl (by omega)) hj (by omega),
  fun s j x hj => mk_wX (by rcases ht with rfl | rfl <;> rfl) ⟨by omega, by omega⟩ (Or.inl (by omega)) hj (by omega),
  fun s => mk_lA (by rcases ht with rfl | rfl <;> rfl) ⟨by omega, by omega⟩ (Or.inl (by omega)) (by decide) (by decide),
  fun s j hj => mk_gX (by rcases ht with rfl | rfl <;> rfl) ⟨by omega, by omega⟩ (Or.inl (by omega)) hj (by omega),
  fun s j x hj => mk_wX (by rcases ht with rfl | rfl <;> rfl) ⟨by omega, by omega⟩ (Or.inl (by omega)) hj (by omega),
  fun s => mk_lA (by rcases ht with rfl | rfl <;> rfl) ⟨by omega, by omega⟩ (Or.inl (by omega)) (by decide) (by decide),
  fun s j hj => mk_gX (by rcases ht with rfl | rfl <;> rfl) ⟨by omega, by omega⟩ (Or.inl (by omega)) hj (by omega),
  fun s j x hj => mk_wX (by rcases ht with rfl | rfl <;> rfl) ⟨by omega, by omega⟩ (Or.inl (by omega)) hj (by omega),
  fun s => mk_lA (by rcases ht with rfl | rfl <;> rfl) ⟨by omega, by omega⟩ (Or.inl (by omega)) (by decide) (by decide),
  fun s j hj => mk_gX (by rcases ht with rfl | rfl <;> rfl) ⟨by omega, by omega⟩ (Or.inl (by omega)) hj (by omega),
  fun s j x hj => mk_wX (by rcases ht with rfl | rfl <;> rfl) ⟨by omega, by omega⟩ (Or.inl (by omega)) hj (by omega),
  fun s => mk_lA (by rcases ht with rfl | rfl <;> rfl) ⟨by omega, by omega⟩ (Or.inl (by omega)) (by decide) (by decide),
  fun s j hj => mk_gX (by rcases ht with rfl | rfl <;> rfl) ⟨by omega, by omega⟩ (Or.inl (by omega)) hj (by omega),
  fun s j x hj => mk_wX (by rcases ht with rfl | rfl <;> rfl) ⟨by omega, by omega⟩ (Or.inl (by omega)) hj (by omega),
  fun s => mk_lA (by rcases ht with rfl | rfl <;> rfl) ⟨by omega, by omega⟩ (Or.inl (by omega)) (by decide) (by decide),
  fun s j hj => mk_gX (by rcases ht with rfl | rfl <;> rfl) ⟨by omega, by omega⟩ (Or.inl (by omega)) hj (by omega),
  fun s j x hj => mk_wX (by rcases ht with rfl | rfl <;> rfl) ⟨by omega, by omega⟩ (Or.inl (by omega)) hj (by omega),
  fun s => mk_lA (by rcases ht with rfl | rfl <;> rfl) ⟨by omega, by omega⟩ (Or.inl (by omega)) (by decide) (by decide),
  fun s j hj => mk_gX (by rcases ht with rfl | rfl <;> rfl) ⟨by omega, by omega⟩ (Or.inl (by omega)) hj (by omega),
  fun s j x hj => mk_wX (by rcases ht with rfl | rfl <;> rfl) ⟨by omega, by omega⟩ (Or.inl (by omega)) hj (by omega),
  fun s => mk_lA (by rcases ht with rfl | rfl <;> rfl) ⟨by omega, by omega⟩ (Or.inl (by omega)) (by decide) (by decide),
  fun s j hj => mk_gX (by rcases ht with rfl | rfl <;> rfl) ⟨by omega, by omega⟩ (Or.inl (by omega)) hj (by omega),
  fun s j x hj => mk_wX (by rcases ht with rfl | rfl <;> rfl) ⟨by omega, by omega⟩ (Or.inl (by omega)) hj (by omega),
  fun s => mk_lA (by rcases ht with rfl | rfl <;> rfl) ⟨by omega, by omega⟩ (Or.inl (by omega)) (by decide) (by decide),
  fun s j hj => mk_gX (by rcases ht with rfl | rfl <;> rfl) ⟨by omega, by omega⟩ (Or.inl (by omega)) hj (by omega),
  fun s j x hj => mk_wX (by rcases ht with rfl | rfl <;> rfl) ⟨by omega, by omega⟩ (Or.inl (by omega)) hj (by omega),
  fun s => mk_lA (by rcases ht with rfl | rfl <;> rfl) ⟨by omega, by omega⟩ (Or.inl (by omega)) (by decide) (by decide),
  fun s j hj => mk_gJ (by rcases ht with rfl | rfl <;> rfl) ⟨by omega, by omega⟩ (Or.inl (by omega)) hj (by omega),
  fun s j x hj => mk_wJ (by rcases ht with rfl | rfl <;> rfl) ⟨by omega, by omega⟩ (Or.inl (by omega)) hj (by omega),
  fun s j hj => mk_gJ (by rcases ht with rfl | rfl <;> rfl) ⟨by omega, by omega⟩ (Or.inl (by omega)) hj (by omega),
  fun s j x hj => mk_wJ (by rcases ht with rfl | rfl <;> rfl) ⟨by omega, by omega⟩ (Or.inl (by omega)) hj (by omega)⟩
set_option maxRecDepth 4000 in
theorem B_s {n : Nat} {o : Nat} (hn : 239 ≤ n) (ho : isS o) : (∀ s : zS, kO n (mk s) o 5 = some ()) ∧
  (∀ s : zS, pI n (mk s) o 5 0 = some (s.1 (o) 0)) ∧
  (∀ (s : zS) (x : Int32), sF n (mk s) o 5 0 .int (.int x) = some (mk (wI s (o) 0 x))) ∧
  (∀ s : zS, pI n (mk s) o 5 1 = some (s.1 (o) 1)) ∧
  (∀ (s : zS) (x : Int32), sF n (mk s) o 5 1 .int (.int x) = some (mk (wI s (o) 1 x))) ∧
  (∀ s : zS, pI n (mk s) o 5 2 = some (s.1 (o) 2)) ∧
  (∀ (s : zS) (x : Int32), sF n (mk s) o 5 2 .int (.int x) = some (mk (wI s (o) 2 x))) ∧
  (∀ s : zS, pI n (mk s) o 5 3 = some (s.1 (o) 3)) ∧
  (∀ (s : zS) (x : Int32), sF n (mk s) o 5 3 .int (.int x) = some (mk (wI s (o) 3 x))) ∧
  (∀ s : zS, pI n (mk s) o 5 4 = some (s.1 (o) 4)) ∧
  (∀ (s : zS) (x : Int32), sF n (mk s) o 5 4 .int (.int x) = some (mk (wI s (o) 4 x))) ∧
  (∀ s : zS, pR n (mk s) o 5 5 = some (o + 1)) ∧
  (∀ s : zS, pR n (mk s) o 5 6 = some (o + 2)) ∧
  (∀ s : zS, pR n (mk s) o 5 7 = some (o + 3)) ∧
  (∀ s : zS, pR n (mk s) o 5 8 = some (o + 4)) ∧
  (∀ (s : zS) (j : Nat), j < 9 → gX 1 n (mk s) ((o + 1)) (nI j) = some (s.1 ((o + 1)) j)) ∧
  (∀ (s : zS) (j : Nat) (x : Int32), j < 9 → wX 1 (fun x => x) n (mk s) ((o + 1)) (nI j) x = some (mk (wI s ((o + 1)) j x))) ∧
  (∀ s : zS, lA n (mk s) ((o + 1)) = some (nI 9)) ∧
  (∀ (s : zS) (j : Nat), j < 9 → gX 1 n (mk s) ((o + 2)) (nI j) = some (s.1 ((o + 2)) j)) ∧
  (∀ (s : zS) (j : Nat) (x : Int32), j < 9 → wX 1 (fun x => x) n (mk s) ((o + 2)) (nI j) x = some (mk (wI s ((o + 2)) j x))) ∧
  (∀ s : zS, lA n (mk s) ((o + 2)) = some (nI 9)) ∧
  (∀ (s : zS) (j : Nat), j < 4 → gX 1 n (mk s) ((o + 3)) (nI j) = some (s.1 ((o + 3)) j)) ∧
  (∀ (s : zS) (j : Nat) (x : Int32), j < 4 → wX 1 (fun x => x) n (mk s) ((o + 3)) (nI j) x = some (mk (wI s ((o + 3)) j x))) ∧
  (∀ s : zS, lA n (mk s) ((o + 3)) = some (nI 4)) ∧
  (∀ (s : zS) (j : Nat), j < 4 → gX 1 n (mk s) ((o + 4)) (nI j) = some (s.1 ((o + 4)) j)) ∧
  (∀ (s : zS) (j : Nat) (x : Int32), j < 4 → wX 1 (fun x => x) n (mk s) ((o + 4)) (nI j) x = some (mk (wI s ((o + 4)) j x))) ∧
  (∀ s : zS, lA n (mk s) ((o + 4)) = some (nI 4)) := by
  have hb := is_b ho
  exact ⟨fun s => mk_kO (is_lay0 ho) ⟨by omega, by omega⟩ (Or.inl (by omega)),
  fun s => mk_pI (is_lay0 ho) rfl ⟨by omega, by omega⟩ (Or.inl (by omega)),
  fun s x => mk_sI (is_lay0 ho) rfl (by rfl) ⟨by omega, by omega⟩ (Or.inl (by omega)),
  fun s => mk_pI (is_lay0 ho) rfl ⟨by omega, by omega⟩ (Or.inl (by omega)),
  fun s x => mk_sI (is_lay0 ho) rfl (by rfl) ⟨by omega, by omega⟩ (Or.inl (by omega)),
  fun s => mk_pI (is_lay0 ho) rfl ⟨by omega, by omega⟩ (Or.inl (by omega)),
  fun s x => mk_sI (is_lay0 ho) rfl (by rfl) ⟨by omega, by omega⟩ (Or.inl (by omega)),
  fun s => mk_pI (is_lay0 ho) rfl ⟨by omega, by omega⟩ (Or.inl (by omega)),
  fun s x => mk_sI (is_lay0 ho) rfl (by rfl) ⟨by omega, by omega⟩ (Or.inl (by omega)),
  fun s => mk_pI (is_lay0 ho) rfl ⟨by omega, by omega⟩ (Or.inl (by omega)),
  fun s x => mk_sI (is_lay0 ho) rfl (by rfl) ⟨by omega, by omega⟩ (Or.inl (by omega)),
  fun s => mk_pR3 (a := o) (d := 1) (is_lay0 ho) rfl ⟨by omega, by omega⟩ (Or.inl (by omega)),
  fun s => mk_pR3 (a := o) (d := 2) (is_lay0 ho) rfl ⟨by omega, by omega⟩ (Or.inl (by omega)),
  fun s => mk_pR3 (a := o) (d := 3) (is_lay0 ho) rfl ⟨by omega, by omega⟩ (Or.inl (by omega)),
  fun s => mk_pR3 (a := o) (d := 4) (is_lay0 ho) rfl ⟨by omega, by omega⟩ (Or.inl (by omega)),
  fun s j hj => mk_gX (is_lay1 ho) ⟨by omega, by omega⟩ (Or.inl (by omega)) hj (by omega),
  fun s j x hj => mk_wX (is_lay1 ho) ⟨by omega, by omega⟩ (Or.inl (by omega)) hj (by omega),
  fun s => mk_lA (is_lay1 ho) ⟨by omega, by omega⟩ (Or.inl (by omega)) (by decide) (by decide),
  fun s j hj => mk_gX (is_lay2 ho) ⟨by omega, by omega⟩ (Or.inl (by omega)) hj (by omega),
  fun s j x hj => mk_wX (is_lay2 ho) ⟨by omega, by omega⟩ (Or.inl (by omega)) hj (by omega),
  fun s => mk_lA (is_lay2 ho) ⟨by omega, by omega⟩ (Or.inl (by omega)) (by decide) (by decide),
  fun s j hj => mk_gX (is_lay3 ho) ⟨by omega, by omega⟩ (Or.inl (by omega)) hj (by omega),
  fun s j x hj => mk_wX (is_lay3 ho) ⟨by omega, by omega⟩ (Or.inl (by omega)) hj (by omega),
  fun s => mk_lA (is_lay3 ho) ⟨by omega, by omega⟩ (Or.inl (by omega)) (by decide) (by decide),
  fun s j hj => mk_gX (is_lay4 ho) ⟨by omega, by omega⟩ (Or.inl (by omega)) hj (by omega),
  fun s j x hj => mk_wX (is_lay4 ho) ⟨by omega, by omega⟩ (Or.inl (by omega)) hj (by omega),
  fun s => mk_lA (is_lay4 ho) ⟨by omega, by omega⟩ (Or.inl (by omega)) (by decide) (by decide)⟩
set_option maxRecDepth 4000 in
theorem B_g {n : Nat} (hn : 239 ≤ n) : (∀ s : zS, kO n (mk s) 84 1 = some ()) ∧
  (∀ s : zS, pR n (mk s) 84 1 0 = some (85)) ∧
  (∀ s : zS, pR n (mk s) 84 1 1 = some (86)) ∧
  (∀ s : zS, pI n (mk s) 84 1 2 = some (s.1 (84) 2)) ∧
  (∀ (s : zS) (x : Int32), sF n (mk s) 84 1 2 .int (.int x) = some (mk (wI s (84) 2 x))) ∧
  (∀ (s : zS) (j : Nat), j < 512 → gB n (mk s) 85 (nI j) = some (s.1 (85) j)) ∧
  (∀ (s : zS) (j : Nat) (x : Int32), j < 512 → wB n (mk s) 85 (nI j) x = some (mk (wI s (85) j (vp_nar .boolean x)))) ∧
  (∀ s : zS, lA n (mk s) 85 = some (nI 512)) ∧
  (∀ (s : zS) (j : Nat), j < 1231 → gX 1 n (mk s) 86 (nI j) = some (s.1 (86) j)) ∧
  (∀ (s : zS) (j : Nat) (x : Int32), j < 1231 → wX 1 (fun x => x) n (mk s) 86 (nI j) x = some (mk (wI s (86) j x))) ∧
  (∀ s : zS, lA n (mk s) 86 = some (nI 1231)) := ⟨fun s => mk_kO (rfl) ⟨by omega, by omega⟩ (Or.inl (by omega)),
  fun s => mk_pR3 (a := 84) (d := 1) (rfl) rfl ⟨by omega, by omega⟩ (Or.inl (by omega)),
  fun s => mk_pR3 (a := 84) (d := 2) (rfl) rfl ⟨by omega, by omega⟩ (Or.inl (by omega)),
  fun s => mk_pI (rfl) rfl ⟨by omega, by omega⟩ (Or.inl (by omega)),
  fun s x => mk_sI (rfl) rfl (by rfl) ⟨by omega, by omega⟩ (Or.inl (by omega)),
  fun s j hj => mk_gB3 (rfl) ⟨by omega, by omega⟩ (Or.inl (by omega)) hj (by omega),
  fun s j x hj => mk_wB3 (rfl) ⟨by omega, by omega⟩ (Or.inl (by omega)) hj (by omega),
  fun s => mk_lA (rfl) ⟨by omega, by omega⟩ (Or.inl (by omega)) (by decide) (by decide),
  fun s j hj => mk_gX (rfl) ⟨by omega, by omega⟩ (Or.inl (by omega)) hj (by omega),
  fun s j x hj => mk_wX (rfl) ⟨by omega, by omega⟩ (Or.inl (by omega)) hj (by omega),
  fun s => mk_lA (rfl) ⟨by omega, by omega⟩ (Or.inl (by omega)) (by decide) (by decide)⟩
