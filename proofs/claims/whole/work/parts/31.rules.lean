/-! ===== layer 2: methods as functions on the heap; rules of runs on the abstract machine ===== -/
def kO (n : Nat) (h : ai_H) (o ci : Nat) : Option Unit := if (ai_ob (h, n, 0, 0) o ci).isSome = true then some () else none
def pI (n : Nat) (h : ai_H) (o ci k : Nat) : Option Int32 := match ai_ob (h, n, 0, 0) o ci with
  | some fs => match fs[k]? with
    | some (.int x) => some x
    | _ => none
  | none => none
def pJ (n : Nat) (h : ai_H) (o ci k : Nat) : Option Int64 := match ai_ob (h, n, 0, 0) o ci with
  | some fs => match fs[k]? with
    | some (.long x) => some x
    | _ => none
  | none => none
def pR (n : Nat) (h : ai_H) (o ci k : Nat) : Option Nat := match ai_ob (h, n, 0, 0) o ci with
  | some fs => match fs[k]? with
    | some (.ref x) => some x
    | _ => none
  | none => none
def sF (n : Nat) (h : ai_H) (o ci k : Nat) (ty : FieldType) (v : Value) : Option ai_H := match ai_ob (h, n, 0, 0) o ci with
  | some fs => if k < fs.length ∧ fits ty v = true then some (va_up h o (.inr (ci, fs.set k v))) else none
  | none => none
def lA (n : Nat) (h : ai_H) (a : Nat) : Option Int32 := match ai_ar (h, n, 0, 0) a with
  | some (k, z, _) => if k < 5 then some (Int32.ofNat z) else none
  | none => none
def gX (k n : Nat) (h : ai_H) (a : Nat) (j : Int32) : Option Int32 := match ai_ar (h, n, 0, 0) a with
  | some (k', z, .inl f) => if k' = k ∧ ai_in j z = true then some (f j.toNatClampNeg) else none
  | _ => none
def gB (n : Nat) (h : ai_H) (a : Nat) (j : Int32) : Option Int32 := match gX 3 n h a j with
  | some x => some x
  | none => gX 0 n h a j
def gJ (n : Nat) (h : ai_H) (a : Nat) (j : Int32) : Option Int64 := match ai_ar (h, n, 0, 0) a with
  | some (k', z, .inr (.inl f)) => if k' = 2 ∧ ai_in j z = true then some (f j.toNatClampNeg) else none
  | _ => none
def gR (n : Nat) (h : ai_H) (a : Nat) (j : Int32) : Option Nat := match ai_ar (h, n, 0, 0) a with
  | some (k', z, .inr (.inr (.inr (.inr f)))) => if k' = 4 ∧ ai_in j z = true then f j.toNatClampNeg else none
  | _ => none
def wX (k : Nat) (g : Int32 → Int32) (n : Nat) (h : ai_H) (a : Nat) (j x : Int32) : Option ai_H := match ai_ar (h, n, 0, 0) a with
  | some (k', z, .inl f) => if k' = k ∧ ai_in j z = true then some (va_up h a (.inl (k, z, .inl (upd f j.toNatClampNeg (g x))))) else none
  | _ => none
def wB (n : Nat) (h : ai_H) (a : Nat) (j x : Int32) : Option ai_H := match wX 3 (vp_nar .boolean) n h a j x with
  | some h1 => some h1
  | none => wX 0 (vp_nar .byte) n h a j x
def wJ (n : Nat) (h : ai_H) (a : Nat) (j : Int32) (x : Int64) : Option ai_H := match ai_ar (h, n, 0, 0) a with
  | some (k', z, .inr (.inl f)) => if k' = 2 ∧ ai_in j z = true then some (va_up h a (.inl (2, z, .inr (.inl (vp_updL f j.toNatClampNeg x))))) else none
  | _ => none
def wR (n : Nat) (h : ai_H) (a : Nat) (j : Int32) (v : Nat) : Option ai_H := match ai_ar (h, n, 0, 0) a with
  | some (k', z, .inr (.inr (.inr (.inr f)))) => if k' = 4 ∧ ai_in j z = true ∧ (ai_ob (h, n, 0, 0) v 5).isSome = true then some (va_up h a (.inl (4, z, .inr (.inr (.inr (.inr (va_up f j.toNatClampNeg (some v)))))))) else none
  | _ => none
def cA (n : Nat) (h : ai_H) (a : Nat) (sp : Int32) (b : Nat) (dp m : Int32) : Option ai_H := match ai_ar (h, n, 0, 0) a, ai_ar (h, n, 0, 0) b with
  | some (ka, za, .inl f), some (kb, zb, .inl g) => if ka = 1 ∧ kb = 1 ∧ ¬ sp < 0 ∧ ¬ dp < 0 ∧ ¬ m < 0 ∧ sp.toNatClampNeg + m.toNatClampNeg ≤ za ∧ dp.toNatClampNeg + m.toNatClampNeg ≤ zb then
      some (va_up h b (.inl (1, zb, .inl (va_cpy f g sp.toNatClampNeg dp.toNatClampNeg m.toNatClampNeg)))) else none
  | _, _ => none
def dI (x y : Int32) : Option Int32 := if y = 0 then none else some (x / y)
def rI (x y : Int32) : Option Int32 := if y = 0 then none else some (x - x / y * y)
def dJ (x y : Int64) : Option Int64 := if y = 0 then none else some (x / y)
def rJ (x y : Int64) : Option Int64 := if y = 0 then none else some (x - x / y * y)
def pW (x : Int32) : Option Int32 := if ai_in x 9 = true then some (nI (3 ^ x.toNatClampNeg)) else none
def gZ (x : Int32) : Option Unit := if x = 0 ∨ x = 1 then some () else none
theorem bi_z0 : gZ 0 = some () := by decide
theorem bi_z1 : gZ 1 = some () := by decide
/-- how deep calls may nest that call each other -/
def bi_N : Nat := 300
/-- how often a loop may go round at most -/
def bi_K : Nat := 4294967296
/-- a call that may throw -/
def bt {α β : Type} (o : Option ((α ⊕ Nat) × ai_H)) (f : α → ai_H → Option ((β ⊕ Nat) × ai_H)) : Option ((β ⊕ Nat) × ai_H) := o.bind fun q => match q.1 with
  | .inl x => f x q.2
  | .inr E => some (.inr E, q.2)
theorem bt_el {α β : Type} {o : Option ((α ⊕ Nat) × ai_H)} {f : α → ai_H → Option ((β ⊕ Nat) × ai_H)} {q : (β ⊕ Nat) × ai_H} (h : bt o f = some q) : (∃ (x : α) (h1 : ai_H), o = some (.inl x, h1) ∧ f x h1 = some q) ∨ ∃ (E : Nat) (h1 : ai_H), o = some (.inr E, h1) ∧ some (.inr E, h1) = some q := by
  cases o with
  | none => cases h
  | some w =>
    obtain ⟨x | E, h1⟩ := w
    · exact Or.inl ⟨x, h1, rfl, h⟩
    · exact Or.inr ⟨E, h1, rfl, h⟩
theorem bt_c {α β : Type} {o : Option ((α ⊕ Nat) × ai_H)} {f : α → ai_H → Option ((β ⊕ Nat) × ai_H)} {q : (β ⊕ Nat) × ai_H} {G : Prop} (h : bt o f = some q) (kx : ∀ (E : Nat) (h1 : ai_H), o = some (.inr E, h1) → some (.inr E, h1) = some q → G) (k : ∀ (x : α) (h1 : ai_H), o = some (.inl x, h1) → f x h1 = some q → G) : G := by
  rcases bt_el h with ⟨x, h1, e1, e2⟩ | ⟨E, h1, e1, e2⟩
  · exact k x h1 e1 e2
  · exact kx E h1 e1 e2
theorem bi_bd {α β : Type} {o : Option α} {f : α → Option β} {q : β} (h : o.bind f = some q) : ∃ x, o = some x ∧ f x = some q := Option.bind_eq_some_iff.mp h
theorem bi_ite {α : Type} {c : Prop} [Decidable c] {a b : Option α} {q : α} {G : Prop} (h : (if c then a else b) = some q) (kt : c → a = some q → G) (kf : ¬ c → b = some q → G) : G := by
  by_cases hc : c
  · rw [if_pos hc] at h
    exact kt hc h
  · rw [if_neg hc] at h
    exact kf hc h
/-! outcomes -/
abbrev bi_I (n : Nat) (x : Int32) (h : ai_H) : ai_Ou := (.inl (some (.int x)), h, n, 0, 0)
abbrev bi_J (n : Nat) (x : Int64) (h : ai_H) : ai_Ou := (.inl (some (.long x)), h, n, 0, 0)
abbrev bi_V (n : Nat) (h : ai_H) : ai_Ou := (.inl none, h, n, 0, 0)
abbrev bi_X (n E : Nat) (h : ai_H) : ai_Ou := (.inr E, h, n, 1, 6)
abbrev fI (n : Nat) (q : Int32 × ai_H) : ai_Ou := bi_I n q.1 q.2
abbrev fJ (n : Nat) (q : Int64 × ai_H) : ai_Ou := bi_J n q.1 q.2
abbrev fV (n : Nat) (q : Unit × ai_H) : ai_Ou := bi_V n q.2
def tI (n : Nat) (q : (Int32 ⊕ Nat) × ai_H) : ai_Ou := match q with
  | (.inl x, h) => bi_I n x h
  | (.inr E, h) => bi_X n E h
def tV (n : Nat) (q : (Unit ⊕ Nat) × ai_H) : ai_Ou := match q with
  | (.inl _, h) => bi_V n h
  | (.inr E, h) => bi_X n E h
def bi_go (D : Nat) (T : List (Nat × ai_Op)) (n : Nat) (o : ai_Ou) (pc : Nat) (lv : ai_L) (st : List Value) (h : ai_H) : Prop :=
  ∀ d, D ≤ d → ∃ k, ai_lp (ai_Ev ai_P ai_Hd ai_ML d) (ai_lk T) (fun _ _ => some none) k pc lv st (h, n, 0, 0) o
def bi_sp (D y : Nat) (vs : List Value) (h : ai_H) (n : Nat) (o : ai_Ou) : Prop := ∀ d, D ≤ d → ai_Ev ai_P ai_Hd ai_ML d y vs h n o
theorem bi_up {D D' y : Nat} {vs : List Value} {h : ai_H} {n : Nat} {o : ai_Ou} (g : bi_sp D y vs h n o) (hD : D ≤ D') : bi_sp D' y vs h n o := fun d hd => g d (Nat.le_trans hD hd)
theorem bi_en {D y : Nat} {T : List (Nat × ai_Op)} {vs : List Value} {h : ai_H} {n : Nat} {o : ai_Ou} (hP : ai_P y = ai_lk T) (hH : ai_Hd y = fun _ _ => some none) (hl : (lg_sl vs).length ≤ ai_ML y) (g : bi_go D T n o 0 (lv_args 0 vs) [] h) : bi_sp (D + 1) y vs h n o := by
  intro d hd
  obtain ⟨d', rfl⟩ : ∃ d', d = d' + 1 := ⟨d - 1, by omega⟩
  refine ⟨hl, ?_⟩
  rw [hP, hH]
  exact g d' (by omega)
/-! locals -/
theorem bi_find {α : Type} {p q : α → Bool} {a : α} : ∀ {t : List α}, t.find? q = some a → p a = true → (t.filter p).find? q = some a
  | [], h, _ => by cases h
  | b :: t, h, hp => by
    by_cases hq : q b = true
    · rw [List.find?_cons_of_pos hq] at h
      cases h
      rw [List.filter_cons_of_pos hp, List.find?_cons_of_pos hq]
    · rw [List.find?_cons_of_neg hq] at h
      by_cases hb : p b = true
      · rw [List.filter_cons_of_pos hb, List.find?_cons_of_neg hq]
        exact bi_find h hp
      · rw [List.filter_cons_of_neg hb]
        exact bi_find h hp
theorem bi_ldx {j : Nat} {lv : ai_L} {w : Value} (l : ai_ld j lv = some w) : lv.find? (fun q => q.1 == j) = some (j, w) := by
  unfold ai_ld at l
  cases hf : lv.find? (fun q => q.1 == j) with
  | none => rw [hf] at l; cases l
  | some q =>
    rw [hf] at l
    cases l
    have h1 := List.find?_some hf
    have h3 : q.1 = j := by simpa using h1
    subst h3
    rfl
theorem bi_e1 {i : Nat} {v : Value} {lv : ai_L} : ai_ld i (ai_s1 i v lv) = some v := by
  unfold ai_ld ai_s1
  rw [List.find?_cons_of_pos (by simp)]
  rfl
theorem bi_e2 {i : Nat} {v : Value} {lv : ai_L} : ai_ld i (ai_s2 i v lv) = some v := by
  unfold ai_ld ai_s2
  rw [List.find?_cons_of_pos (by simp)]
  rfl
theorem bi_k0 {i j : Nat} {v w : Value} {lv : ai_L} {p : Nat × Value → Bool} (l : ai_ld j lv = some w) (hij : ¬ i = j) (hp : p (j, w) = true) : ai_ld j ((i, v) :: lv.filter p) = some w := by
  unfold ai_ld
  rw [List.find?_cons_of_neg (by simpa using hij), bi_find (bi_ldx l) hp]
  rfl
theorem bi_k1 {i j : Nat} {v w : Value} {lv : ai_L} (l : ai_ld j lv = some w) (hij : (j == i) = false) (hc : (w.category == 2) = false) : ai_ld j (ai_s1 i v lv) = some w :=
  bi_k0 l (fun e => by subst e; simp at hij) (by simp only [hij, hc, Bool.not_false, Bool.and_false, Bool.and_self])
theorem bi_k1L {i j : Nat} {v w : Value} {lv : ai_L} (l : ai_ld j lv = some w) (hij : (j == i) = false) (hc : (j + 1 == i) = false) : ai_ld j (ai_s1 i v lv) = some w :=
  bi_k0 l (fun e => by subst e; simp at hij) (by simp only [hij, hc, Bool.not_false, Bool.false_and, Bool.and_self])
theorem bi_k2 {i j : Nat} {v w : Value} {lv : ai_L} (l : ai_ld j lv = some w) (hij : (j == i) = false) (hij2 : (j == i + 1) = false) (hc : (w.category == 2) = false) : ai_ld j (ai_s2 i v lv) = some w :=
  bi_k0 l (fun e => by subst e; simp at hij) (by simp only [hij, hij2, hc, Bool.not_false, Bool.and_false, Bool.and_self])
theorem bi_k2L {i j : Nat} {v w : Value} {lv : ai_L} (l : ai_ld j lv = some w) (hij : (j == i) = false) (hij2 : (j == i + 1) = false) (hc : (j + 1 == i) = false) : ai_ld j (ai_s2 i v lv) = some w :=
  bi_k0 l (fun e => by subst e; simp at hij) (by simp only [hij, hij2, hc, Bool.not_false, Bool.false_and, Bool.and_self])
section BR
variable {D n pc : Nat} {T : List (Nat × ai_Op)} {o : ai_Ou} {lv : ai_L} {st rest : List Value} {h h1 : ai_H}
theorem go_st {f : ai_Sp} {pc' : Nat} {lv' : ai_L} {st' : List Value} {h' : ai_H} (hk : ai_lk T pc = some (ai_sp f)) (hf : f pc lv st (h, n, 0, 0) = some (pc', lv', st', (h', n, 0, 0))) (g : bi_go D T n o pc' lv' st' h') : bi_go D T n o pc lv st h := by
  intro d hd
  obtain ⟨k, hk2⟩ := g d hd
  refine ⟨k + 1, ?_⟩
  unfold ai_lp
  simp only [hk, Option.bind_some, ai_sp, hf, Option.map_some]
  exact hk2
theorem go_il {i len : Nat} {x : Int32} (hk : ai_lk T pc = some (op_il i len)) (l : ai_ld i lv = some (.int x)) (g : bi_go D T n o (pc + len) lv (.int x :: st) h) : bi_go D T n o pc lv st h := go_st hk (by simp only [ai_il, l]) g
theorem go_ll {i len : Nat} {x : Int64} (hk : ai_lk T pc = some (op_ll i len)) (l : ai_ld i lv = some (.long x)) (g : bi_go D T n o (pc + len) lv (.long x :: st) h) : bi_go D T n o pc lv st h := go_st hk (by simp only [ai_ll, l]) g
theorem go_al {i len : Nat} {x : Nat} (hk : ai_lk T pc = some (op_al i len)) (l : ai_ld i lv = some (.ref x)) (g : bi_go D T n o (pc + len) lv (.ref x :: st) h) : bi_go D T n o pc lv st h := go_st hk (by simp only [ai_al, l]) g
theorem go_is {i len : Nat} {x : Int32} (hk : ai_lk T pc = some (op_is i len)) (g : bi_go D T n o (pc + len) (ai_s1 i (.int x) lv) st h) : bi_go D T n o pc lv (.int x :: st) h := go_st hk rfl g
theorem go_as {i len : Nat} {x : Nat} (hk : ai_lk T pc = some (op_as i len)) (g : bi_go D T n o (pc + len) (ai_s1 i (.ref x) lv) st h) : bi_go D T n o pc lv (.ref x :: st) h := go_st hk rfl g
theorem go_lst {i len : Nat} {x : Int64} (hk : ai_lk T pc = some (op_lst i len)) (g : bi_go D T n o (pc + len) (ai_s2 i (.long x) lv) st h) : bi_go D T n o pc lv (.long x :: st) h := go_st hk rfl g
theorem go_inc {i : Nat} {k x : Int32} (hk : ai_lk T pc = some (op_inc i k)) (l : ai_ld i lv = some (.int x)) (g : bi_go D T n o (pc + 3) (ai_s1 i (.int (x + k)) lv) st h) : bi_go D T n o pc lv st h := go_st hk (by simp only [ai_inc, l]) g
theorem go_pi {len : Nat} {v : Int32} (hk : ai_lk T pc = some (op_pi len v)) (g : bi_go D T n o (pc + len) lv (.int v :: st) h) : bi_go D T n o pc lv st h := go_st hk rfl g
theorem go_pl {len : Nat} {v : Int64} (hk : ai_lk T pc = some (op_pl len v)) (g : bi_go D T n o (pc + len) lv (.long v :: st) h) : bi_go D T n o pc lv st h := go_st hk rfl g
theorem go_iadd {x y : Int32} (hk : ai_lk T pc = some op_iadd) (g : bi_go D T n o (pc + 1) lv (.int (x + y) :: st) h) : bi_go D T n o pc lv (.int y :: .int x :: st) h := go_st hk rfl g
theorem go_isub {x y : Int32} (hk : ai_lk T pc = some op_isub) (g : bi_go D T n o (pc + 1) lv (.int (x - y) :: st) h) : bi_go D T n o pc lv (.int y :: .int x :: st) h := go_st hk rfl g
theorem go_imul {x y : Int32} (hk : ai_lk T pc = some op_imul) (g : bi_go D T n o (pc + 1) lv (.int (x * y) :: st) h) : bi_go D T n o pc lv (.int y :: .int x :: st) h := go_st hk rfl g
theorem go_iand {x y : Int32} (hk : ai_lk T pc = some op_iand) (g : bi_go D T n o (pc + 1) lv (.int (x &&& y) :: st) h) : bi_go D T n o pc lv (.int y :: .int x :: st) h := go_st hk rfl g
theorem go_ior {x y : Int32} (hk : ai_lk T pc = some op_ior) (g : bi_go D T n o (pc + 1) lv (.int (x ||| y) :: st) h) : bi_go D T n o pc lv (.int y :: .int x :: st) h := go_st hk rfl g
theorem go_ixor {x y : Int32} (hk : ai_lk T pc = some op_ixor) (g : bi_go D T n o (pc + 1) lv (.int (x ^^^ y) :: st) h) : bi_go D T n o pc lv (.int y :: .int x :: st) h := go_st hk rfl g
theorem go_ishl {x y : Int32} (hk : ai_lk T pc = some op_ishl) (g : bi_go D T n o (pc + 1) lv (.int (x <<< (y &&& 31)) :: st) h) : bi_go D T n o pc lv (.int y :: .int x :: st) h := go_st hk rfl g
theorem go_ishr {x y : Int32} (hk : ai_lk T pc = some op_ishr) (g : bi_go D T n o (pc + 1) lv (.int (x >>> (y &&& 31)) :: st) h) : bi_go D T n o pc lv (.int y :: .int x :: st) h := go_st hk rfl g
theorem go_iushr {x y : Int32} (hk : ai_lk T pc = some op_iushr) (g : bi_go D T n o (pc + 1) lv (.int ((x.toUInt32 >>> (y.toUInt32 &&& Int32.toUInt32 31)).toInt32) :: st) h) : bi_go D T n o pc lv (.int y :: .int x :: st) h := go_st hk rfl g
theorem go_ladd {x y : Int64} (hk : ai_lk T pc = some op_ladd) (g : bi_go D T n o (pc + 1) lv (.long (x + y) :: st) h) : bi_go D T n o pc lv (.long y :: .long x :: st) h := go_st hk rfl g
theorem go_lsub {x y : Int64} (hk : ai_lk T pc = some op_lsub) (g : bi_go D T n o (pc + 1) lv (.long (x - y) :: st) h) : bi_go D T n o pc lv (.long y :: .long x :: st) h := go_st hk rfl g
theorem go_lmul {x y : Int64} (hk : ai_lk T pc = some op_lmul) (g : bi_go D T n o (pc + 1) lv (.long (x * y) :: st) h) : bi_go D T n o pc lv (.long y :: .long x :: st) h := go_st hk rfl g
theorem go_land {x y : Int64} (hk : ai_lk T pc = some op_land) (g : bi_go D T n o (pc + 1) lv (.long (x &&& y) :: st) h) : bi_go D T n o pc lv (.long y :: .long x :: st) h := go_st hk rfl g
theorem go_idiv {x y z : Int32} (hk : ai_lk T pc = some op_idiv) (e : dI x y = some z) (g : bi_go D T n o (pc + 1) lv (.int z :: st) h) : bi_go D T n o pc lv (.int y :: .int x :: st) h := go_st hk (by
  unfold dI at e
  simp only [ai_id]
  split at e
  · cases e
  · rename_i hy
    cases e
    rw [if_neg hy]) g
theorem go_irem {x y z : Int32} (hk : ai_lk T pc = some op_irem) (e : rI x y = some z) (g : bi_go D T n o (pc + 1) lv (.int z :: st) h) : bi_go D T n o pc lv (.int y :: .int x :: st) h := go_st hk (by
  unfold rI at e
  simp only [ai_id]
  split at e
  · cases e
  · rename_i hy
    cases e
    rw [if_neg hy]) g
theorem go_ldiv {x y z : Int64} (hk : ai_lk T pc = some op_ldiv) (e : dJ x y = some z) (g : bi_go D T n o (pc + 1) lv (.long z :: st) h) : bi_go D T n o pc lv (.long y :: .long x :: st) h := go_st hk (by
  unfold dJ at e
  simp only [ai_le]
  split at e
  · cases e
  · rename_i hy
    cases e
    rw [if_neg hy]) g
theorem go_lrem {x y z : Int64} (hk : ai_lk T pc = some op_lrem) (e : rJ x y = some z) (g : bi_go D T n o (pc + 1) lv (.long z :: st) h) : bi_go D T n o pc lv (.long y :: .long x :: st) h := go_st hk (by
  unfold rJ at e
  simp only [ai_le]
  split at e
  · cases e
  · rename_i hy
    cases e
    rw [if_neg hy]) g
theorem go_lcmp {x y : Int64} (hk : ai_lk T pc = some op_lcmp) (g : bi_go D T n o (pc + 1) lv (.int (lg_cmp x y) :: st) h) : bi_go D T n o pc lv (.long y :: .long x :: st) h := go_st hk rfl g
theorem go_lneg {x : Int64} (hk : ai_lk T pc = some op_lneg) (g : bi_go D T n o (pc + 1) lv (.long (-x) :: st) h) : bi_go D T n o pc lv (.long x :: st) h := go_st hk rfl g
theorem go_i2b {x : Int32} (hk : ai_lk T pc = some op_i2b) (g : bi_go D T n o (pc + 1) lv (.int x.toInt8.toInt32 :: st) h) : bi_go D T n o pc lv (.int x :: st) h := go_st hk rfl g
theorem go_i2l {x : Int32} (hk : ai_lk T pc = some op_i2l) (g : bi_go D T n o (pc + 1) lv (.long x.toInt64 :: st) h) : bi_go D T n o pc lv (.int x :: st) h := go_st hk rfl g
theorem go_l2i {x : Int64} (hk : ai_lk T pc = some op_l2i) (g : bi_go D T n o (pc + 1) lv (.int x.toInt32 :: st) h) : bi_go D T n o pc lv (.long x :: st) h := go_st hk rfl g
theorem go_dup {v : Value} (hk : ai_lk T pc = some op_dup) (hv : v.category = 1) (g : bi_go D T n o (pc + 1) lv (v :: v :: st) h) : bi_go D T n o pc lv (v :: st) h := go_st hk (by simp only [ai_dup, hv, if_true]) g
theorem go_dup2 {v w : Value} (hk : ai_lk T pc = some op_dup2) (hv : v.category = 1) (hw : w.category = 1) (g : bi_go D T n o (pc + 1) lv (v :: w :: v :: w :: st) h) : bi_go D T n o pc lv (v :: w :: st) h := go_st hk (by simp only [ai_dup2, hv, hw, and_self, if_true]) g
theorem go_pop {v : Value} (hk : ai_lk T pc = some op_pop) (hv : v.category = 1) (g : bi_go D T n o (pc + 1) lv st h) : bi_go D T n o pc lv (v :: st) h := go_st hk (by simp only [ai_pop, hv, if_true]) g
theorem go_goto {t : Nat} (hk : ai_lk T pc = some (op_goto t)) (g : bi_go D T n o t lv st h) : bi_go D T n o pc lv st h := go_st hk rfl g
theorem go_nn {t x : Nat} (hk : ai_lk T pc = some (op_nn t)) (g : bi_go D T n o t lv st h) : bi_go D T n o pc lv (.ref x :: st) h := go_st hk rfl g
theorem go_b1t {P : Int32 → Bool} {t : Nat} {x : Int32} (hk : ai_lk T pc = some (ai_sp (ai_b1 P t))) (hp : P x = true) (g : bi_go D T n o t lv st h) : bi_go D T n o pc lv (.int x :: st) h := go_st hk (by simp only [ai_b1, hp, if_true]) g
theorem go_b1f {P : Int32 → Bool} {t : Nat} {x : Int32} (hk : ai_lk T pc = some (ai_sp (ai_b1 P t))) (hp : P x = false) (g : bi_go D T n o (pc + 3) lv st h) : bi_go D T n o pc lv (.int x :: st) h := go_st hk (by simp only [ai_b1, hp, Bool.false_eq_true, if_false]) g
theorem go_b2t {P : Int32 → Int32 → Bool} {t : Nat} {x y : Int32} (hk : ai_lk T pc = some (ai_sp (ai_b2 P t))) (hp : P x y = true) (g : bi_go D T n o t lv st h) : bi_go D T n o pc lv (.int y :: .int x :: st) h := go_st hk (by simp only [ai_b2, hp, if_true]) g
theorem go_b2f {P : Int32 → Int32 → Bool} {t : Nat} {x y : Int32} (hk : ai_lk T pc = some (ai_sp (ai_b2 P t))) (hp : P x y = false) (g : bi_go D T n o (pc + 3) lv st h) : bi_go D T n o pc lv (.int y :: .int x :: st) h := go_st hk (by simp only [ai_b2, hp, Bool.false_eq_true, if_false]) g
theorem go_ifeqT {t : Nat} {x : Int32} (hk : ai_lk T pc = some (op_ifeq t)) (hc : x = 0) (g : bi_go D T n o t lv st h) : bi_go D T n o pc lv (.int x :: st) h := go_b1t hk (decide_eq_true hc) g
theorem go_ifeqF {t : Nat} {x : Int32} (hk : ai_lk T pc = some (op_ifeq t)) (hc : ¬ (x = 0)) (g : bi_go D T n o (pc + 3) lv st h) : bi_go D T n o pc lv (.int x :: st) h := go_b1f hk (decide_eq_false hc) g
theorem go_ifneT {t : Nat} {x : Int32} (hk : ai_lk T pc = some (op_ifne t)) (hc : ¬ x = 0) (g : bi_go D T n o t lv st h) : bi_go D T n o pc lv (.int x :: st) h := go_b1t hk (decide_eq_true hc) g
theorem go_ifneF {t : Nat} {x : Int32} (hk : ai_lk T pc = some (op_ifne t)) (hc : ¬ (¬ x = 0)) (g : bi_go D T n o (pc + 3) lv st h) : bi_go D T n o pc lv (.int x :: st) h := go_b1f hk (decide_eq_false hc) g
theorem go_ifltT {t : Nat} {x : Int32} (hk : ai_lk T pc = some (op_iflt t)) (hc : x < 0) (g : bi_go D T n o t lv st h) : bi_go D T n o pc lv (.int x :: st) h := go_b1t hk (decide_eq_true hc) g
theorem go_ifltF {t : Nat} {x : Int32} (hk : ai_lk T pc = some (op_iflt t)) (hc : ¬ (x < 0)) (g : bi_go D T n o (pc + 3) lv st h) : bi_go D T n o pc lv (.int x :: st) h := go_b1f hk (decide_eq_false hc) g
theorem go_ifgeT {t : Nat} {x : Int32} (hk : ai_lk T pc = some (op_ifge t)) (hc : 0 ≤ x) (g : bi_go D T n o t lv st h) : bi_go D T n o pc lv (.int x :: st) h := go_b1t hk (decide_eq_true hc) g
theorem go_ifgeF {t : Nat} {x : Int32} (hk : ai_lk T pc = some (op_ifge t)) (hc : ¬ (0 ≤ x)) (g : bi_go D T n o (pc + 3) lv st h) : bi_go D T n o pc lv (.int x :: st) h := go_b1f hk (decide_eq_false hc) g
theorem go_ifgtT {t : Nat} {x : Int32} (hk : ai_lk T pc = some (op_ifgt t)) (hc : 0 < x) (g : bi_go D T n o t lv st h) : bi_go D T n o pc lv (.int x :: st) h := go_b1t hk (decide_eq_true hc) g
theorem go_ifgtF {t : Nat} {x : Int32} (hk : ai_lk T pc = some (op_ifgt t)) (hc : ¬ (0 < x)) (g : bi_go D T n o (pc + 3) lv st h) : bi_go D T n o pc lv (.int x :: st) h := go_b1f hk (decide_eq_false hc) g
theorem go_ifleT {t : Nat} {x : Int32} (hk : ai_lk T pc = some (op_ifle t)) (hc : x ≤ 0) (g : bi_go D T n o t lv st h) : bi_go D T n o pc lv (.int x :: st) h := go_b1t hk (decide_eq_true hc) g
theorem go_ifleF {t : Nat} {x : Int32} (hk : ai_lk T pc = some (op_ifle t)) (hc : ¬ (x ≤ 0)) (g : bi_go D T n o (pc + 3) lv st h) : bi_go D T n o pc lv (.int x :: st) h := go_b1f hk (decide_eq_false hc) g
theorem go_cmpeqT {t : Nat} {x y : Int32} (hk : ai_lk T pc = some (op_cmpeq t)) (hc : x = y) (g : bi_go D T n o t lv st h) : bi_go D T n o pc lv (.int y :: .int x :: st) h := go_b2t hk (decide_eq_true hc) g
theorem go_cmpeqF {t : Nat} {x y : Int32} (hk : ai_lk T pc = some (op_cmpeq t)) (hc : ¬ (x = y)) (g : bi_go D T n o (pc + 3) lv st h) : bi_go D T n o pc lv (.int y :: .int x :: st) h := go_b2f hk (decide_eq_false hc) g
theorem go_cmpneT {t : Nat} {x y : Int32} (hk : ai_lk T pc = some (op_cmpne t)) (hc : ¬ x = y) (g : bi_go D T n o t lv st h) : bi_go D T n o pc lv (.int y :: .int x :: st) h := go_b2t hk (decide_eq_true hc) g
theorem go_cmpneF {t : Nat} {x y : Int32} (hk : ai_lk T pc = some (op_cmpne t)) (hc : ¬ (¬ x = y)) (g : bi_go D T n o (pc + 3) lv st h) : bi_go D T n o pc lv (.int y :: .int x :: st) h := go_b2f hk (decide_eq_false hc) g
theorem go_cmpltT {t : Nat} {x y : Int32} (hk : ai_lk T pc = some (op_cmplt t)) (hc : x < y) (g : bi_go D T n o t lv st h) : bi_go D T n o pc lv (.int y :: .int x :: st) h := go_b2t hk (decide_eq_true hc) g
theorem go_cmpltF {t : Nat} {x y : Int32} (hk : ai_lk T pc = some (op_cmplt t)) (hc : ¬ (x < y)) (g : bi_go D T n o (pc + 3) lv st h) : bi_go D T n o pc lv (.int y :: .int x :: st) h := go_b2f hk (decide_eq_false hc) g
theorem go_cmpgeT {t : Nat} {x y : Int32} (hk : ai_lk T pc = some (op_cmpge t)) (hc : y ≤ x) (g : bi_go D T n o t lv st h) : bi_go D T n o pc lv (.int y :: .int x :: st) h := go_b2t hk (decide_eq_true hc) g
theorem go_cmpgeF {t : Nat} {x y : Int32} (hk : ai_lk T pc = some (op_cmpge t)) (hc : ¬ (y ≤ x)) (g : bi_go D T n o (pc + 3) lv st h) : bi_go D T n o pc lv (.int y :: .int x :: st) h := go_b2f hk (decide_eq_false hc) g
theorem go_cmpgtT {t : Nat} {x y : Int32} (hk : ai_lk T pc = some (op_cmpgt t)) (hc : y < x) (g : bi_go D T n o t lv st h) : bi_go D T n o pc lv (.int y :: .int x :: st) h := go_b2t hk (decide_eq_true hc) g
theorem go_cmpgtF {t : Nat} {x y : Int32} (hk : ai_lk T pc = some (op_cmpgt t)) (hc : ¬ (y < x)) (g : bi_go D T n o (pc + 3) lv st h) : bi_go D T n o pc lv (.int y :: .int x :: st) h := go_b2f hk (decide_eq_false hc) g
theorem go_cmpleT {t : Nat} {x y : Int32} (hk : ai_lk T pc = some (op_cmple t)) (hc : x ≤ y) (g : bi_go D T n o t lv st h) : bi_go D T n o pc lv (.int y :: .int x :: st) h := go_b2t hk (decide_eq_true hc) g
theorem go_cmpleF {t : Nat} {x y : Int32} (hk : ai_lk T pc = some (op_cmple t)) (hc : ¬ (x ≤ y)) (g : bi_go D T n o (pc + 3) lv st h) : bi_go D T n o pc lv (.int y :: .int x :: st) h := go_b2f hk (decide_eq_false hc) g
theorem go_swc {lo : Int} {ts : List Nat} {dd t : Nat} {x : Int32} (c : Int32) (hk : ai_lk T pc = some (op_sw lo ts dd)) (hc : x = c) (ht : (if c.toInt < lo then dd else ts.getD (c.toInt - lo).toNat dd) = t) (g : bi_go D T n o t lv st h) : bi_go D T n o pc lv (.int x :: st) h := go_st hk (by subst hc; simp only [ai_sw, ht]) g
theorem go_swd {lo : Int} {ts : List Nat} {dd : Nat} {x : Int32} (hk : ai_lk T pc = some (op_sw lo ts dd)) (hn : ∀ i : Nat, i < ts.length → ts.getD i dd = dd ∨ ¬ x.toInt = lo + (i : Int)) (g : bi_go D T n o dd lv st h) : bi_go D T n o pc lv (.int x :: st) h := go_st hk (by
  have ht : (if x.toInt < lo then dd else ts.getD (x.toInt - lo).toNat dd) = dd := by
    by_cases hx : x.toInt < lo
    · rw [if_pos hx]
    · rw [if_neg hx]
      by_cases hl : (x.toInt - lo).toNat < ts.length
      · rcases hn _ hl with h9 | h9
        · exact h9
        · exact absurd (show x.toInt = lo + (((x.toInt - lo).toNat : Nat) : Int) by omega) h9
      · rw [List.getD_eq_getElem?_getD, List.getElem?_eq_none (by omega)]
        rfl
  simp only [ai_sw, ht]) g
theorem go_gfI {oo ci k : Nat} {x : Int32} (hk : ai_lk T pc = some (op_gf ci k)) (e : pI n h oo ci k = some x) (g : bi_go D T n o (pc + 3) lv (.int x :: st) h) : bi_go D T n o pc lv (.ref oo :: st) h := go_st hk (by
  unfold pI at e
  simp only [ai_gf]
  split at e
  · rename_i fs hfs
    split at e
    · rename_i y hy
      cases e
      simp only [hfs, hy]
    · cases e
  · cases e) g
theorem go_gfJ {oo ci k : Nat} {x : Int64} (hk : ai_lk T pc = some (op_gf ci k)) (e : pJ n h oo ci k = some x) (g : bi_go D T n o (pc + 3) lv (.long x :: st) h) : bi_go D T n o pc lv (.ref oo :: st) h := go_st hk (by
  unfold pJ at e
  simp only [ai_gf]
  split at e
  · rename_i fs hfs
    split at e
    · rename_i y hy
      cases e
      simp only [hfs, hy]
    · cases e
  · cases e) g
theorem go_gfR {oo ci k : Nat} {x : Nat} (hk : ai_lk T pc = some (op_gf ci k)) (e : pR n h oo ci k = some x) (g : bi_go D T n o (pc + 3) lv (.ref x :: st) h) : bi_go D T n o pc lv (.ref oo :: st) h := go_st hk (by
  unfold pR at e
  simp only [ai_gf]
  split at e
  · rename_i fs hfs
    split at e
    · rename_i y hy
      cases e
      simp only [hfs, hy]
    · cases e
  · cases e) g
theorem go_pf {oo ci k : Nat} {ty : FieldType} {v : Value} (hk : ai_lk T pc = some (op_pf ci k ty)) (e : sF n h oo ci k ty v = some h1) (g : bi_go D T n o (pc + 3) lv st h1) : bi_go D T n o pc lv (v :: .ref oo :: st) h := go_st hk (by
  unfold sF at e
  simp only [ai_pf]
  split at e
  · rename_i fs hfs
    split at e
    · rename_i hc
      cases e
      simp only [hfs]
      rw [if_pos hc]
    · cases e
  · cases e) g
theorem go_len {a : Nat} {x : Int32} (hk : ai_lk T pc = some op_len) (e : lA n h a = some x) (g : bi_go D T n o (pc + 1) lv (.int x :: st) h) : bi_go D T n o pc lv (.ref a :: st) h := go_st hk (by
  unfold lA at e
  simp only [ai_len]
  split at e
  · rename_i k z f hf
    split at e
    · rename_i hc
      cases e
      simp only [hf]
      rw [if_pos hc]
    · cases e
  · cases e) g
theorem bi_xl {k a : Nat} {j x : Int32} (e : gX k n h a j = some x) : ai_xl k pc lv (.int j :: .ref a :: st) (h, n, 0, 0) = some (pc + 1, lv, .int x :: st, (h, n, 0, 0)) := by
  unfold gX at e
  simp only [ai_xl]
  split at e
  · rename_i k' z f hf
    split at e
    · rename_i hc
      cases e
      simp only [hf]
      rw [if_pos hc]
    · cases e
  · cases e
theorem bi_xln {k a : Nat} {j : Int32} (e : gX k n h a j = none) : ai_xl k pc lv (.int j :: .ref a :: st) (h, n, 0, 0) = none := by
  unfold gX at e
  simp only [ai_xl]
  split at e
  · rename_i k' z f hf
    split at e
    · cases e
    · rename_i hc
      simp only [hf]
      rw [if_neg hc]
  · rename_i hf
    split
    · rename_i k' z f hf2
      exact absurd hf2 (hf k' z f)
    · rfl
theorem go_iald {a : Nat} {j x : Int32} (hk : ai_lk T pc = some op_iald) (e : gX 1 n h a j = some x) (g : bi_go D T n o (pc + 1) lv (.int x :: st) h) : bi_go D T n o pc lv (.int j :: .ref a :: st) h := go_st hk (bi_xl e) g
theorem go_bald {a : Nat} {j x : Int32} (hk : ai_lk T pc = some op_bald) (e : gB n h a j = some x) (g : bi_go D T n o (pc + 1) lv (.int x :: st) h) : bi_go D T n o pc lv (.int j :: .ref a :: st) h := go_st hk (by
  unfold gB at e
  simp only [ai_or]
  split at e
  · rename_i y hy
    cases e
    rw [bi_xl hy]
  · rename_i hy
    rw [bi_xln hy]
    exact bi_xl e) g
theorem go_lald {a : Nat} {j : Int32} {x : Int64} (hk : ai_lk T pc = some op_lald) (e : gJ n h a j = some x) (g : bi_go D T n o (pc + 1) lv (.long x :: st) h) : bi_go D T n o pc lv (.int j :: .ref a :: st) h := go_st hk (by
  unfold gJ at e
  simp only [ai_lld]
  split at e
  · rename_i k' z f hf
    split at e
    · rename_i hc
      cases e
      simp only [hf]
      rw [if_pos hc]
    · cases e
  · cases e) g
theorem go_aald {a v : Nat} {j : Int32} (hk : ai_lk T pc = some op_aald) (e : gR n h a j = some v) (g : bi_go D T n o (pc + 1) lv (.ref v :: st) h) : bi_go D T n o pc lv (.int j :: .ref a :: st) h := go_st hk (by
  unfold gR at e
  simp only [ai_ald]
  split at e
  · rename_i k' z f hf
    split at e
    · rename_i hc
      simp only [hf]
      rw [if_pos hc, e]
      rfl
    · cases e
  · cases e) g
theorem bi_xs {k a : Nat} {gg : Int32 → Int32} {j x : Int32} (e : wX k gg n h a j x = some h1) : ai_xs k gg pc lv (.int x :: .int j :: .ref a :: st) (h, n, 0, 0) = some (pc + 1, lv, st, (h1, n, 0, 0)) := by
  unfold wX at e
  simp only [ai_xs]
  split at e
  · rename_i k' z f hf
    split at e
    · rename_i hc
      cases e
      simp only [hf]
      rw [if_pos hc]
    · cases e
  · cases e
theorem bi_xsn {k a : Nat} {gg : Int32 → Int32} {j x : Int32} (e : wX k gg n h a j x = none) : ai_xs k gg pc lv (.int x :: .int j :: .ref a :: st) (h, n, 0, 0) = none := by
  unfold wX at e
  simp only [ai_xs]
  split at e
  · rename_i k' z f hf
    split at e
    · cases e
    · rename_i hc
      simp only [hf]
      rw [if_neg hc]
  · rename_i hf
    split
    · rename_i k' z f hf2
      exact absurd hf2 (hf k' z f)
    · rfl
theorem go_iast {a : Nat} {j x : Int32} (hk : ai_lk T pc = some op_iast) (e : wX 1 (fun x => x) n h a j x = some h1) (g : bi_go D T n o (pc + 1) lv st h1) : bi_go D T n o pc lv (.int x :: .int j :: .ref a :: st) h := go_st hk (bi_xs e) g
theorem go_bast {a : Nat} {j x : Int32} (hk : ai_lk T pc = some op_bast) (e : wB n h a j x = some h1) (g : bi_go D T n o (pc + 1) lv st h1) : bi_go D T n o pc lv (.int x :: .int j :: .ref a :: st) h := go_st hk (by
  unfold wB at e
  simp only [ai_or]
  split at e
  · rename_i y hy
    cases e
    rw [bi_xs hy]
  · rename_i hy
    rw [bi_xsn hy]
    exact bi_xs e) g
theorem go_last {a : Nat} {j : Int32} {x : Int64} (hk : ai_lk T pc = some op_last) (e : wJ n h a j x = some h1) (g : bi_go D T n o (pc + 1) lv st h1) : bi_go D T n o pc lv (.long x :: .int j :: .ref a :: st) h := go_st hk (by
  unfold wJ at e
  simp only [ai_lxs]
  split at e
  · rename_i k' z f hf
    split at e
    · rename_i hc
      cases e
      simp only [hf]
      rw [if_pos hc]
    · cases e
  · cases e) g
theorem go_aast {a v : Nat} {j : Int32} (hk : ai_lk T pc = some op_aast) (e : wR n h a j v = some h1) (g : bi_go D T n o (pc + 1) lv st h1) : bi_go D T n o pc lv (.ref v :: .int j :: .ref a :: st) h := go_st hk (by
  unfold wR at e
  simp only [ai_axs]
  split at e
  · rename_i k' z f hf
    split at e
    · rename_i hc
      cases e
      simp only [hf]
      rw [if_pos hc]
    · cases e
  · cases e) g
theorem go_cp {a b : Nat} {sp dp m : Int32} (hk : ai_lk T pc = some op_cp) (e : cA n h a sp b dp m = some h1) (hs : (st.map fun v => v.category).sum ≤ 64) (g : bi_go D T n o (pc + 3) lv st h1) : bi_go D T n o pc lv (.int m :: .int dp :: .ref b :: .int sp :: .ref a :: st) h := go_st hk (by
  unfold cA at e
  simp only [ai_cp]
  split at e
  · rename_i ka za f kb zb gg h1' h2'
    split at e
    · rename_i hc
      cases e
      obtain ⟨c1, c2, c3, c4, c5, c6, c7⟩ := hc
      simp only [h1', h2']
      rw [if_pos ⟨c1, c2, c3, c4, c5, c6, c7, hs⟩]
    · cases e
  · cases e) g
theorem go_imax {x y : Int32} (hk : ai_lk T pc = some op_imax) (hs : (st.map fun v => v.category).sum ≤ 64) (g : bi_go D T n o (pc + 3) lv (.int (if x < y then y else x) :: st) h) : bi_go D T n o pc lv (.int y :: .int x :: st) h := go_st hk (by simp only [ai_m2, hs, if_true]) g
theorem go_imin {x y : Int32} (hk : ai_lk T pc = some op_imin) (hs : (st.map fun v => v.category).sum ≤ 64) (g : bi_go D T n o (pc + 3) lv (.int (if y < x then y else x) :: st) h) : bi_go D T n o pc lv (.int y :: .int x :: st) h := go_st hk (by simp only [ai_m2, hs, if_true]) g
theorem go_lmax {x y : Int64} (hk : ai_lk T pc = some op_lmax) (hs : (st.map fun v => v.category).sum ≤ 64) (g : bi_go D T n o (pc + 3) lv (.long (if y < x then x else y) :: st) h) : bi_go D T n o pc lv (.long y :: .long x :: st) h := go_st hk (by simp only [ai_ml, hs, if_true]) g
theorem go_lmin {x y : Int64} (hk : ai_lk T pc = some op_lmin) (hs : (st.map fun v => v.category).sum ≤ 64) (g : bi_go D T n o (pc + 3) lv (.long (if y < x then y else x) :: st) h) : bi_go D T n o pc lv (.long y :: .long x :: st) h := go_st hk (by simp only [ai_ml, hs, if_true]) g
theorem go_labs {x : Int64} (hk : ai_lk T pc = some op_labs) (hs : (st.map fun v => v.category).sum ≤ 64) (g : bi_go D T n o (pc + 3) lv (.long (if 0 < x then x else -x) :: st) h) : bi_go D T n o pc lv (.long x :: st) h := go_st hk (by simp only [ai_ma, hs, if_true]) g
theorem go_pw {i : Nat} {x z : Int32} (hk : ai_lk T pc = some (op_pw i)) (l : ai_ld i lv = some (.int x)) (e : pW x = some z) (g : bi_go D T n o (pc + 6) lv (.int z :: st) h) : bi_go D T n o pc lv st h := go_st hk (by
  unfold pW at e
  simp only [ai_pw, l]
  split at e
  · rename_i hc
    cases e
    rw [if_pos hc]
  · cases e) g
/-! calls -/
theorem go_call {f : ai_Op} {y fl : Nat} {vs : List Value} {v : Option Value} (hk : ai_lk T pc = some f) (hf : f pc lv st (h, n, 0, 0) = some (.inr (.inr (.inl (y, vs, rest, fl))))) (sp : bi_sp D y vs h n (.inl v, h1, n, 0, 0)) (g : bi_go D T n o (pc + 3) lv (v.toList ++ rest) h1) : bi_go D T n o pc lv st h := by
  intro d hd
  obtain ⟨k, hk2⟩ := g d hd
  refine ⟨k + 1, ?_⟩
  unfold ai_lp
  simp only [hk, Option.bind_some, hf]
  exact ⟨.inl v, h1, n, 0, 0, sp d hd, hk2⟩
theorem go_callX {f : ai_Op} {y fl E : Nat} {vs : List Value} (hk : ai_lk T pc = some f) (hf : f pc lv st (h, n, 0, 0) = some (.inr (.inr (.inl (y, vs, rest, fl))))) (hfl : fl ≠ 1) (sp : bi_sp D y vs h n (bi_X n E h1)) (ho : bi_X n E h1 = o) : bi_go D T n o pc lv st h := by
  intro d hd
  refine ⟨1, ?_⟩
  unfold ai_lp
  simp only [hk, Option.bind_some, hf]
  exact ⟨.inr E, h1, n, 1, 6, sp d hd, hfl, ho.symm⟩
theorem bi_iv {y na ci b : Nat} (hd : st.drop na = .ref b :: rest) (ho : kO n h b ci = some ()) (hs : (rest.map fun v => v.category).sum ≤ 8) : ai_iv y na ci pc lv st (h, n, 0, 0) = some (.inr (.inr (.inl (y, .ref b :: (st.take na).reverse, rest, 0)))) := by
  unfold kO at ho
  split at ho
  · rename_i hc
    simp only [ai_iv, hd]
    rw [if_pos ⟨hc, hs⟩]
  · cases ho
theorem bi_iS {y na : Nat} (hl : na ≤ st.length) (hd : st.drop na = rest) (hs : (rest.map fun v => v.category).sum ≤ 8) : ai_iS y na pc lv st (h, n, 0, 0) = some (.inr (.inr (.inl (y, (st.take na).reverse, rest, 1)))) := by
  subst hd
  simp only [ai_iS]
  rw [if_pos ⟨hl, hs⟩]
theorem go_ivI {y na ci b : Nat} {x : Int32} (hk : ai_lk T pc = some (ai_iv y na ci)) (hd : st.drop na = .ref b :: rest) (ho : kO n h b ci = some ()) (hs : (rest.map fun v => v.category).sum ≤ 8) (sp : bi_sp D y (.ref b :: (st.take na).reverse) h n (bi_I n x h1)) (g : bi_go D T n o (pc + 3) lv (.int x :: rest) h1) : bi_go D T n o pc lv st h := go_call hk (bi_iv hd ho hs) sp g
theorem go_iSI {y na : Nat} {x : Int32} (hk : ai_lk T pc = some (ai_iS y na)) (hl : na ≤ st.length) (hd : st.drop na = rest) (hs : (rest.map fun v => v.category).sum ≤ 8) (sp : bi_sp D y ((st.take na).reverse) h n (bi_I n x h1)) (g : bi_go D T n o (pc + 3) lv (.int x :: rest) h1) : bi_go D T n o pc lv st h := go_call hk (bi_iS hl hd hs) sp g
theorem go_ivJ {y na ci b : Nat} {x : Int64} (hk : ai_lk T pc = some (ai_iv y na ci)) (hd : st.drop na = .ref b :: rest) (ho : kO n h b ci = some ()) (hs : (rest.map fun v => v.category).sum ≤ 8) (sp : bi_sp D y (.ref b :: (st.take na).reverse) h n (bi_J n x h1)) (g : bi_go D T n o (pc + 3) lv (.long x :: rest) h1) : bi_go D T n o pc lv st h := go_call hk (bi_iv hd ho hs) sp g
theorem go_iSJ {y na : Nat} {x : Int64} (hk : ai_lk T pc = some (ai_iS y na)) (hl : na ≤ st.length) (hd : st.drop na = rest) (hs : (rest.map fun v => v.category).sum ≤ 8) (sp : bi_sp D y ((st.take na).reverse) h n (bi_J n x h1)) (g : bi_go D T n o (pc + 3) lv (.long x :: rest) h1) : bi_go D T n o pc lv st h := go_call hk (bi_iS hl hd hs) sp g
theorem go_ivV {y na ci b : Nat} (hk : ai_lk T pc = some (ai_iv y na ci)) (hd : st.drop na = .ref b :: rest) (ho : kO n h b ci = some ()) (hs : (rest.map fun v => v.category).sum ≤ 8) (sp : bi_sp D y (.ref b :: (st.take na).reverse) h n (bi_V n h1)) (g : bi_go D T n o (pc + 3) lv (rest) h1) : bi_go D T n o pc lv st h := go_call hk (bi_iv hd ho hs) sp g
theorem go_iSV {y na : Nat} (hk : ai_lk T pc = some (ai_iS y na)) (hl : na ≤ st.length) (hd : st.drop na = rest) (hs : (rest.map fun v => v.category).sum ≤ 8) (sp : bi_sp D y ((st.take na).reverse) h n (bi_V n h1)) (g : bi_go D T n o (pc + 3) lv (rest) h1) : bi_go D T n o pc lv st h := go_call hk (bi_iS hl hd hs) sp g
theorem go_ivX {y na ci b E : Nat} (hk : ai_lk T pc = some (ai_iv y na ci)) (hd : st.drop na = .ref b :: rest) (ho : kO n h b ci = some ()) (hs : (rest.map fun v => v.category).sum ≤ 8) (sp : bi_sp D y (.ref b :: (st.take na).reverse) h n (bi_X n E h1)) (hx : bi_X n E h1 = o) : bi_go D T n o pc lv st h := go_callX hk (bi_iv hd ho hs) (by decide) sp hx
/-! ends -/
theorem go_ret {f : ai_Op} {v : Option Value} (hk : ai_lk T pc = some f) (hf : f pc lv st (h, n, 0, 0) = some (.inr (.inl (v, (h, n, 0, 0))))) (ho : (.inl v, h, n, 0, 0) = o) : bi_go D T n o pc lv st h := by
  intro d hd
  refine ⟨1, ?_⟩
  unfold ai_lp
  simp only [hk, Option.bind_some, hf]
  exact ho.symm
theorem go_ri {x : Int32} {q : Int32 × ai_H} (hk : ai_lk T pc = some ai_ri) (hh : some (x, h) = some q) : bi_go D T n (fI n q) pc lv [.int x] h := go_ret hk rfl (by cases hh; rfl)
theorem bi_rz {x : Int32} {r : ai_Hp} (e : gZ x = some ()) : ai_rz pc lv [.int x] r = some (.inr (.inl (some (.int x), r))) := by
  unfold gZ at e
  split at e
  · rename_i hc
    simp only [ai_rz]
    rw [if_pos hc]
  · cases e
theorem go_rz {x : Int32} {q : Int32 × ai_H} (hk : ai_lk T pc = some ai_rz) (e : gZ x = some ()) (hh : some (x, h) = some q) : bi_go D T n (fI n q) pc lv [.int x] h := go_ret hk (bi_rz e) (by cases hh; rfl)
theorem go_rl {x : Int64} {q : Int64 × ai_H} (hk : ai_lk T pc = some ai_rl2) (hh : some (x, h) = some q) : bi_go D T n (fJ n q) pc lv [.long x] h := go_ret hk rfl (by cases hh; rfl)
theorem go_rv {q : Unit × ai_H} (hk : ai_lk T pc = some ai_rv) (hh : some ((), h) = some q) : bi_go D T n (fV n q) pc lv [] h := go_ret hk rfl (by cases hh; rfl)
theorem go_tri {x : Int32} {q : (Int32 ⊕ Nat) × ai_H} (hk : ai_lk T pc = some ai_ri) (hh : some (.inl x, h) = some q) : bi_go D T n (tI n q) pc lv [.int x] h := go_ret hk rfl (by cases hh; rfl)
theorem go_trv {q : (Unit ⊕ Nat) × ai_H} (hk : ai_lk T pc = some ai_rv) (hh : some (.inl (), h) = some q) : bi_go D T n (tV n q) pc lv [] h := go_ret hk rfl (by cases hh; rfl)
theorem go_th {E : Nat} (hk : ai_lk T pc = some (ai_th E)) (hs : (st.map fun v => v.category).sum ≤ 8) (ho : bi_X n E h = o) : bi_go D T n o pc lv st h := by
  intro d hd
  refine ⟨1, ?_⟩
  unfold ai_lp
  simp only [hk, Option.bind_some, ai_th, hs, if_true]
  exact ho.symm
theorem bi_xI {q : (Int32 ⊕ Nat) × ai_H} {E : Nat} (hh : some (.inr E, h) = some q) : bi_X n E h = tI n q := by cases hh; rfl
theorem bi_xV {q : (Unit ⊕ Nat) × ai_H} {E : Nat} (hh : some (.inr E, h) = some q) : bi_X n E h = tV n q := by cases hh; rfl
end BR
