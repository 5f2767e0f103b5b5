/-! ===== steps: what a method's walk has at each instruction; the instructions that leave the heap alone ===== -/
def ai_tys (aC : Nat → ClassId) : List (ClassId × FieldType) := [(aC 0, .byte), (aC 1, .int), (aC 2, .long), (aC 3, .boolean), (aC 4, .object "PathsKept$Standing")]
/-- what stays through a method's walk -/
def ai_X (p : Program) (R : Room) (s : State) (m : MethodId) (args : Array Value) (meth : Method) (c : Code) (D : va_G) (aC : Nat → ClassId) (A : Nat → Prop) (cc : ByteArray) (own : String × String) (nL : Nat) : Prop :=
  p.tables.exec = Jvm.exec ∧ c.code = cc ∧ s.vm.findClass own.1 = some m.cls ∧ ai_wd args s ∧ va_K D vwCl (ai_tys aC) s ∧ c.maxLocals = nL ∧ meth.locks = false ∧ meth.name = own.2 ∧ (∀ q, s.heap.size ≤ q → A q) ∧ 8 ≤ R.frames ∧ 256 ≤ R.locals ∧ ai_E A s
/-- what holds at an instruction -/
def ai_I (D : va_G) (aC : Nat → ClassId) (A : Nat → Prop) (ad0 : Nat → Nat) (n0 nL : Nat) (s : State) (ad : Nat → Nat) (H : Heap) (locs : List Loc) (ls : Array Slot) (lv : ai_L) (st : List Value) (r : ai_Hp) : Prop :=
  (n0 ≤ r.2.1 ∧ ∀ i, i < n0 → ad i = ad0 i) ∧ va_P D vwCl (ai_ws aC ad r.1 r.2.1) H ∧ va_D A (ai_ws aC ad r.1 r.2.1) ∧ va_S A s.heap H locs ∧ lv_has ls nL (ai_lv ad lv) ∧ ai_wS r.2.1 st ∧ ai_wL r.2.1 lv ∧ ai_wH r.2.1 r.1
/-- the goal at an instruction -/
def ai_G (p : Program) (l : Launch) (e : Env) (R : Room) (s : State) (m : MethodId) (args : Array Value) (below : List Frame) (meth : Method) (c : Code) (D : va_G) (aC : Nat → ClassId) (A : Nat → Prop) (ad0 : Nat → Nat) (n0 nL : Nat) (Q : State → Prop) (pc : Nat) (lv : ai_L) (st : List Value) (r : ai_Hp) : Prop :=
  ∀ (ad : Nat → Nat) (H : Heap) (locs : List Loc) (ls : Array Slot), ai_I D aC A ad0 n0 nL s ad H locs ls lv st r → W p l e R s m args below meth c H locs r.2.2.1 r.2.2.2 Q (F0 m pc ls (st.map (ai_cv ad)))
/-- an instruction that goes on in the same method -/
abbrev ai_Sp : Type := Nat → ai_L → List Value → ai_Hp → Option (Nat × ai_L × List Value × ai_Hp)
def ai_So (cc : ByteArray) (own : String × String) (nL pc : Nat) (f : ai_Sp) : Prop :=
  ∀ (p : Program) (l : Launch) (e : Env) (R : Room) (s : State) (m : MethodId) (args : Array Value) (below : List Frame) (meth : Method) (c : Code) (D : va_G) (aC : Nat → ClassId) (A : Nat → Prop) (ad0 : Nat → Nat) (n0 : Nat) (Q : State → Prop), ai_X p R s m args meth c D aC A cc own nL →
    ∀ (lv : ai_L) (st : List Value) (r : ai_Hp) (pc' : Nat) (lv' : ai_L) (st' : List Value) (r' : ai_Hp), f pc lv st r = some (pc', lv', st', r') → r'.2.2.1 ≤ R.cells ∧ r'.2.2.2 ≤ R.slots →
      ai_G p l e R s m args below meth c D aC A ad0 n0 nL Q pc' lv' st' r' → ai_G p l e R s m args below meth c D aC A ad0 n0 nL Q pc lv st r
/-- a row of the kit that moves the top of the stack alone -/
def ai_Rw (cc : ByteArray) (pc pc' : Nat) (a b : List Value) : Prop :=
  ∀ (p : Program) (l : Launch) (e : Env) (R : Room) (s : State) (m : MethodId) (args : Array Value) (below : List Frame) (meth : Method) (c : Code) (H : Heap) (locs : List Loc) (cells slots : Nat) (Q : State → Prop) (ls : Array Slot) (rest : List Value), p.tables.exec = Jvm.exec → c.code = cc →
    W p l e R s m args below meth c H locs cells slots Q (F0 m pc' ls (b ++ rest)) → W p l e R s m args below meth c H locs cells slots Q (F0 m pc ls (a ++ rest))
section Shapes
variable {cc : ByteArray} {own : String × String} {nL pc : Nat}
def ai_ib (g : Int32 → Int32 → Int32) : ai_Sp := fun pc lv st r => match st with
  | .int y :: .int x :: t => some (pc + 1, lv, .int (g x y) :: t, r)
  | _ => none
theorem ai_ib_ok {g : Int32 → Int32 → Int32} (h : ∀ x y, ai_Rw cc pc (pc + 1) [.int y, .int x] [.int (g x y)]) : ai_So cc own nL pc (ai_ib g) := by
  intro p l e R s m args below meth c D aC A ad0 n0 Q X lv st r pc' lv' st' r' hf hR hG ad H locs ls hI
  simp only [ai_ib] at hf
  split at hf
  · cases hf
    obtain ⟨i1, i2, i3, i4, i5, i6, i7, i8⟩ := hI
    exact h _ _ p l e R s m args below meth c H locs _ _ Q ls _ X.1 X.2.1 (hG ad H locs ls ⟨i1, i2, i3, i4, i5, ai_wS_c ai_lt_i (ai_wS_t (ai_wS_t i6)), i7, i8⟩)
  · cases hf
/-- with a divisor that isn't 0 -/
def ai_id (g : Int32 → Int32 → Int32) : ai_Sp := fun pc lv st r => match st with
  | .int y :: .int x :: t => if y = 0 then none else some (pc + 1, lv, .int (g x y) :: t, r)
  | _ => none
theorem ai_id_ok {g : Int32 → Int32 → Int32} (h : ∀ x y, ¬ y = 0 → ai_Rw cc pc (pc + 1) [.int y, .int x] [.int (g x y)]) : ai_So cc own nL pc (ai_id g) := by
  intro p l e R s m args below meth c D aC A ad0 n0 Q X lv st r pc' lv' st' r' hf hR hG ad H locs ls hI
  simp only [ai_id] at hf
  split at hf
  · split at hf
    · cases hf
    · rename_i hy
      cases hf
      obtain ⟨i1, i2, i3, i4, i5, i6, i7, i8⟩ := hI
      exact h _ _ hy p l e R s m args below meth c H locs _ _ Q ls _ X.1 X.2.1 (hG ad H locs ls ⟨i1, i2, i3, i4, i5, ai_wS_c ai_lt_i (ai_wS_t (ai_wS_t i6)), i7, i8⟩)
  · cases hf
def ai_lb (g : Int64 → Int64 → Int64) : ai_Sp := fun pc lv st r => match st with
  | .long y :: .long x :: t => some (pc + 1, lv, .long (g x y) :: t, r)
  | _ => none
theorem ai_lb_ok {g : Int64 → Int64 → Int64} (h : ∀ x y, ai_Rw cc pc (pc + 1) [.long y, .long x] [.long (g x y)]) : ai_So cc own nL pc (ai_lb g) := by
  intro p l e R s m args below meth c D aC A ad0 n0 Q X lv st r pc' lv' st' r' hf hR hG ad H locs ls hI
  simp only [ai_lb] at hf
  split at hf
  · cases hf
    obtain ⟨i1, i2, i3, i4, i5, i6, i7, i8⟩ := hI
    exact h _ _ p l e R s m args below meth c H locs _ _ Q ls _ X.1 X.2.1 (hG ad H locs ls ⟨i1, i2, i3, i4, i5, ai_wS_c ai_lt_l (ai_wS_t (ai_wS_t i6)), i7, i8⟩)
  · cases hf
def ai_le (g : Int64 → Int64 → Int64) : ai_Sp := fun pc lv st r => match st with
  | .long y :: .long x :: t => if y = 0 then none else some (pc + 1, lv, .long (g x y) :: t, r)
  | _ => none
theorem ai_le_ok {g : Int64 → Int64 → Int64} (h : ∀ x y, ¬ y = 0 → ai_Rw cc pc (pc + 1) [.long y, .long x] [.long (g x y)]) : ai_So cc own nL pc (ai_le g) := by
  intro p l e R s m args below meth c D aC A ad0 n0 Q X lv st r pc' lv' st' r' hf hR hG ad H locs ls hI
  simp only [ai_le] at hf
  split at hf
  · split at hf
    · cases hf
    · rename_i hy
      cases hf
      obtain ⟨i1, i2, i3, i4, i5, i6, i7, i8⟩ := hI
      exact h _ _ hy p l e R s m args below meth c H locs _ _ Q ls _ X.1 X.2.1 (hG ad H locs ls ⟨i1, i2, i3, i4, i5, ai_wS_c ai_lt_l (ai_wS_t (ai_wS_t i6)), i7, i8⟩)
  · cases hf
def ai_lI (g : Int64 → Int64 → Int32) : ai_Sp := fun pc lv st r => match st with
  | .long y :: .long x :: t => some (pc + 1, lv, .int (g x y) :: t, r)
  | _ => none
theorem ai_lI_ok {g : Int64 → Int64 → Int32} (h : ∀ x y, ai_Rw cc pc (pc + 1) [.long y, .long x] [.int (g x y)]) : ai_So cc own nL pc (ai_lI g) := by
  intro p l e R s m args below meth c D aC A ad0 n0 Q X lv st r pc' lv' st' r' hf hR hG ad H locs ls hI
  simp only [ai_lI] at hf
  split at hf
  · cases hf
    obtain ⟨i1, i2, i3, i4, i5, i6, i7, i8⟩ := hI
    exact h _ _ p l e R s m args below meth c H locs _ _ Q ls _ X.1 X.2.1 (hG ad H locs ls ⟨i1, i2, i3, i4, i5, ai_wS_c ai_lt_i (ai_wS_t (ai_wS_t i6)), i7, i8⟩)
  · cases hf
def ai_iu (g : Int32 → Int32) : ai_Sp := fun pc lv st r => match st with
  | .int x :: t => some (pc + 1, lv, .int (g x) :: t, r)
  | _ => none
theorem ai_iu_ok {g : Int32 → Int32} (h : ∀ x, ai_Rw cc pc (pc + 1) [.int x] [.int (g x)]) : ai_So cc own nL pc (ai_iu g) := by
  intro p l e R s m args below meth c D aC A ad0 n0 Q X lv st r pc' lv' st' r' hf hR hG ad H locs ls hI
  simp only [ai_iu] at hf
  split at hf
  · cases hf
    obtain ⟨i1, i2, i3, i4, i5, i6, i7, i8⟩ := hI
    exact h _ p l e R s m args below meth c H locs _ _ Q ls _ X.1 X.2.1 (hG ad H locs ls ⟨i1, i2, i3, i4, i5, ai_wS_c ai_lt_i (ai_wS_t i6), i7, i8⟩)
  · cases hf
def ai_lu (g : Int64 → Int64) : ai_Sp := fun pc lv st r => match st with
  | .long x :: t => some (pc + 1, lv, .long (g x) :: t, r)
  | _ => none
theorem ai_lu_ok {g : Int64 → Int64} (h : ∀ x, ai_Rw cc pc (pc + 1) [.long x] [.long (g x)]) : ai_So cc own nL pc (ai_lu g) := by
  intro p l e R s m args below meth c D aC A ad0 n0 Q X lv st r pc' lv' st' r' hf hR hG ad H locs ls hI
  simp only [ai_lu] at hf
  split at hf
  · cases hf
    obtain ⟨i1, i2, i3, i4, i5, i6, i7, i8⟩ := hI
    exact h _ p l e R s m args below meth c H locs _ _ Q ls _ X.1 X.2.1 (hG ad H locs ls ⟨i1, i2, i3, i4, i5, ai_wS_c ai_lt_l (ai_wS_t i6), i7, i8⟩)
  · cases hf
def ai_i2l : ai_Sp := fun pc lv st r => match st with
  | .int x :: t => some (pc + 1, lv, .long x.toInt64 :: t, r)
  | _ => none
theorem ai_i2l_ok (hd : decode cc pc = .ok (.i2l, 1)) : ai_So cc own nL pc ai_i2l := by
  intro p l e R s m args below meth c D aC A ad0 n0 Q X lv st r pc' lv' st' r' hf hR hG ad H locs ls hI
  simp only [ai_i2l] at hf
  split at hf
  · cases hf
    obtain ⟨i1, i2, i3, i4, i5, i6, i7, i8⟩ := hI
    exact lv_i2l X.1 X.2.1 hd rfl (hG ad H locs ls ⟨i1, i2, i3, i4, i5, ai_wS_c ai_lt_l (ai_wS_t i6), i7, i8⟩)
  · cases hf
def ai_l2i : ai_Sp := fun pc lv st r => match st with
  | .long x :: t => some (pc + 1, lv, .int x.toInt32 :: t, r)
  | _ => none
theorem ai_l2i_ok (hd : decode cc pc = .ok (.l2i, 1)) : ai_So cc own nL pc ai_l2i := by
  intro p l e R s m args below meth c D aC A ad0 n0 Q X lv st r pc' lv' st' r' hf hR hG ad H locs ls hI
  simp only [ai_l2i] at hf
  split at hf
  · cases hf
    obtain ⟨i1, i2, i3, i4, i5, i6, i7, i8⟩ := hI
    exact lv_l2i X.1 X.2.1 hd rfl (hG ad H locs ls ⟨i1, i2, i3, i4, i5, ai_wS_c ai_lt_i (ai_wS_t i6), i7, i8⟩)
  · cases hf
def ai_pi (len : Nat) (v : Int32) : ai_Sp := fun pc lv st r => some (pc + len, lv, .int v :: st, r)
theorem ai_pi_ok {len : Nat} {v : Int32} (h : ai_Rw cc pc (pc + len) [] [.int v]) : ai_So cc own nL pc (ai_pi len v) := by
  intro p l e R s m args below meth c D aC A ad0 n0 Q X lv st r pc' lv' st' r' hf hR hG ad H locs ls hI
  cases hf
  obtain ⟨i1, i2, i3, i4, i5, i6, i7, i8⟩ := hI
  exact h p l e R s m args below meth c H locs _ _ Q ls _ X.1 X.2.1 (hG ad H locs ls ⟨i1, i2, i3, i4, i5, ai_wS_c ai_lt_i i6, i7, i8⟩)
def ai_pl (len : Nat) (v : Int64) : ai_Sp := fun pc lv st r => some (pc + len, lv, .long v :: st, r)
theorem ai_pl_ok {len : Nat} {v : Int64} (h : ai_Rw cc pc (pc + len) [] [.long v]) : ai_So cc own nL pc (ai_pl len v) := by
  intro p l e R s m args below meth c D aC A ad0 n0 Q X lv st r pc' lv' st' r' hf hR hG ad H locs ls hI
  cases hf
  obtain ⟨i1, i2, i3, i4, i5, i6, i7, i8⟩ := hI
  exact h p l e R s m args below meth c H locs _ _ Q ls _ X.1 X.2.1 (hG ad H locs ls ⟨i1, i2, i3, i4, i5, ai_wS_c ai_lt_l i6, i7, i8⟩)
/-! branches -/
def ai_b1 (P : Int32 → Bool) (tgt : Nat) : ai_Sp := fun pc lv st r => match st with
  | .int x :: t => some (if P x = true then tgt else pc + 3, lv, t, r)
  | _ => none
theorem ai_b1_ok {P : Int32 → Bool} {tgt : Nat} (h1 : ∀ x, P x = true → ai_Rw cc pc tgt [.int x] []) (h2 : ∀ x, ¬ P x = true → ai_Rw cc pc (pc + 3) [.int x] []) : ai_So cc own nL pc (ai_b1 P tgt) := by
  intro p l e R s m args below meth c D aC A ad0 n0 Q X lv st r pc' lv' st' r' hf hR hG ad H locs ls hI
  simp only [ai_b1] at hf
  split at hf
  · rename_i x t
    obtain ⟨i1, i2, i3, i4, i5, i6, i7, i8⟩ := hI
    by_cases hp : P x = true
    · rw [if_pos hp] at hf
      cases hf
      exact h1 _ hp p l e R s m args below meth c H locs _ _ Q ls _ X.1 X.2.1 (hG ad H locs ls ⟨i1, i2, i3, i4, i5, ai_wS_t i6, i7, i8⟩)
    · rw [if_neg hp] at hf
      cases hf
      exact h2 _ hp p l e R s m args below meth c H locs _ _ Q ls _ X.1 X.2.1 (hG ad H locs ls ⟨i1, i2, i3, i4, i5, ai_wS_t i6, i7, i8⟩)
  · cases hf
def ai_b2 (P : Int32 → Int32 → Bool) (tgt : Nat) : ai_Sp := fun pc lv st r => match st with
  | .int y :: .int x :: t => some (if P x y = true then tgt else pc + 3, lv, t, r)
  | _ => none
theorem ai_b2_ok {P : Int32 → Int32 → Bool} {tgt : Nat} (h1 : ∀ x y, P x y = true → ai_Rw cc pc tgt [.int y, .int x] []) (h2 : ∀ x y, ¬ P x y = true → ai_Rw cc pc (pc + 3) [.int y, .int x] []) : ai_So cc own nL pc (ai_b2 P tgt) := by
  intro p l e R s m args below meth c D aC A ad0 n0 Q X lv st r pc' lv' st' r' hf hR hG ad H locs ls hI
  simp only [ai_b2] at hf
  split at hf
  · rename_i y x t
    obtain ⟨i1, i2, i3, i4, i5, i6, i7, i8⟩ := hI
    by_cases hp : P x y = true
    · rw [if_pos hp] at hf
      cases hf
      exact h1 _ _ hp p l e R s m args below meth c H locs _ _ Q ls _ X.1 X.2.1 (hG ad H locs ls ⟨i1, i2, i3, i4, i5, ai_wS_t (ai_wS_t i6), i7, i8⟩)
    · rw [if_neg hp] at hf
      cases hf
      exact h2 _ _ hp p l e R s m args below meth c H locs _ _ Q ls _ X.1 X.2.1 (hG ad H locs ls ⟨i1, i2, i3, i4, i5, ai_wS_t (ai_wS_t i6), i7, i8⟩)
  · cases hf
def ai_go (tgt : Nat) : ai_Sp := fun _ lv st r => some (tgt, lv, st, r)
theorem ai_go_ok {off : Int} {tgt : Nat} (hd : decode cc pc = .ok (.goto off, 3)) (ht : (pc : Int) + off = (tgt : Int)) : ai_So cc own nL pc (ai_go tgt) := by
  intro p l e R s m args below meth c D aC A ad0 n0 Q X lv st r pc' lv' st' r' hf hR hG ad H locs ls hI
  cases hf
  exact lv_goto X.1 X.2.1 hd ht (hG ad H locs ls hI)
/-- a switch by a table: the places of its cases from lo on, the place of all others -/
def ai_sw (lo : Int) (ts : List Nat) (d : Nat) : ai_Sp := fun _ lv st r => match st with
  | .int x :: t => some (if x.toInt < lo then d else ts.getD (x.toInt - lo).toNat d, lv, t, r)
  | _ => none
theorem ai_sw_ok {lo hi dflt : Int} {offs : Array Int} {len : Nat} {ts : List Nat} {d : Nat} (hd : decode cc pc = .ok (.tableswitch dflt lo hi offs, len)) (hl : (ts.length : Int) = hi - lo + 1) (hdf : (pc : Int) + dflt = (d : Int)) (ho : (offs.toList.map fun o => (pc : Int) + o) = ts.map fun (t : Nat) => (t : Int)) : ai_So cc own nL pc (ai_sw lo ts d) := by
  intro p l e R s m args below meth c D aC A ad0 n0 Q X lv st r pc' lv' st' r' hf hR hG ad H locs ls hI
  simp only [ai_sw] at hf
  split at hf
  · rename_i x t
    obtain ⟨i1, i2, i3, i4, i5, i6, i7, i8⟩ := hI
    have hI' : ai_I D aC A ad0 n0 nL s ad H locs ls lv t r := ⟨i1, i2, i3, i4, i5, ai_wS_t i6, i7, i8⟩
    by_cases h1 : x.toInt < lo
    · rw [if_pos h1] at hf
      cases hf
      exact lv_tableOut X.1 X.2.1 hd (Or.inl h1) hdf (hG ad H locs ls hI')
    · rw [if_neg h1] at hf
      by_cases h2 : hi < x.toInt
      · have hn : ts.getD (x.toInt - lo).toNat d = d := by
          rw [List.getD_eq_getElem?_getD, List.getElem?_eq_none (by omega)]; rfl
        rw [hn] at hf
        cases hf
        exact lv_tableOut X.1 X.2.1 hd (Or.inr h2) hdf (hG ad H locs ls hI')
      · have hk : (x.toInt - lo).toNat < ts.length := by omega
        have hlen : offs.toList.length = ts.length := by
          have h9 := congrArg List.length ho
          simpa using h9
        have hk2 : (x.toInt - lo).toNat < offs.toList.length := by omega
        cases hf
        refine lv_tableIn X.1 X.2.1 hd h1 h2 (off := offs.toList[(x.toInt - lo).toNat]) ?_ ?_ (hG ad H locs ls hI')
        · rw [← Array.getElem?_toList]
          exact List.getElem?_eq_getElem hk2
        · have h9 : (offs.toList.map fun o => (pc : Int) + o)[(x.toInt - lo).toNat]? = (ts.map fun (t : Nat) => (t : Int))[(x.toInt - lo).toNat]? := by rw [ho]
          rw [List.getElem?_map, List.getElem?_map, List.getElem?_eq_getElem hk2, List.getElem?_eq_getElem hk] at h9
          rw [List.getD_eq_getElem?_getD, List.getElem?_eq_getElem hk]
          simpa using h9
  · cases hf
/-! the stack -/
def ai_dup : ai_Sp := fun pc lv st r => match st with
  | v :: t => if v.category = 1 then some (pc + 1, lv, v :: v :: t, r) else none
  | _ => none
theorem ai_dup_ok (hd : decode cc pc = .ok (.dup, 1)) : ai_So cc own nL pc ai_dup := by
  intro p l e R s m args below meth c D aC A ad0 n0 Q X lv st r pc' lv' st' r' hf hR hG ad H locs ls hI
  simp only [ai_dup] at hf
  split at hf
  · split at hf
    · rename_i hc
      cases hf
      obtain ⟨i1, i2, i3, i4, i5, i6, i7, i8⟩ := hI
      exact lv_dup X.1 X.2.1 hd (by rw [ai_cat]; exact hc) (hG ad H locs ls ⟨i1, i2, i3, i4, i5, ai_wS_c (ai_wS_h i6) i6, i7, i8⟩)
    · cases hf
  · cases hf
def ai_dup2 : ai_Sp := fun pc lv st r => match st with
  | v :: w :: t => if v.category = 1 ∧ w.category = 1 then some (pc + 1, lv, v :: w :: v :: w :: t, r) else none
  | _ => none
theorem ai_dup2_ok (hd : decode cc pc = .ok (.dup2, 1)) : ai_So cc own nL pc ai_dup2 := by
  intro p l e R s m args below meth c D aC A ad0 n0 Q X lv st r pc' lv' st' r' hf hR hG ad H locs ls hI
  simp only [ai_dup2] at hf
  split at hf
  · split at hf
    · rename_i hc
      cases hf
      obtain ⟨i1, i2, i3, i4, i5, i6, i7, i8⟩ := hI
      exact lv_dup2_11 X.1 X.2.1 hd (by rw [ai_cat]; exact hc.1) (by rw [ai_cat]; exact hc.2) (hG ad H locs ls ⟨i1, i2, i3, i4, i5, ai_wS_c (ai_wS_h i6) (ai_wS_c (ai_wS_h (ai_wS_t i6)) i6), i7, i8⟩)
    · cases hf
  · cases hf
def ai_pop : ai_Sp := fun pc lv st r => match st with
  | v :: t => if v.category = 1 then some (pc + 1, lv, t, r) else none
  | _ => none
theorem ai_pop_ok (hd : decode cc pc = .ok (.pop, 1)) : ai_So cc own nL pc ai_pop := by
  intro p l e R s m args below meth c D aC A ad0 n0 Q X lv st r pc' lv' st' r' hf hR hG ad H locs ls hI
  simp only [ai_pop] at hf
  split at hf
  · split at hf
    · rename_i hc
      cases hf
      obtain ⟨i1, i2, i3, i4, i5, i6, i7, i8⟩ := hI
      exact lv_pop X.1 X.2.1 hd (by rw [ai_cat]; exact hc) (hG ad H locs ls ⟨i1, i2, i3, i4, i5, ai_wS_t i6, i7, i8⟩)
    · cases hf
  · cases hf
end Shapes
