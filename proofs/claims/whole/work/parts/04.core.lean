/-! ===== THE ABSTRACT MACHINE (ai_): values whose references are numbers of cells; a heap as a function of these numbers; one row of soundness an instruction ===== -/
abbrev ai_H : Type := Nat → va_E
/-- the heap, how many cells it has, how many cells and slots were made since the method's entry -/
abbrev ai_Hp : Type := ai_H × Nat × Nat × Nat
abbrev ai_L : Type := List (Nat × Value)
abbrev ai_F : Type := (Nat → Int32) ⊕ (Nat → Int64) ⊕ (Nat → UInt32) ⊕ (Nat → UInt64) ⊕ (Nat → Option Nat)
/-- a value at its address -/
def ai_cv (ad : Nat → Nat) (v : Value) : Value := match v with
  | .ref i => .ref (ad i)
  | .int x => .int x
  | .long x => .long x
  | .float x => .float x
  | .double x => .double x
  | .null => .null
  | .retAddr x => .retAddr x
def ai_cf (ad : Nat → Nat) (f : ai_F) : ai_F := match f with
  | .inl f => .inl f
  | .inr (.inl f) => .inr (.inl f)
  | .inr (.inr (.inl f)) => .inr (.inr (.inl f))
  | .inr (.inr (.inr (.inl f))) => .inr (.inr (.inr (.inl f)))
  | .inr (.inr (.inr (.inr f))) => .inr (.inr (.inr (.inr (fun j => (f j).map ad))))
def ai_ca (aC : Nat → ClassId) (ad : Nat → Nat) (x : va_E) : va_E := match x with
  | .inl (k, z, f) => .inl (aC k, z, ai_cf ad f)
  | .inr (ci, fs) => .inr (ci, fs.map (ai_cv ad))
/-- the cells 1 .. n - 1, at their addresses; 0 is no cell of the world's: the law's own script -/
def ai_ws (aC : Nat → ClassId) (ad : Nat → Nat) (h : ai_H) (n : Nat) : va_W := (List.range (n - 1)).map (fun i => (ad (i + 1), ai_ca aC ad (h (i + 1))))
def ai_lv (ad : Nat → Nat) (lv : ai_L) : ai_L := lv.map (fun q => (q.1, ai_cv ad q.2))
/-- references that are there -/
def ai_lt (n : Nat) (v : Value) : Prop := ∀ i, v = .ref i → i < n
def ai_ltE (n : Nat) (x : va_E) : Prop := match x with
  | .inl (_, _, .inr (.inr (.inr (.inr f)))) => ∀ j i, f j = some i → i < n
  | .inl (_, _, .inl _) => True
  | .inl (_, _, .inr (.inl _)) => True
  | .inl (_, _, .inr (.inr (.inl _))) => True
  | .inl (_, _, .inr (.inr (.inr (.inl _)))) => True
  | .inr (_, fs) => ∀ v ∈ fs, ai_lt n v
def ai_wS (n : Nat) (st : List Value) : Prop := ∀ v ∈ st, ai_lt n v
def ai_wL (n : Nat) (lv : ai_L) : Prop := ∀ q ∈ lv, ai_lt n q.2
def ai_wH (n : Nat) (h : ai_H) : Prop := 0 < n ∧ ∀ i, 0 < i ∧ i < n → ai_ltE n (h i)
theorem ai_lt_i {n : Nat} {x : Int32} : ai_lt n (.int x) := fun _ h => by cases h
theorem ai_lt_l {n : Nat} {x : Int64} : ai_lt n (.long x) := fun _ h => by cases h
theorem ai_lt_0 {n : Nat} : ai_lt n .null := fun _ h => by cases h
theorem ai_lt_r {n i : Nat} (h : i < n) : ai_lt n (.ref i) := fun _ e => by cases e; exact h
theorem ai_lt_mono {n k : Nat} {v : Value} (h : ai_lt n v) (hk : n ≤ k) : ai_lt k v := fun i e => Nat.lt_of_lt_of_le (h i e) hk
theorem ai_wS_c {n : Nat} {v : Value} {st : List Value} (h : ai_lt n v) (t : ai_wS n st) : ai_wS n (v :: st) := fun w hw => by
  rcases List.mem_cons.mp hw with rfl | hw
  · exact h
  · exact t w hw
theorem ai_wS_t {n : Nat} {v : Value} {st : List Value} (h : ai_wS n (v :: st)) : ai_wS n st := fun w hw => h w (List.mem_cons_of_mem _ hw)
theorem ai_wS_h {n : Nat} {v : Value} {st : List Value} (h : ai_wS n (v :: st)) : ai_lt n v := h v List.mem_cons_self
theorem ai_wS_n {n : Nat} : ai_wS n [] := fun _ h => by cases h
theorem ai_ws_len {aC : Nat → ClassId} {ad : Nat → Nat} {h : ai_H} {n : Nat} : (ai_ws aC ad h n).length = n - 1 := by simp [ai_ws]
theorem ai_ws_get0 {aC : Nat → ClassId} {ad : Nat → Nat} {h : ai_H} {n j : Nat} (hj : j < n - 1) : (ai_ws aC ad h n)[j]? = some (ad (j + 1), ai_ca aC ad (h (j + 1))) := by
  simp [ai_ws, hj]
theorem ai_ws_get {aC : Nat → ClassId} {ad : Nat → Nat} {h : ai_H} {n i : Nat} (hi : 0 < i ∧ i < n) : (ai_ws aC ad h n)[i - 1]? = some (ad i, ai_ca aC ad (h i)) := by
  have h1 : i - 1 + 1 = i := by omega
  rw [ai_ws_get0 (by omega), h1]
theorem ai_ws_set {aC : Nat → ClassId} {ad : Nat → Nat} {h : ai_H} {n i : Nat} (hi : 0 < i ∧ i < n) (x : va_E) : (ai_ws aC ad h n).set (i - 1) (ad i, ai_ca aC ad x) = ai_ws aC ad (va_up h i x) n := by
  apply List.ext_getElem?
  intro j
  by_cases hj : j = i - 1
  · subst hj
    rw [List.getElem?_set_self (by rw [ai_ws_len]; omega), ai_ws_get hi]
    simp [va_up]
  · rw [List.getElem?_set_ne (Ne.symm hj)]
    by_cases hn : j < n - 1
    · rw [ai_ws_get0 hn, ai_ws_get0 hn]
      have h2 : ¬ j + 1 = i := by omega
      simp [va_up, h2]
    · rw [List.getElem?_eq_none (by rw [ai_ws_len]; omega), List.getElem?_eq_none (by rw [ai_ws_len]; omega)]
theorem ai_cv_up {ad : Nat → Nat} {n q : Nat} {v : Value} (h : ai_lt n v) : ai_cv (va_up ad n q) v = ai_cv ad v := by
  cases v with
  | ref i =>
    have h2 : ¬ i = n := Nat.ne_of_lt (h i rfl)
    simp [ai_cv, va_up, h2]
  | _ => rfl
theorem ai_ca_up {aC : Nat → ClassId} {ad : Nat → Nat} {n q : Nat} {x : va_E} (h : ai_ltE n x) : ai_ca aC (va_up ad n q) x = ai_ca aC ad x := by
  obtain ⟨k, z, f⟩ | ⟨ci, fs⟩ := x
  · obtain f | f | f | f | f := f
    · rfl
    · rfl
    · rfl
    · rfl
    · have h : ∀ j i, f j = some i → i < n := h
      have e : (fun j => (f j).map (va_up ad n q)) = (fun j => (f j).map ad) := by
        funext j
        cases hj : f j with
        | none => rfl
        | some i =>
          have h1 := h j i hj
          have h2 : ¬ i = n := by omega
          simp [va_up, h2]
      simp only [ai_ca, ai_cf, e]
  · have h : ∀ v ∈ fs, ai_lt n v := h
    have e : fs.map (ai_cv (va_up ad n q)) = fs.map (ai_cv ad) := List.map_congr_left (fun v hv => ai_cv_up (h v hv))
    simp only [ai_ca, e]
theorem ai_ws_push {aC : Nat → ClassId} {ad : Nat → Nat} {h : ai_H} {n q : Nat} {x y : va_E} (hw : ai_wH n h) (hx : ai_ca aC (va_up ad n q) x = y) : (ai_ws aC ad h n) ++ [(q, y)] = ai_ws aC (va_up ad n q) (va_up h n x) (n + 1) := by
  obtain ⟨n', rfl⟩ : ∃ n', n = n' + 1 := ⟨n - 1, by have := hw.1; omega⟩
  unfold ai_ws
  rw [show n' + 1 + 1 - 1 = n' + 1 by omega, show n' + 1 - 1 = n' by omega, List.range_succ, List.map_append]
  congr 1
  · apply List.map_congr_left
    intro i hi
    have hi' : i < n' := List.mem_range.mp hi
    have h2 : ¬ i + 1 = n' + 1 := by omega
    simp only [va_up, if_neg h2]
    rw [ai_ca_up (hw.2 (i + 1) (by omega))]
  · simp only [List.map_cons, List.map_nil, va_up, if_pos, ← hx]
theorem ai_cat (ad : Nat → Nat) (v : Value) : (ai_cv ad v).category = v.category := by cases v <;> rfl
theorem ai_cats (ad : Nat → Nat) (st : List Value) : ((st.map (ai_cv ad)).map fun v => v.category) = st.map fun v => v.category := by
  rw [List.map_map]
  exact List.map_congr_left (fun v _ => ai_cat ad v)
/-! locals -/
def ai_ld (i : Nat) (lv : ai_L) : Option Value := (lv.find? (fun q => q.1 == i)).map (fun q => q.2)
def ai_s1 (i : Nat) (v : Value) (lv : ai_L) : ai_L := (i, v) :: lv.filter (fun q => !(q.1 == i) && !(q.1 + 1 == i && q.2.category == 2))
def ai_s2 (i : Nat) (v : Value) (lv : ai_L) : ai_L := (i, v) :: lv.filter (fun q => !(q.1 == i) && (!(q.1 == i + 1) && !(q.1 + 1 == i && q.2.category == 2)))
theorem ai_ld_at {ad : Nat → Nat} {ls : Array Slot} {nL i : Nat} {lv : ai_L} {v : Value} (h : lv_has ls nL (ai_lv ad lv)) (hv : ai_ld i lv = some v) : ls[i]? = some (.val (ai_cv ad v)) := by
  unfold ai_ld at hv
  cases hf : lv.find? (fun q => q.1 == i) with
  | none => rw [hf] at hv; cases hv
  | some q =>
    rw [hf] at hv
    cases hv
    have h1 := List.find?_some hf
    have h2 := List.mem_of_find?_eq_some hf
    have h3 : q.1 = i := by simpa using h1
    subst h3
    exact h.2.2 (q.1, ai_cv ad q.2) (List.mem_map.mpr ⟨q, h2, rfl⟩)
theorem ai_ld_lt {n i : Nat} {lv : ai_L} {v : Value} (h : ai_wL n lv) (hv : ai_ld i lv = some v) : ai_lt n v := by
  unfold ai_ld at hv
  cases hf : lv.find? (fun q => q.1 == i) with
  | none => rw [hf] at hv; cases hv
  | some q =>
    rw [hf] at hv
    cases hv
    exact h q (List.mem_of_find?_eq_some hf)
theorem ai_s1_lv (ad : Nat → Nat) (i : Nat) (v : Value) (lv : ai_L) : (i, ai_cv ad v) :: (ai_lv ad lv).filter (fun q => !(q.1 == i) && !(q.1 + 1 == i && q.2.category == 2)) = ai_lv ad (ai_s1 i v lv) := by
  unfold ai_s1 ai_lv
  rw [List.filter_map]
  simp only [List.map_cons, Function.comp_def, ai_cat]
theorem ai_s2_lv (ad : Nat → Nat) (i : Nat) (v : Value) (lv : ai_L) : (i, ai_cv ad v) :: (ai_lv ad lv).filter (fun q => !(q.1 == i) && (!(q.1 == i + 1) && !(q.1 + 1 == i && q.2.category == 2))) = ai_lv ad (ai_s2 i v lv) := by
  unfold ai_s2 ai_lv
  rw [List.filter_map]
  simp only [List.map_cons, Function.comp_def, ai_cat]
theorem ai_s1_w {n i : Nat} {v : Value} {lv : ai_L} (h : ai_lt n v) (hl : ai_wL n lv) : ai_wL n (ai_s1 i v lv) := by
  intro q hq
  rcases List.mem_cons.mp hq with rfl | hq
  · exact h
  · exact hl q (List.mem_filter.mp hq).1
theorem ai_s2_w {n i : Nat} {v : Value} {lv : ai_L} (h : ai_lt n v) (hl : ai_wL n lv) : ai_wL n (ai_s2 i v lv) := by
  intro q hq
  rcases List.mem_cons.mp hq with rfl | hq
  · exact h
  · exact hl q (List.mem_filter.mp hq).1
/-! words that go with the machine wherever it goes -/
def ai_nw (w : Cond) : Bool := match w with
  | .fieldLinkNest .. => true
  | .methodLinkNest .. => true
  | .declares .. => true
  | .castable .. => true
  | _ => false
def ai_mv (w : Cond) : Bool := goodWord w || ai_nw w
theorem ai_mv_at {args a' : Array Value} {s U : State} {w : Cond} (hW : s.WarmedH U.vm) (hm : ai_mv w = true) (h : w.before args s = true) : w.before a' U = true := by
  by_cases hg : goodWord w = true
  · exact word_at hW (good_of_word hg) h
  · have hg' : goodWord w = false := by cases hq : goodWord w; rfl; exact absurd hq hg
    have hm : ai_nw w = true := by simpa [ai_mv, hg'] using hm
    cases w with
    | fieldLinkNest a i b n d h' => exact va_Nw.use rfl (va_Nw.warmF hW (va_Nw.of rfl h))
    | methodLinkNest a i x h' => exact va_Nw.use rfl (va_Nw.warmM hW (va_Nw.of rfl h))
    | declares x => exact va_Nw.use rfl (va_Nw.warmD hW (va_Nw.of rfl h))
    | castable a b => exact va_Nw.use rfl (va_Nw.warmC hW (va_Nw.of rfl h))
    | _ => cases hm
def ai_wd (args : Array Value) (U : State) : Prop := ∀ w ∈ lw_tbl, ai_mv w = true → w.before args U = true
theorem ai_wd_at {args a' : Array Value} {s U : State} (hW : s.WarmedH U.vm) (h : ai_wd args s) : ai_wd a' U := fun w hw hm => ai_mv_at hW hm (h w hw hm)
/-! the old heap -/
/-- the bytes of the words' text -/
def ai_wds : List Int32 := [112, 108, 97, 99, 101, 32, 112, 97, 116, 104, 32, 119, 97, 108, 107, 101, 114, 32, 119, 97, 108, 107, 32, 98, 117, 108, 108, 32, 121, 101, 97, 114, 32, 115, 110, 111, 119, 32, 115, 101, 101, 100, 32, 108, 97, 119, 32, 116, 101, 114, 109, 32, 109, 97, 121, 32, 99, 111, 115, 116, 32, 111, 114, 32, 97, 110, 100, 32, 110, 111, 116, 32, 108, 101, 110, 103, 116, 104, 32, 115, 116, 105, 108, 101, 32, 97, 103, 101, 32, 108, 101, 103, 115, 32, 112, 97, 99, 101, 32, 103, 111, 110, 101, 32, 100, 97, 121, 32]
/-- how texts are kept; the words' text -/
def sg_E (A : Nat → Prop) (aK aV : Nat) (U : State) : Prop :=
  va_Z "java/lang/String" "COMPACT_STRINGS" "Z" (.int 1) A U U.heap ∧ va_Zq "jdk/internal/util/Preconditions" "SIOOBE_FORMATTER" "Ljava/util/function/BiFunction;" A U U.heap ∧ va_O "java/lang/String" aK A U U.heap ∧ va_OF "java/lang/String" "coder" "B" (.int 0) aK A U U.heap ∧ va_OF "java/lang/String" "value" "[B" (.ref aV) aK A U U.heap ∧ va_T .byte aV 108 (fun j => .int (ai_wds.getD j 0)) A U U.heap
theorem sg_E_at {A : Nat → Prop} {aK aV : Nat} {s U : State} (h : sg_E A aK aV s) (hW : s.WarmedH U.vm) (hq : ∀ a : Nat, a < s.heap.size → ¬ A a → U.heap[a]? = s.heap[a]?) : sg_E A aK aV U := by
  obtain ⟨h1, h2, h3, h4, h5, h6⟩ := h
  exact ⟨va_Z.moved hW.alike (h1.kept hq), va_Zq.moved hW.alike (h2.kept hq), va_O.moved hW.alike (h3.kept hq), va_OF.moved hW.alike (h4.kept hq), va_OF.moved hW.alike (h5.kept hq), va_T.moved hW.alike (h6.kept hq)⟩
theorem sg_E_less {A B : Nat → Prop} {aK aV : Nat} {s : State} (h : sg_E A aK aV s) (hAB : ∀ q, B q → A q) : sg_E B aK aV s := by
  obtain ⟨h1, h2, h3, h4, h5, h6⟩ := h
  exact ⟨h1.narrow hAB, h2.narrow hAB, h3.narrow hAB, h4.narrow hAB, h5.narrow hAB, h6.narrow hAB⟩
/-- what of the old heap nobody writes: the static table of powers, what a throw reads, the texts of exceptions -/
def ai_E (A : Nat → Prop) (U : State) : Prop :=
  va_AO "PathsKept$Standing" U ∧ (∃ tP : Nat, va_Z "PathsKept$Game" "POWERS_OF_THREE" "[I" (.ref tP) A U U.heap ∧ va_T .int tP 9 (fun j => .int (nI (3 ^ j))) A U U.heap) ∧
  vx_Zq Bundle.tN "UNASSIGNED_STACK" Bundle.steD A U U.heap ∧ vx_Zq Bundle.tN "SUPPRESSED_SENTINEL" Bundle.listD A U U.heap ∧
  (∀ q ∈ ([("PathsKept$Reader", 59, "a fault"), ("PathsKept", 137, "no such path"), ("PathsKept", 165, "no such what")] : List (String × Nat × String)), ∃ sa : Nat, vk_R q.1 q.2.1 q.2.2 sa U) ∧
  va_Nc "java/util/NoSuchElementException" "java/lang/IndexOutOfBoundsException" U ∧ ∃ aK aV : Nat, vk_R "PathsKept$Tokens" 13 "place path walker walk bull year snow seed law term may cost or and not length stile age legs pace gone day " aK U ∧ sg_E A aK aV U
theorem ai_E_at {A : Nat → Prop} {s U : State} (h : ai_E A s) (hW : s.WarmedH U.vm) (hq : ∀ a : Nat, a < s.heap.size → ¬ A a → U.heap[a]? = s.heap[a]?) : ai_E A U := by
  obtain ⟨h1, ⟨tP, h2, h3⟩, h4, h5, h6, h7, aK, aV, h8, h9⟩ := h
  exact ⟨va_AO.moved hW.alike h1, ⟨tP, va_Z.moved hW.alike (h2.kept hq), va_T.moved hW.alike (h3.kept hq)⟩, vx_Zq.moved hW.alike (h4.kept hq), vx_Zq.moved hW.alike (h5.kept hq), fun q hm => by
    obtain ⟨sa, hs⟩ := h6 q hm
    exact ⟨sa, vk_R.warm hW hs⟩, va_Nc.moved hW.alike h7, aK, aV, vk_R.warm hW h8, sg_E_at h9 hW hq⟩
