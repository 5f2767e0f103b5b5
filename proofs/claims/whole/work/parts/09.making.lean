/-! ===== what is made; the JDK's small methods ===== -/
def ai_nr (v : Value) : Bool := match v with
  | .ref _ => false
  | _ => true
theorem ai_nr_cv {v : Value} (h : ai_nr v = true) (ad : Nat → Nat) : ai_cv ad v = v := by
  cases v with
  | ref i => cases h
  | _ => rfl
theorem ai_nr_map {fs : List Value} (h : fs.all ai_nr = true) (ad : Nat → Nat) : fs.map (ai_cv ad) = fs := by
  have h1 : ∀ v ∈ fs, ai_nr v = true := List.all_eq_true.mp h
  conv => rhs; rw [← List.map_id fs]
  exact List.map_congr_left (fun v hv => ai_nr_cv (h1 v hv) ad)
theorem ai_nr_lt {fs : List Value} (h : fs.all ai_nr = true) (n : Nat) : ∀ v ∈ fs, ai_lt n v := by
  intro v hv i e
  have h1 := List.all_eq_true.mp h v hv
  rw [e] at h1
  cases h1
theorem ai_ltE_mono {n k : Nat} {x : va_E} (h : ai_ltE n x) (hk : n ≤ k) : ai_ltE k x := by
  obtain ⟨a, z, f⟩ | ⟨ci, fs⟩ := x
  · obtain f | f | f | f | f := f
    · trivial
    · trivial
    · trivial
    · trivial
    · have h : ∀ j i, f j = some i → i < n := h
      exact fun j i e => Nat.lt_of_lt_of_le (h j i e) hk
  · have h : ∀ v ∈ fs, ai_lt n v := h
    exact fun v hv => ai_lt_mono (h v hv) hk
theorem ai_wH_push {n : Nat} {h : ai_H} {x : va_E} (hw : ai_wH n h) (hx : ai_ltE (n + 1) x) : ai_wH (n + 1) (va_up h n x) := by
  refine ⟨Nat.succ_pos _, fun j hj => ?_⟩
  unfold va_up
  by_cases e : j = n
  · rw [if_pos e]; exact hx
  · rw [if_neg e]; exact ai_ltE_mono (hw.2 j (by omega)) (by omega)
theorem ai_lv_up {ad : Nat → Nat} {n q : Nat} {lv : ai_L} (h : ai_wL n lv) : ai_lv (va_up ad n q) lv = ai_lv ad lv := List.map_congr_left (fun v hv => by rw [ai_cv_up (h v hv)])
theorem ai_st_up {ad : Nat → Nat} {n q : Nat} {st : List Value} (h : ai_wS n st) : st.map (ai_cv (va_up ad n q)) = st.map (ai_cv ad) := List.map_congr_left (fun v hv => ai_cv_up (h v hv))
theorem ai_wS_mono {n k : Nat} {st : List Value} (h : ai_wS n st) (hk : n ≤ k) : ai_wS k st := fun v hv => ai_lt_mono (h v hv) hk
theorem ai_wL_mono {n k : Nat} {lv : ai_L} (h : ai_wL n lv) (hk : n ≤ k) : ai_wL k lv := fun v hv => ai_lt_mono (h v hv) hk
/-- one more cell, at q -/
theorem ai_I_push {D : va_G} {aC : Nat → ClassId} {A : Nat → Prop} {ad0 : Nat → Nat} {n0 nL : Nat} {s : State} {ad : Nat → Nat} {H H1 : Heap} {locs : List Loc} {ls : Array Slot} {lv : ai_L} {st : List Value} {r : ai_Hp} {q : Nat} {x y : va_E} {cn sn : Nat}
    (hI : ai_I D aC A ad0 n0 nL s ad H locs ls lv st r) (hx : ∀ ad', ai_ca aC ad' x = y) (hl : ai_ltE (r.2.1 + 1) x) (hP : va_P D vwCl (ai_ws aC ad r.1 r.2.1 ++ [(q, y)]) H1) (hD : va_D A (ai_ws aC ad r.1 r.2.1 ++ [(q, y)])) (hS : va_S A s.heap H1 locs) :
    ai_I D aC A ad0 n0 nL s (va_up ad r.2.1 q) H1 locs ls lv (.ref r.2.1 :: st) (va_up r.1 r.2.1 x, r.2.1 + 1, cn, sn) := by
  obtain ⟨⟨i1, i1'⟩, i2, i3, i4, i5, i6, i7, i8⟩ := hI
  rw [ai_ws_push i8 (hx (va_up ad r.2.1 q))] at hP hD
  refine ⟨⟨by simp only; omega, fun i hi => ?_⟩, hP, hD, hS, by rw [ai_lv_up i7]; exact i5, ai_wS_c (ai_lt_r (Nat.lt_succ_self _)) (ai_wS_mono i6 (Nat.le_succ _)), ai_wL_mono i7 (Nat.le_succ _), ai_wH_push i8 hl⟩
  have h2 : ¬ i = r.2.1 := by omega
  show (if i = r.2.1 then q else ad i) = ad0 i
  rw [if_neg h2]
  exact i1' i hi
section Making
variable {cc : ByteArray} {own : String × String} {nL pc : Nat} {ci index N : Nat} {C : String} {T : u_T} {ty0 : Nat → FieldType}
def ai_nw2 (ci N : Nat) (fs : List Value) : ai_Sp := fun pc lv st r => some (pc + 3, lv, .ref r.2.1 :: st, (va_up r.1 r.2.1 (.inr (ci, fs)), r.2.1 + 1, r.2.2.1 + 1, r.2.2.2 + N))
theorem ai_new_ok {fs : List Value} (ck : ai_ck ci C T N ty0) (hz : fs.all ai_nr = true) (hfs : ∀ j, j < N → defaultValue (ty0 j) = vp_V fs j) (hl : Cond.classLink own.1 index C ∈ lw_tbl) (hi : Cond.instantiable C N ∈ lw_tbl) (hn : Cond.initialized C ∈ lw_tbl) (hd : decode cc pc = .ok (.new index, 3)) : ai_So cc own nL pc (ai_nw2 ci N fs) := by
  intro p l e R s m args below meth c D aC A ad0 n0 Q X lv st r pc' lv' st' r' hf hR hG ad H locs ls hI
  cases hf
  obtain ⟨hx, hb, hown, hwd, hK, -, -, -, hA, -⟩ := X
  have hI0 := hI
  obtain ⟨i1, i2, i3, i4, i5, i6, i7, i8⟩ := hI
  refine va_new (Ts := u_ws C T N) hx hb (fun w hw => hwd w (ck.2.2.2 w hw).1 (ck.2.2.2 w hw).2) (fun _ h => h) ty0 ck.2.1 hown (hwd _ hl rfl) (hwd _ hi rfl) (hwd _ hn rfl) hK i2 i3 i4 hA ck.1 hfs hR.1 hR.2 hd (fun q H1 hP1 hD1 hS1 => ?_)
  have h9 := hG (va_up ad r.2.1 q) H1 locs ls (ai_I_push hI0 (x := .inr (ci, fs)) (fun ad' => by simp only [ai_ca, ai_nr_map hz]) (ai_nr_lt hz _) hP1 hD1 hS1)
  rw [List.map_cons, ai_st_up i6] at h9
  have e : ai_cv (va_up ad r.2.1 q) (.ref r.2.1) = .ref q := by simp [ai_cv, va_up]
  rw [e] at h9
  exact h9
/-- a new array of numbers -/
def ai_na (k : Nat) (f : ai_F) : ai_Sp := fun pc lv st r => match st with
  | .int z :: t => if ¬ z < 0 ∧ z.toNatClampNeg ≤ 65536 then some (pc + 2, lv, .ref r.2.1 :: t, (va_up r.1 r.2.1 (.inl (k, z.toNatClampNeg, f)), r.2.1 + 1, r.2.2.1 + 1, r.2.2.2 + z.toNatClampNeg)) else none
  | _ => none
theorem ai_na_ok {k : Nat} {f : ai_F} {atype : ArrayType} {ty : FieldType} (hty : newarray.typeOf atype = ty) (hk : ∀ aC : Nat → ClassId, (ai_tys aC)[k]? = some (aC k, ty)) (hra : ∀ (U : State) (cA : ClassId), va_RA U cA ty → U.vm.findClass ("[" ++ ty.toString) = some cA) (hf : ∀ ad, ai_cf ad f = f) (hlt : ∀ n z, ai_ltE n (.inl (k, z, f))) (hcell : ∀ (cA : ClassId) (z : Nat), vp_cell cA (z, f) = arrV cA z (fun _ => defaultValue ty)) (hbt : componentBytes ty ≤ 8)
    (hl : Cond.arrayClass ty ∈ lw_tbl) (hd : decode cc pc = .ok (.newarray atype, 2)) : ai_So cc own nL pc (ai_na k f) := by
  intro p l e R s m args below meth c D aC A ad0 n0 Q X lv st r pc' lv' st' r' hfo hR hG ad H locs ls hI
  simp only [ai_na] at hfo
  split at hfo
  · rename_i z t
    split at hfo
    · rename_i hz
      cases hfo
      obtain ⟨hx, hb, hown, hwd, hK, -, -, -, hA, -⟩ := X
      obtain ⟨i1, i2, i3, i4, i5, i6, i7, i8⟩ := hI
      have hI0 : ai_I D aC A ad0 n0 nL s ad H locs ls lv t r := ⟨i1, i2, i3, i4, i5, ai_wS_t i6, i7, i8⟩
      have hb2 : z.toNatClampNeg * componentBytes ty ≤ 536870912 := Nat.le_trans (Nat.mul_le_mul hz.2 hbt) (by decide)
      refine va_newa hx hb (by rw [hty]; exact hwd _ hl rfl) hty hK i2 i3 i4 hA (N' := z.toNatClampNeg) (a0 := (z.toNatClampNeg, f)) (fun cA => hcell cA _) hz.1 rfl hb2 hR.1 hR.2 hd (fun q cA H1 hK1 hP1 hD1 hS1 => ?_)
      have h1 : s.vm.findClass ("[" ++ ty.toString) = some (aC k) := hra s _ (hK.2 k _ (hk aC)).2
      have h2 : s.vm.findClass ("[" ++ ty.toString) = some cA := hra s _ (hK1.2 (ai_tys aC).length (cA, ty) (by rw [List.getElem?_append_right (Nat.le_refl _), Nat.sub_self]; rfl)).2
      cases Option.some.inj (h1.symm.trans h2)
      have h9 := hG (va_up ad r.2.1 q) H1 locs ls (ai_I_push hI0 (x := .inl (k, z.toNatClampNeg, f)) (fun ad' => by simp only [ai_ca, hf]) (hlt _ _) hP1 hD1 hS1)
      rw [List.map_cons, ai_st_up (ai_wS_t i6)] at h9
      have e : ai_cv (va_up ad r.2.1 q) (.ref r.2.1) = .ref q := by simp [ai_cv, va_up]
      rw [e] at h9
      exact h9
    · cases hfo
  · cases hfo
/-- a new array of Standings -/
def ai_nq : ai_Sp := fun pc lv st r => match st with
  | .int z :: t => if ¬ z < 0 ∧ z.toNatClampNeg ≤ 65536 then some (pc + 3, lv, .ref r.2.1 :: t, (va_up r.1 r.2.1 (.inl (4, z.toNatClampNeg, .inr (.inr (.inr (.inr (fun _ => none)))))), r.2.1 + 1, r.2.2.1 + 1, r.2.2.2 + z.toNatClampNeg)) else none
  | _ => none
theorem ai_nq_ok (hl : Cond.classLink own.1 index "PathsKept$Standing" ∈ lw_tbl) (hd : decode cc pc = .ok (.anewarray index, 3)) : ai_So cc own nL pc ai_nq := by
  intro p l e R s m args below meth c D aC A ad0 n0 Q X lv st r pc' lv' st' r' hfo hR hG ad H locs ls hI
  simp only [ai_nq] at hfo
  split at hfo
  · rename_i z t
    split at hfo
    · rename_i hz
      cases hfo
      obtain ⟨hx, hb, hown, hwd, hK, -, -, -, hA, -, -, hE⟩ := X
      obtain ⟨i1, i2, i3, i4, i5, i6, i7, i8⟩ := hI
      have hI0 : ai_I D aC A ad0 n0 nL s ad H locs ls lv t r := ⟨i1, i2, i3, i4, i5, ai_wS_t i6, i7, i8⟩
      have hb2 : z.toNatClampNeg * 4 ≤ 536870912 := Nat.le_trans (Nat.mul_le_mul_right 4 hz.2) (by decide)
      refine va_newq hx hb hown (hwd _ hl rfl) hE.1 hK i2 i3 i4 hA (N' := z.toNatClampNeg) hz.1 rfl hb2 hR.1 hR.2 hd (fun q cA H1 hK1 hP1 hD1 hS1 => ?_)
      obtain ⟨-, -, -, -, -, h1⟩ := (hK.2 4 _ rfl).2
      obtain ⟨-, -, -, -, -, h2⟩ := (hK1.2 (ai_tys aC).length (cA, .object "PathsKept$Standing") (by rw [List.getElem?_append_right (Nat.le_refl _), Nat.sub_self]; rfl)).2
      cases Option.some.inj (h1.symm.trans h2)
      have h9 := hG (va_up ad r.2.1 q) H1 locs ls (ai_I_push hI0 (x := .inl (4, z.toNatClampNeg, .inr (.inr (.inr (.inr (fun _ => none)))))) (fun ad' => rfl) (fun j i e => by cases e) hP1 hD1 hS1)
      rw [List.map_cons, ai_st_up (ai_wS_t i6)] at h9
      have e : ai_cv (va_up ad r.2.1 q) (.ref r.2.1) = .ref q := by simp [ai_cv, va_up]
      rw [e] at h9
      exact h9
    · cases hfo
  · cases hfo
/-- Object's constructor -/
def ai_oi : ai_Sp := fun pc lv st r => match st with
  | .ref _ :: t => if (t.map fun v => v.category).sum ≤ 64 then some (pc + 3, lv, t, r) else none
  | _ => none
theorem ai_oi_ok (h1 : Cond.methodLink own.1 index objectInit ∈ lw_tbl) (h2 : Cond.instanceMethod objectInit ∈ lw_tbl) (h3 : Cond.code objectInit ⟨#[0xb1]⟩ 1 none ∈ lw_tbl) (hd : decode cc pc = .ok (.invokespecial index, 3)) : ai_So cc own nL pc ai_oi := by
  intro p l e R s m args below meth c D aC A ad0 n0 Q X lv st r pc' lv' st' r' hf hR hG ad H locs ls hI
  simp only [ai_oi] at hf
  split at hf
  · rename_i i t
    split at hf
    · rename_i hc
      cases hf
      obtain ⟨hx, hb, hown, hwd, hK, hml, -, -, hA, hfr, hlo, -⟩ := X
      obtain ⟨i1, i2, i3, i4, i5, i6, i7, i8⟩ := hI
      refine W.objInit hx hb hown (hwd _ h1 rfl) (hwd _ h2 rfl) (hwd _ h3 rfl) rfl (by rw [hml]; exact i5.1) rfl hd (by omega) ?_ (hG ad H locs ls ⟨i1, i2, i3, i4, i5, ai_wS_t i6, i7, i8⟩)
      show 2 * 0 + ((List.map (ai_cv ad) _).map fun v => v.category).sum + 12 ≤ R.locals
      rw [ai_cats]
      omega
    · cases hf
  · cases hf
/-! tests for null -/
def ai_nn (tgt : Nat) : ai_Sp := fun pc lv st r => match st with
  | .ref _ :: t => some (tgt, lv, t, r)
  | .null :: t => some (pc + 3, lv, t, r)
  | _ => none
theorem ai_nn_ok {off : Int} {tgt : Nat} (hd : decode cc pc = .ok (.ifnonnull off, 3)) (ht : (pc : Int) + off = (tgt : Int)) : ai_So cc own nL pc (ai_nn tgt) := by
  intro p l e R s m args below meth c D aC A ad0 n0 Q X lv st r pc' lv' st' r' hf hR hG ad H locs ls hI
  simp only [ai_nn] at hf
  obtain ⟨i1, i2, i3, i4, i5, i6, i7, i8⟩ := hI
  split at hf
  · cases hf
    exact lv_ifnonnull X.1 X.2.1 hd ht (hG ad H locs ls ⟨i1, i2, i3, i4, i5, ai_wS_t i6, i7, i8⟩)
  · cases hf
    exact lv_ifnonnullN X.1 X.2.1 hd (hG ad H locs ls ⟨i1, i2, i3, i4, i5, ai_wS_t i6, i7, i8⟩)
  · cases hf
/-! Math -/
def ai_m2 (g : Int32 → Int32 → Int32) : ai_Sp := fun pc lv st r => match st with
  | .int y :: .int x :: t => if (t.map fun v => v.category).sum ≤ 64 then some (pc + 3, lv, .int (g x y) :: t, r) else none
  | _ => none
def ai_ml (g : Int64 → Int64 → Int64) : ai_Sp := fun pc lv st r => match st with
  | .long y :: .long x :: t => if (t.map fun v => v.category).sum ≤ 64 then some (pc + 3, lv, .long (g x y) :: t, r) else none
  | _ => none
def ai_ma : ai_Sp := fun pc lv st r => match st with
  | .long x :: t => if (t.map fun v => v.category).sum ≤ 64 then some (pc + 3, lv, .long (if 0 < x then x else -x) :: t, r) else none
  | _ => none
theorem ai_mmax_ok (h1 : Cond.methodLink own.1 index Lib.Math.max.name ∈ lw_tbl) (h2 : Cond.static Lib.Math.max.name ∈ lw_tbl) (h3 : Cond.initialized "java/lang/Math" ∈ lw_tbl) (h4 : Cond.code Lib.Math.max.name Lib.Math.max.code 2 (some .int) ∈ lw_tbl) (hd : decode cc pc = .ok (.invokestatic index, 3)) : ai_So cc own nL pc (ai_m2 (fun x y => if x < y then y else x)) := by
  intro p l e R s m args below meth c D aC A ad0 n0 Q X lv st r pc' lv' st' r' hf hR hG ad H locs ls hI
  simp only [ai_m2] at hf
  split at hf
  · rename_i y x t
    split at hf
    · rename_i hc
      cases hf
      obtain ⟨hx, hb, hown, hwd, hK, hml, -, -, hA, hfr, hlo, -⟩ := X
      obtain ⟨i1, i2, i3, i4, i5, i6, i7, i8⟩ := hI
      exact va_mmax hx hb (hml.trans i5.1.symm) hown (hwd _ h1 rfl) (hwd _ h2 rfl) (hwd _ h3 rfl) (hwd _ h4 rfl) (by omega) (by rw [ai_cats]; omega) hR.1 hR.2 hd (hG ad H locs ls ⟨i1, i2, i3, i4, i5, ai_wS_c ai_lt_i (ai_wS_t (ai_wS_t i6)), i7, i8⟩)
    · cases hf
  · cases hf
theorem ai_mmin_ok (h1 : Cond.methodLink own.1 index Lib.Math.min.name ∈ lw_tbl) (h2 : Cond.static Lib.Math.min.name ∈ lw_tbl) (h3 : Cond.initialized "java/lang/Math" ∈ lw_tbl) (h4 : Cond.code Lib.Math.min.name Lib.Math.min.code 2 (some .int) ∈ lw_tbl) (hd : decode cc pc = .ok (.invokestatic index, 3)) : ai_So cc own nL pc (ai_m2 (fun x y => if y < x then y else x)) := by
  intro p l e R s m args below meth c D aC A ad0 n0 Q X lv st r pc' lv' st' r' hf hR hG ad H locs ls hI
  simp only [ai_m2] at hf
  split at hf
  · rename_i y x t
    split at hf
    · rename_i hc
      cases hf
      obtain ⟨hx, hb, hown, hwd, hK, hml, -, -, hA, hfr, hlo, -⟩ := X
      obtain ⟨i1, i2, i3, i4, i5, i6, i7, i8⟩ := hI
      exact va_mmin hx hb (hml.trans i5.1.symm) hown (hwd _ h1 rfl) (hwd _ h2 rfl) (hwd _ h3 rfl) (hwd _ h4 rfl) (by omega) (by rw [ai_cats]; omega) hR.1 hR.2 hd (hG ad H locs ls ⟨i1, i2, i3, i4, i5, ai_wS_c ai_lt_i (ai_wS_t (ai_wS_t i6)), i7, i8⟩)
    · cases hf
  · cases hf
theorem ai_lmax_ok (h1 : Cond.methodLink own.1 index Lib.MathLoose.max_long.x ∈ lw_tbl) (h2 : Cond.static Lib.MathLoose.max_long.x ∈ lw_tbl) (h3 : Cond.initialized "java/lang/Math" ∈ lw_tbl) (h4 : Cond.code Lib.MathLoose.max_long.x Lib.MathLoose.max_long.code 4 (some .long) ∈ lw_tbl) (hd : decode cc pc = .ok (.invokestatic index, 3)) : ai_So cc own nL pc (ai_ml (fun x y => if y < x then x else y)) := by
  intro p l e R s m args below meth c D aC A ad0 n0 Q X lv st r pc' lv' st' r' hf hR hG ad H locs ls hI
  simp only [ai_ml] at hf
  split at hf
  · rename_i y x t
    split at hf
    · rename_i hc
      cases hf
      obtain ⟨hx, hb, hown, hwd, hK, hml, -, -, hA, hfr, hlo, -⟩ := X
      obtain ⟨i1, i2, i3, i4, i5, i6, i7, i8⟩ := hI
      exact va_mmax_long hx hb (hml.trans i5.1.symm) hown (hwd _ h1 rfl) (hwd _ h2 rfl) (hwd _ h3 rfl) (hwd _ h4 rfl) (by omega) (by rw [ai_cats]; omega) hR.1 hR.2 hd (hG ad H locs ls ⟨i1, i2, i3, i4, i5, ai_wS_c ai_lt_l (ai_wS_t (ai_wS_t i6)), i7, i8⟩)
    · cases hf
  · cases hf
theorem ai_lmin_ok (h1 : Cond.methodLink own.1 index Lib.MathLoose.min_long.x ∈ lw_tbl) (h2 : Cond.static Lib.MathLoose.min_long.x ∈ lw_tbl) (h3 : Cond.initialized "java/lang/Math" ∈ lw_tbl) (h4 : Cond.code Lib.MathLoose.min_long.x Lib.MathLoose.min_long.code 4 (some .long) ∈ lw_tbl) (hd : decode cc pc = .ok (.invokestatic index, 3)) : ai_So cc own nL pc (ai_ml (fun x y => if y < x then y else x)) := by
  intro p l e R s m args below meth c D aC A ad0 n0 Q X lv st r pc' lv' st' r' hf hR hG ad H locs ls hI
  simp only [ai_ml] at hf
  split at hf
  · rename_i y x t
    split at hf
    · rename_i hc
      cases hf
      obtain ⟨hx, hb, hown, hwd, hK, hml, -, -, hA, hfr, hlo, -⟩ := X
      obtain ⟨i1, i2, i3, i4, i5, i6, i7, i8⟩ := hI
      exact va_mmin_long hx hb (hml.trans i5.1.symm) hown (hwd _ h1 rfl) (hwd _ h2 rfl) (hwd _ h3 rfl) (hwd _ h4 rfl) (by omega) (by rw [ai_cats]; omega) hR.1 hR.2 hd (hG ad H locs ls ⟨i1, i2, i3, i4, i5, ai_wS_c ai_lt_l (ai_wS_t (ai_wS_t i6)), i7, i8⟩)
    · cases hf
  · cases hf
theorem ai_labs_ok (h1 : Cond.methodLink own.1 index Lib.MathLoose.abs_long.x ∈ lw_tbl) (h2 : Cond.static Lib.MathLoose.abs_long.x ∈ lw_tbl) (h3 : Cond.initialized "java/lang/Math" ∈ lw_tbl) (h4 : Cond.code Lib.MathLoose.abs_long.x Lib.MathLoose.abs_long.code 2 (some .long) ∈ lw_tbl) (hd : decode cc pc = .ok (.invokestatic index, 3)) : ai_So cc own nL pc ai_ma := by
  intro p l e R s m args below meth c D aC A ad0 n0 Q X lv st r pc' lv' st' r' hf hR hG ad H locs ls hI
  simp only [ai_ma] at hf
  split at hf
  · rename_i x t
    split at hf
    · rename_i hc
      cases hf
      obtain ⟨hx, hb, hown, hwd, hK, hml, -, -, hA, hfr, hlo, -⟩ := X
      obtain ⟨i1, i2, i3, i4, i5, i6, i7, i8⟩ := hI
      exact va_mabs_long hx hb (hml.trans i5.1.symm) hown (hwd _ h1 rfl) (hwd _ h2 rfl) (hwd _ h3 rfl) (hwd _ h4 rfl) (by omega) (by rw [ai_cats]; omega) hR.1 hR.2 hd (hG ad H locs ls ⟨i1, i2, i3, i4, i5, ai_wS_c ai_lt_l (ai_wS_t i6), i7, i8⟩)
    · cases hf
  · cases hf
/-- System.arraycopy of ints -/
def ai_cp : ai_Sp := fun pc lv st r => match st with
  | .int n :: .int dp :: .ref b :: .int sp :: .ref a :: t => match ai_ar r a, ai_ar r b with
    | some (ka, za, .inl f), some (kb, zb, .inl g) => if ka = 1 ∧ kb = 1 ∧ ¬ sp < 0 ∧ ¬ dp < 0 ∧ ¬ n < 0 ∧ sp.toNatClampNeg + n.toNatClampNeg ≤ za ∧ dp.toNatClampNeg + n.toNatClampNeg ≤ zb ∧ (t.map fun v => v.category).sum ≤ 64 then
        some (pc + 3, lv, t, (va_up r.1 b (.inl (1, zb, .inl (va_cpy f g sp.toNatClampNeg dp.toNatClampNeg n.toNatClampNeg))), r.2)) else none
    | _, _ => none
  | _ => none
theorem ai_cp_ok (h1 : Cond.methodLink own.1 index arraycopyName ∈ lw_tbl) (h2 : Cond.native arraycopyName ∈ lw_tbl) (h3 : Cond.static arraycopyName ∈ lw_tbl) (h4 : Cond.initialized "java/lang/System" ∈ lw_tbl) (hd : decode cc pc = .ok (.invokestatic index, 3)) : ai_So cc own nL pc ai_cp := by
  intro p l e R s m args below meth c D aC A ad0 n0 Q X lv st r pc' lv' st' r' hf hR hG ad H locs ls hI
  simp only [ai_cp] at hf
  split at hf
  · rename_i n dp b sp a t
    split at hf
    · rename_i ka za f kb zb g ha hb0
      split at hf
      · rename_i hc
        obtain ⟨rfl, rfl, c1, c2, c3, c4, c5, c6⟩ := hc
        cases hf
        obtain ⟨hia, hea⟩ := ai_ar_at ha
        obtain ⟨hib, heb⟩ := ai_ar_at hb0
        obtain ⟨hx, hb, hown, hwd, hK, hml, -, -, hA, hfr, hlo, -⟩ := X
        obtain ⟨i1, i2, i3, i4, i5, i6, i7, i8⟩ := hI
        have hea' : (ai_ws aC ad r.1 r.2.1)[_]? = _ := ai_ws_get (aC := aC) (ad := ad) (h := r.1) hia
        rw [hea] at hea'
        have heb' : (ai_ws aC ad r.1 r.2.1)[_]? = _ := ai_ws_get (aC := aC) (ad := ad) (h := r.1) hib
        rw [heb] at heb'
        refine va_copyi hx hb (hml.trans i5.1.symm) hown (hwd _ h1 rfl) (hwd _ h2 rfl) (hwd _ h3 rfl) (hwd _ h4 rfl) hK i2 i3 i4 _ _ 1 1 hea' heb' rfl rfl rfl c1 c2 c3 c4 c5 (fun _ _ => rfl) (by omega) ?_ hd (fun H1 locs1 hP1 hD1 hS1 => ?_)
        · rw [ai_cats]
          have h9 : nativeFrameWords "java/lang/System" "arraycopy" 5 + 11 ≤ 192 := by decide +kernel
          omega
        · exact hG ad H1 locs1 ls ⟨i1, (ai_ws_set hib (.inl (1, zb, .inl (va_cpy f g _ _ _)))) ▸ hP1, (ai_ws_set hib (.inl (1, zb, .inl (va_cpy f g _ _ _)))) ▸ hD1, hS1, i5, ai_wS_t (ai_wS_t (ai_wS_t (ai_wS_t (ai_wS_t i6)))), i7, ai_wH_up i8 ai_ltE_i⟩
      · cases hf
    · cases hf
  · cases hf
end Making
