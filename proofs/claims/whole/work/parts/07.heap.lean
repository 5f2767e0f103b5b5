/-! ===== cells: fields and arrays ===== -/
/-- a class of the table: its number, its words among the tables', its fields' types, its fields' names apart -/
def ai_ck (ci : Nat) (C : String) (T : u_T) (N : Nat) (ty0 : Nat → FieldType) : Prop :=
  vwCl[ci]? = some (C, T, N) ∧ (∀ k, k < N → parseFieldDescriptor (T k).2.2.1 = some (ty0 k)) ∧ (∀ a, a < N → ∀ b, b < N → a ≠ b → (T a).2.1 ≠ (T b).2.1) ∧ ∀ w ∈ u_ws C T N, w ∈ lw_tbl ∧ ai_mv w = true
def ai_ob (r : ai_Hp) (i ci : Nat) : Option (List Value) := if 0 < i ∧ i < r.2.1 then match r.1 i with
  | .inr (c, fs) => if c = ci then some fs else none
  | .inl _ => none
  else none
theorem ai_ob_at {r : ai_Hp} {i ci : Nat} {fs : List Value} (h : ai_ob r i ci = some fs) : (0 < i ∧ i < r.2.1) ∧ r.1 i = .inr (ci, fs) := by
  unfold ai_ob at h
  split at h
  · rename_i hi
    refine ⟨hi, ?_⟩
    split at h
    · rename_i c fs' he
      split at h
      · rename_i hc
        cases h
        rw [he, hc]
      · cases h
    · cases h
  · cases h
def ai_ar (r : ai_Hp) (i : Nat) : Option (Nat × Nat × ai_F) := if 0 < i ∧ i < r.2.1 then match r.1 i with
  | .inl x => some x
  | .inr _ => none
  else none
theorem ai_ar_at {r : ai_Hp} {i : Nat} {x : Nat × Nat × ai_F} (h : ai_ar r i = some x) : (0 < i ∧ i < r.2.1) ∧ r.1 i = .inl x := by
  unfold ai_ar at h
  split at h
  · rename_i hi
    refine ⟨hi, ?_⟩
    split at h
    · rename_i y he
      cases h
      exact he
    · cases h
  · cases h
def ai_in (j : Int32) (z : Nat) : Bool := decide (¬ j < 0) && decide (j.toNatClampNeg < z)
theorem ai_in_vp {j : Int32} {z : Nat} (h : ai_in j z = true) : vp_in j z := by
  simp only [ai_in, Bool.and_eq_true, decide_eq_true_eq] at h
  intro q
  rcases q with q | q
  · exact h.1 q
  · exact absurd h.2 (Nat.not_lt.mpr q)
def ai_pty (ty : FieldType) : Bool := match ty with
  | .byte => false
  | .char => false
  | .short => false
  | _ => true
theorem ai_fit_cv (ad : Nat → Nat) (ty : FieldType) (v : Value) : fits ty (ai_cv ad v) = fits ty v := by cases v <;> cases ty <;> rfl
theorem ai_narrow {ty : FieldType} {v : Value} (h : ai_pty ty = true) (hf : fits ty v = true) : narrow ty v = v := by
  cases ty <;> cases v <;> first | rfl | (cases h; done) | (cases hf; done) | skip
  all_goals
    simp only [fits, Bool.or_eq_true, beq_iff_eq] at hf
    rcases hf with rfl | rfl <;> rfl
theorem ai_ltE_set {n ci k : Nat} {fs : List Value} {v : Value} (h : ai_ltE n (.inr (ci, fs))) (hv : ai_lt n v) : ai_ltE n (.inr (ci, fs.set k v)) := by
  have h : ∀ v ∈ fs, ai_lt n v := h
  show ∀ w ∈ fs.set k v, ai_lt n w
  intro w hw
  rcases List.mem_or_eq_of_mem_set hw with h1 | h1
  · exact h w h1
  · rw [h1]; exact hv
theorem ai_wH_up {n i : Nat} {h : ai_H} {x : va_E} (hw : ai_wH n h) (hx : ai_ltE n x) : ai_wH n (va_up h i x) := by
  refine ⟨hw.1, fun j hj => ?_⟩
  unfold va_up
  by_cases e : j = i
  · rw [if_pos e]; exact hx
  · rw [if_neg e]; exact hw.2 j hj
section Cells
variable {cc : ByteArray} {own : String × String} {nL pc : Nat} {ci index k N : Nat} {C host : String} {T : u_T} {ty0 : Nat → FieldType}
def ai_gf (ci k : Nat) : ai_Sp := fun pc lv st r => match st with
  | .ref i :: t => match ai_ob r i ci with
    | some fs => match fs[k]? with
      | some v => some (pc + 3, lv, v :: t, r)
      | none => none
    | none => none
  | _ => none
theorem ai_gf_ok (ck : ai_ck ci C T N ty0) (hk : k < N) (hl : Cond.fieldLink own.1 index (T k).1 (T k).2.1 (T k).2.2.1 ∈ lw_tbl) (hd : decode cc pc = .ok (.getfield index, 3)) : ai_So cc own nL pc (ai_gf ci k) := by
  intro p l e R s m args below meth c D aC A ad0 n0 Q X lv st r pc' lv' st' r' hf hR hG ad H locs ls hI
  simp only [ai_gf] at hf
  split at hf
  · split at hf
    · rename_i fs ho
      split at hf
      · rename_i v hv
        cases hf
        obtain ⟨hi, he⟩ := ai_ob_at ho
        obtain ⟨i1, i2, i3, i4, i5, i6, i7, i8⟩ := hI
        obtain ⟨hx, hb, hown, hwd, hK, -⟩ := X
        have he' : (ai_ws aC ad r.1 r.2.1)[_]? = _ := ai_ws_get (aC := aC) (ad := ad) (h := r.1) hi
        rw [he] at he'
        have hlt : ai_lt r.2.1 v := by
          have h9 := i8.2 _ hi
          rw [he] at h9
          exact h9 v (List.mem_of_getElem? hv)
        exact va_get (Ts := u_ws C T N) hx hb (fun w hw => hwd w (ck.2.2.2 w hw).1 (ck.2.2.2 w hw).2) (fun _ h => h) hown hK i2 _ he' ck.1 k hk (hwd _ hl rfl) (fun _ h => h) (v := ai_cv ad v) (by rw [List.getElem?_map, hv]; rfl) hd (hG ad H locs ls ⟨i1, i2, i3, i4, i5, ai_wS_c hlt (ai_wS_t i6), i7, i8⟩)
      · cases hf
    · cases hf
  · cases hf
theorem ai_gf_okN (ck : ai_ck ci C T N ty0) (hk : k < N) (hl : Cond.fieldLinkNest own.1 index (T k).1 (T k).2.1 (T k).2.2.1 host ∈ lw_tbl) (hd : decode cc pc = .ok (.getfield index, 3)) : ai_So cc own nL pc (ai_gf ci k) := by
  intro p l e R s m args below meth c D aC A ad0 n0 Q X lv st r pc' lv' st' r' hf hR hG ad H locs ls hI
  simp only [ai_gf] at hf
  split at hf
  · split at hf
    · rename_i fs ho
      split at hf
      · rename_i v hv
        cases hf
        obtain ⟨hi, he⟩ := ai_ob_at ho
        obtain ⟨i1, i2, i3, i4, i5, i6, i7, i8⟩ := hI
        obtain ⟨hx, hb, hown, hwd, hK, -⟩ := X
        have he' : (ai_ws aC ad r.1 r.2.1)[_]? = _ := ai_ws_get (aC := aC) (ad := ad) (h := r.1) hi
        rw [he] at he'
        have hlt : ai_lt r.2.1 v := by
          have h9 := i8.2 _ hi
          rw [he] at h9
          exact h9 v (List.mem_of_getElem? hv)
        exact va_getN (Ts := u_ws C T N) hx hb (fun w hw => hwd w (ck.2.2.2 w hw).1 (ck.2.2.2 w hw).2) (fun _ h => h) hown hK i2 _ he' ck.1 k hk (hwd _ hl rfl) (fun _ h => h) (v := ai_cv ad v) (by rw [List.getElem?_map, hv]; rfl) hd (hG ad H locs ls ⟨i1, i2, i3, i4, i5, ai_wS_c hlt (ai_wS_t i6), i7, i8⟩)
      · cases hf
    · cases hf
  · cases hf
def ai_pf (ci k : Nat) (ty : FieldType) : ai_Sp := fun pc lv st r => match st with
  | v :: .ref i :: t => match ai_ob r i ci with
    | some fs => if k < fs.length ∧ fits ty v = true then some (pc + 3, lv, t, (va_up r.1 i (.inr (ci, fs.set k v)), r.2)) else none
    | none => none
  | _ => none
theorem ai_pf_ok (ck : ai_ck ci C T N ty0) (hk : k < N) (hpt : ai_pty (ty0 k) = true) (hfin : (T k).2.2.2 = false) (hl : Cond.fieldLink own.1 index (T k).1 (T k).2.1 (T k).2.2.1 ∈ lw_tbl) (hd : decode cc pc = .ok (.putfield index, 3)) : ai_So cc own nL pc (ai_pf ci k (ty0 k)) := by
  intro p l e R s m args below meth c D aC A ad0 n0 Q X lv st r pc' lv' st' r' hf hR hG ad H locs ls hI
  simp only [ai_pf] at hf
  split at hf
  · rename_i v i t
    split at hf
    · rename_i fs ho
      split at hf
      · rename_i hc
        cases hf
        obtain ⟨hi, he⟩ := ai_ob_at ho
        obtain ⟨i1, i2, i3, i4, i5, i6, i7, i8⟩ := hI
        obtain ⟨hx, hb, hown, hwd, hK, -⟩ := X
        have he' : (ai_ws aC ad r.1 r.2.1)[_]? = _ := ai_ws_get (aC := aC) (ad := ad) (h := r.1) hi
        rw [he] at he'
        have hfit : fits (ty0 k) (ai_cv ad v) = true := by rw [ai_fit_cv]; exact hc.2
        have hset : (ai_ws aC ad r.1 r.2.1).set (i - 1) (ad i, .inr (ci, (fs.map (ai_cv ad)).set k (ai_cv ad v))) = ai_ws aC ad (va_up r.1 i (.inr (ci, fs.set k v))) r.2.1 := by
          rw [← ai_ws_set hi]
          simp only [ai_ca, List.map_set]
        refine va_put (Ts := u_ws C T N) hx hb (fun w hw => hwd w (ck.2.2.2 w hw).1 (ck.2.2.2 w hw).2) (fun _ h => h) ty0 ck.2.1 ck.2.2.1 hown hK i2 i3 i4 _ he' ck.1 k hk (hwd _ hl rfl) (fun _ h => h) hfin (ck.2.1 k hk) (ai_narrow hpt hfit) hfit (by rw [List.length_map]; exact hc.1) hd (fun H1 locs1 hP1 hD1 hS1 => ?_)
        have hlt := i8.2 _ hi
        rw [he] at hlt
        exact hG ad H1 locs1 ls ⟨i1, hset ▸ hP1, hset ▸ hD1, hS1, i5, ai_wS_t (ai_wS_t i6), i7, ai_wH_up i8 (ai_ltE_set hlt (ai_wS_h i6))⟩
      · cases hf
    · cases hf
  · cases hf
theorem ai_pf_okN (ck : ai_ck ci C T N ty0) (hk : k < N) (hpt : ai_pty (ty0 k) = true) (hfin : (T k).2.2.2 = false) (hl : Cond.fieldLinkNest own.1 index (T k).1 (T k).2.1 (T k).2.2.1 host ∈ lw_tbl) (hd : decode cc pc = .ok (.putfield index, 3)) : ai_So cc own nL pc (ai_pf ci k (ty0 k)) := by
  intro p l e R s m args below meth c D aC A ad0 n0 Q X lv st r pc' lv' st' r' hf hR hG ad H locs ls hI
  simp only [ai_pf] at hf
  split at hf
  · rename_i v i t
    split at hf
    · rename_i fs ho
      split at hf
      · rename_i hc
        cases hf
        obtain ⟨hi, he⟩ := ai_ob_at ho
        obtain ⟨i1, i2, i3, i4, i5, i6, i7, i8⟩ := hI
        obtain ⟨hx, hb, hown, hwd, hK, -⟩ := X
        have he' : (ai_ws aC ad r.1 r.2.1)[_]? = _ := ai_ws_get (aC := aC) (ad := ad) (h := r.1) hi
        rw [he] at he'
        have hfit : fits (ty0 k) (ai_cv ad v) = true := by rw [ai_fit_cv]; exact hc.2
        have hset : (ai_ws aC ad r.1 r.2.1).set (i - 1) (ad i, .inr (ci, (fs.map (ai_cv ad)).set k (ai_cv ad v))) = ai_ws aC ad (va_up r.1 i (.inr (ci, fs.set k v))) r.2.1 := by
          rw [← ai_ws_set hi]
          simp only [ai_ca, List.map_set]
        refine va_putN (Ts := u_ws C T N) hx hb (fun w hw => hwd w (ck.2.2.2 w hw).1 (ck.2.2.2 w hw).2) (fun _ h => h) ty0 ck.2.1 ck.2.2.1 hown hK i2 i3 i4 _ he' ck.1 k hk (hwd _ hl rfl) (fun _ h => h) hfin (ck.2.1 k hk) (ai_narrow hpt hfit) hfit (by rw [List.length_map]; exact hc.1) hd (fun H1 locs1 hP1 hD1 hS1 => ?_)
        have hlt := i8.2 _ hi
        rw [he] at hlt
        exact hG ad H1 locs1 ls ⟨i1, hset ▸ hP1, hset ▸ hD1, hS1, i5, ai_wS_t (ai_wS_t i6), i7, ai_wH_up i8 (ai_ltE_set hlt (ai_wS_h i6))⟩
      · cases hf
    · cases hf
  · cases hf
theorem ai_pf_okF (ck : ai_ck ci C T N ty0) (hk : k < N) (hpt : ai_pty (ty0 k) = true) (hfin : (T k).2.2.2 = true) (hdecl : (T k).1 = own.1) (hn : own.2 = "<init>") (hl : Cond.fieldLink own.1 index (T k).1 (T k).2.1 (T k).2.2.1 ∈ lw_tbl) (hd : decode cc pc = .ok (.putfield index, 3)) : ai_So cc own nL pc (ai_pf ci k (ty0 k)) := by
  intro p l e R s m args below meth c D aC A ad0 n0 Q X lv st r pc' lv' st' r' hf hR hG ad H locs ls hI
  simp only [ai_pf] at hf
  split at hf
  · rename_i v i t
    split at hf
    · rename_i fs ho
      split at hf
      · rename_i hc
        cases hf
        obtain ⟨hi, he⟩ := ai_ob_at ho
        obtain ⟨i1, i2, i3, i4, i5, i6, i7, i8⟩ := hI
        obtain ⟨hx, hb, hown, hwd, hK, -, -, hnm, -⟩ := X
        have he' : (ai_ws aC ad r.1 r.2.1)[_]? = _ := ai_ws_get (aC := aC) (ad := ad) (h := r.1) hi
        rw [he] at he'
        have hfit : fits (ty0 k) (ai_cv ad v) = true := by rw [ai_fit_cv]; exact hc.2
        have hset : (ai_ws aC ad r.1 r.2.1).set (i - 1) (ad i, .inr (ci, (fs.map (ai_cv ad)).set k (ai_cv ad v))) = ai_ws aC ad (va_up r.1 i (.inr (ci, fs.set k v))) r.2.1 := by
          rw [← ai_ws_set hi]
          simp only [ai_ca, List.map_set]
        refine va_putF (Ts := u_ws C T N) hx hb (fun w hw => hwd w (ck.2.2.2 w hw).1 (ck.2.2.2 w hw).2) (fun _ h => h) ty0 ck.2.1 ck.2.2.1 hown hK i2 i3 i4 _ he' ck.1 k hk (hwd _ hl rfl) (fun _ h => h) hfin (hnm.trans hn) hdecl (ck.2.1 k hk) (ai_narrow hpt hfit) hfit (by rw [List.length_map]; exact hc.1) hd (fun H1 locs1 hP1 hD1 hS1 => ?_)
        have hlt := i8.2 _ hi
        rw [he] at hlt
        exact hG ad H1 locs1 ls ⟨i1, hset ▸ hP1, hset ▸ hD1, hS1, i5, ai_wS_t (ai_wS_t i6), i7, ai_wH_up i8 (ai_ltE_set hlt (ai_wS_h i6))⟩
      · cases hf
    · cases hf
  · cases hf
end Cells
