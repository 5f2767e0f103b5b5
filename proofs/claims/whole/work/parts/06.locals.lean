/-! ===== locals ===== -/
section Locals
variable {cc : ByteArray} {own : String × String} {nL pc : Nat}
def ai_il (i len : Nat) : ai_Sp := fun pc lv st r => match ai_ld i lv with
  | some (.int x) => some (pc + len, lv, .int x :: st, r)
  | _ => none
theorem ai_il_ok {i : Nat} (hd : decode cc pc = .ok (.iload i, 2)) : ai_So cc own nL pc (ai_il i 2) := by
  intro p l e R s m args below meth c D aC A ad0 n0 Q X lv st r pc' lv' st' r' hf hR hG ad H locs ls hI
  simp only [ai_il] at hf
  split at hf
  · rename_i x hx
    cases hf
    obtain ⟨i1, i2, i3, i4, i5, i6, i7, i8⟩ := hI
    exact lv_iload X.1 X.2.1 hd (ai_ld_at i5 hx) (hG ad H locs ls ⟨i1, i2, i3, i4, i5, ai_wS_c ai_lt_i i6, i7, i8⟩)
  · cases hf
theorem ai_il_okn {k : Fin 4} {i : Nat} (hd : decode cc pc = .ok (.iload_n k, 1)) (hk : (k : Nat) = i) : ai_So cc own nL pc (ai_il i 1) := by
  intro p l e R s m args below meth c D aC A ad0 n0 Q X lv st r pc' lv' st' r' hf hR hG ad H locs ls hI
  simp only [ai_il] at hf
  split at hf
  · rename_i x hx
    cases hf
    obtain ⟨i1, i2, i3, i4, i5, i6, i7, i8⟩ := hI
    exact lv_iload_n X.1 X.2.1 hd hk (ai_ld_at i5 hx) (hG ad H locs ls ⟨i1, i2, i3, i4, i5, ai_wS_c ai_lt_i i6, i7, i8⟩)
  · cases hf
def ai_ll (i len : Nat) : ai_Sp := fun pc lv st r => match ai_ld i lv with
  | some (.long x) => some (pc + len, lv, .long x :: st, r)
  | _ => none
theorem ai_ll_ok {i : Nat} (hd : decode cc pc = .ok (.lload i, 2)) : ai_So cc own nL pc (ai_ll i 2) := by
  intro p l e R s m args below meth c D aC A ad0 n0 Q X lv st r pc' lv' st' r' hf hR hG ad H locs ls hI
  simp only [ai_ll] at hf
  split at hf
  · rename_i x hx
    cases hf
    obtain ⟨i1, i2, i3, i4, i5, i6, i7, i8⟩ := hI
    exact lv_lload X.1 X.2.1 hd (ai_ld_at i5 hx) (hG ad H locs ls ⟨i1, i2, i3, i4, i5, ai_wS_c ai_lt_l i6, i7, i8⟩)
  · cases hf
theorem ai_ll_okn {k : Fin 4} {i : Nat} (hd : decode cc pc = .ok (.lload_n k, 1)) (hk : (k : Nat) = i) : ai_So cc own nL pc (ai_ll i 1) := by
  intro p l e R s m args below meth c D aC A ad0 n0 Q X lv st r pc' lv' st' r' hf hR hG ad H locs ls hI
  simp only [ai_ll] at hf
  split at hf
  · rename_i x hx
    cases hf
    obtain ⟨i1, i2, i3, i4, i5, i6, i7, i8⟩ := hI
    exact lv_lload_n X.1 X.2.1 hd hk (ai_ld_at i5 hx) (hG ad H locs ls ⟨i1, i2, i3, i4, i5, ai_wS_c ai_lt_l i6, i7, i8⟩)
  · cases hf
def ai_al (i len : Nat) : ai_Sp := fun pc lv st r => match ai_ld i lv with
  | some (.ref x) => some (pc + len, lv, .ref x :: st, r)
  | some .null => some (pc + len, lv, .null :: st, r)
  | _ => none
theorem ai_al_ok {i : Nat} (hd : decode cc pc = .ok (.aload i, 2)) : ai_So cc own nL pc (ai_al i 2) := by
  intro p l e R s m args below meth c D aC A ad0 n0 Q X lv st r pc' lv' st' r' hf hR hG ad H locs ls hI
  simp only [ai_al] at hf
  split at hf
  · rename_i x hx
    cases hf
    obtain ⟨i1, i2, i3, i4, i5, i6, i7, i8⟩ := hI
    exact lv_aload X.1 X.2.1 hd (ai_ld_at i5 hx) (hG ad H locs ls ⟨i1, i2, i3, i4, i5, ai_wS_c (ai_ld_lt i7 hx) i6, i7, i8⟩)
  · rename_i hx
    cases hf
    obtain ⟨i1, i2, i3, i4, i5, i6, i7, i8⟩ := hI
    exact lv_aloadN X.1 X.2.1 hd (ai_ld_at i5 hx) (hG ad H locs ls ⟨i1, i2, i3, i4, i5, ai_wS_c ai_lt_0 i6, i7, i8⟩)
  · cases hf
theorem ai_al_okn {k : Fin 4} {i : Nat} (hd : decode cc pc = .ok (.aload_n k, 1)) (hk : (k : Nat) = i) : ai_So cc own nL pc (ai_al i 1) := by
  intro p l e R s m args below meth c D aC A ad0 n0 Q X lv st r pc' lv' st' r' hf hR hG ad H locs ls hI
  simp only [ai_al] at hf
  split at hf
  · rename_i x hx
    cases hf
    obtain ⟨i1, i2, i3, i4, i5, i6, i7, i8⟩ := hI
    exact lv_aload_n X.1 X.2.1 hd hk (ai_ld_at i5 hx) (hG ad H locs ls ⟨i1, i2, i3, i4, i5, ai_wS_c (ai_ld_lt i7 hx) i6, i7, i8⟩)
  · rename_i hx
    cases hf
    obtain ⟨i1, i2, i3, i4, i5, i6, i7, i8⟩ := hI
    exact lv_aload_nN X.1 X.2.1 hd hk (ai_ld_at i5 hx) (hG ad H locs ls ⟨i1, i2, i3, i4, i5, ai_wS_c ai_lt_0 i6, i7, i8⟩)
  · cases hf
/-! stores -/
def ai_is (i len : Nat) : ai_Sp := fun pc lv st r => match st with
  | .int x :: t => some (pc + len, ai_s1 i (.int x) lv, t, r)
  | _ => none
theorem ai_is_ok {i : Nat} (hi : i < nL) (hd : decode cc pc = .ok (.istore i, 2)) : ai_So cc own nL pc (ai_is i 2) := by
  intro p l e R s m args below meth c D aC A ad0 n0 Q X lv st r pc' lv' st' r' hf hR hG ad H locs ls hI
  simp only [ai_is] at hf
  split at hf
  · cases hf
    obtain ⟨i1, i2, i3, i4, i5, i6, i7, i8⟩ := hI
    exact lv_istore X.1 X.2.1 hd i5 hi (ai_s1_lv ad i (.int _) lv) (fun ls' h' => hG ad H locs ls' ⟨i1, i2, i3, i4, h', ai_wS_t i6, ai_s1_w ai_lt_i i7, i8⟩)
  · cases hf
theorem ai_is_okn {k : Fin 4} {i : Nat} (hi : i < nL) (hd : decode cc pc = .ok (.istore_n k, 1)) (hk : (k : Nat) = i) : ai_So cc own nL pc (ai_is i 1) := by
  intro p l e R s m args below meth c D aC A ad0 n0 Q X lv st r pc' lv' st' r' hf hR hG ad H locs ls hI
  simp only [ai_is] at hf
  split at hf
  · cases hf
    obtain ⟨i1, i2, i3, i4, i5, i6, i7, i8⟩ := hI
    exact lv_istore_n X.1 X.2.1 hd hk i5 hi (ai_s1_lv ad i (.int _) lv) (fun ls' h' => hG ad H locs ls' ⟨i1, i2, i3, i4, h', ai_wS_t i6, ai_s1_w ai_lt_i i7, i8⟩)
  · cases hf
def ai_lst (i len : Nat) : ai_Sp := fun pc lv st r => match st with
  | .long x :: t => some (pc + len, ai_s2 i (.long x) lv, t, r)
  | _ => none
theorem ai_lst_ok {i : Nat} (hi : i + 1 < nL) (hd : decode cc pc = .ok (.lstore i, 2)) : ai_So cc own nL pc (ai_lst i 2) := by
  intro p l e R s m args below meth c D aC A ad0 n0 Q X lv st r pc' lv' st' r' hf hR hG ad H locs ls hI
  simp only [ai_lst] at hf
  split at hf
  · cases hf
    obtain ⟨i1, i2, i3, i4, i5, i6, i7, i8⟩ := hI
    exact lv_lstore X.1 X.2.1 hd i5 hi (ai_s2_lv ad i (.long _) lv) (fun ls' h' => hG ad H locs ls' ⟨i1, i2, i3, i4, h', ai_wS_t i6, ai_s2_w ai_lt_l i7, i8⟩)
  · cases hf
theorem ai_lst_okn {k : Fin 4} {i : Nat} (hi : i + 1 < nL) (hd : decode cc pc = .ok (.lstore_n k, 1)) (hk : (k : Nat) = i) : ai_So cc own nL pc (ai_lst i 1) := by
  intro p l e R s m args below meth c D aC A ad0 n0 Q X lv st r pc' lv' st' r' hf hR hG ad H locs ls hI
  simp only [ai_lst] at hf
  split at hf
  · cases hf
    obtain ⟨i1, i2, i3, i4, i5, i6, i7, i8⟩ := hI
    exact lv_lstore_n X.1 X.2.1 hd hk i5 hi (ai_s2_lv ad i (.long _) lv) (fun ls' h' => hG ad H locs ls' ⟨i1, i2, i3, i4, h', ai_wS_t i6, ai_s2_w ai_lt_l i7, i8⟩)
  · cases hf
def ai_as (i len : Nat) : ai_Sp := fun pc lv st r => match st with
  | .ref x :: t => some (pc + len, ai_s1 i (.ref x) lv, t, r)
  | _ => none
theorem ai_as_ok {i : Nat} (hi : i < nL) (hd : decode cc pc = .ok (.astore i, 2)) : ai_So cc own nL pc (ai_as i 2) := by
  intro p l e R s m args below meth c D aC A ad0 n0 Q X lv st r pc' lv' st' r' hf hR hG ad H locs ls hI
  simp only [ai_as] at hf
  split at hf
  · cases hf
    obtain ⟨i1, i2, i3, i4, i5, i6, i7, i8⟩ := hI
    exact lv_astore X.1 X.2.1 hd i5 hi (ai_s1_lv ad i (.ref _) lv) (fun ls' h' => hG ad H locs ls' ⟨i1, i2, i3, i4, h', ai_wS_t i6, ai_s1_w (ai_wS_h i6) i7, i8⟩)
  · cases hf
theorem ai_as_okn {k : Fin 4} {i : Nat} (hi : i < nL) (hd : decode cc pc = .ok (.astore_n k, 1)) (hk : (k : Nat) = i) : ai_So cc own nL pc (ai_as i 1) := by
  intro p l e R s m args below meth c D aC A ad0 n0 Q X lv st r pc' lv' st' r' hf hR hG ad H locs ls hI
  simp only [ai_as] at hf
  split at hf
  · cases hf
    obtain ⟨i1, i2, i3, i4, i5, i6, i7, i8⟩ := hI
    exact lv_astore_n X.1 X.2.1 hd hk i5 hi (ai_s1_lv ad i (.ref _) lv) (fun ls' h' => hG ad H locs ls' ⟨i1, i2, i3, i4, h', ai_wS_t i6, ai_s1_w (ai_wS_h i6) i7, i8⟩)
  · cases hf
def ai_inc (i : Nat) (k : Int32) : ai_Sp := fun pc lv st r => match ai_ld i lv with
  | some (.int x) => some (pc + 3, ai_s1 i (.int (x + k)) lv, st, r)
  | _ => none
theorem ai_ld_ix {i : Nat} {lv : ai_L} {v : Value} (h : ai_ld i lv = some v) : ∃ k : Nat, lv[k]? = some (i, v) := by
  unfold ai_ld at h
  cases hf : lv.find? (fun q => q.1 == i) with
  | none => rw [hf] at h; cases h
  | some q =>
    rw [hf] at h
    cases h
    have h1 := List.find?_some hf
    have h3 : q.1 = i := by simpa using h1
    subst h3
    obtain ⟨k, hk⟩ := List.getElem?_of_mem (List.mem_of_find?_eq_some hf)
    exact ⟨k, hk⟩
theorem ai_inc_ok {i : Nat} {n : Int} {k : Int32} (hi : i < nL) (hd : decode cc pc = .ok (.iinc i n, 3)) (hk : Int32.ofInt n = k) : ai_So cc own nL pc (ai_inc i k) := by
  intro p l e R s m args below meth c D aC A ad0 n0 Q X lv st r pc' lv' st' r' hf hR hG ad H locs ls hI
  simp only [ai_inc] at hf
  split at hf
  · rename_i x hx
    cases hf
    obtain ⟨i1, i2, i3, i4, i5, i6, i7, i8⟩ := hI
    obtain ⟨j, hj⟩ := ai_ld_ix hx
    exact lv_iinc X.1 X.2.1 hd i5 (k := j) (x := x) (by unfold ai_lv; rw [List.getElem?_map, hj]; rfl) (by rw [hk]) hi (ai_s1_lv ad i (.int _) lv) (fun ls' h' => hG ad H locs ls' ⟨i1, i2, i3, i4, h', i6, ai_s1_w ai_lt_i i7, i8⟩)
  · cases hf
end Locals
