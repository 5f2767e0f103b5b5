/-! ===== the law's own script: the cell 0, read alone ===== -/
def ai_Zs (L : Nat) (xs : Nat → Int32) : State → (Nat → Prop) → (Nat → Nat) → Nat → Prop := fun s A ad0 n0 => 0 < n0 ∧ va_X (ad0 0) L xs s s.heap ∧ ad0 0 < s.heap.size ∧ ¬ A (ad0 0)
def ai_scr (L : Nat) (xs : Nat → Int32) : ai_Sp := fun pc lv st r => match st with
  | .int j :: .ref 0 :: t => if ai_in j L = true then some (pc + 1, lv, .int (xs j.toNatClampNeg) :: t, r) else none
  | _ => none
theorem ai_scr_ok {L : Nat} {xs : Nat → Int32} {cc : ByteArray} {own : String × String} {nL pc : Nat} (hd : decode cc pc = .ok (.iaload, 1)) : ai_SoZ (ai_Zs L xs) cc own nL pc (ai_scr L xs) := by
  intro p l e R s m args below meth c D aC A ad0 n0 Q X hZ lv st r pc' lv' st' r' hf hR hG ad H locs ls hI
  simp only [ai_scr] at hf
  split at hf
  · split at hf
    · rename_i hin
      cases hf
      obtain ⟨i1, i2, i3, i4, i5, i6, i7, i8⟩ := hI
      obtain ⟨z1, z2, z3, z4⟩ := hZ
      have e0 : ad 0 = ad0 0 := i1.2 0 z1
      have k := hG ad H locs ls ⟨i1, i2, i3, i4, i5, ai_wS_c ai_lt_i (ai_wS_t (ai_wS_t i6)), i7, i8⟩
      have k2 := va_sld X.1 X.2.1 z2 z3 z4 i4 (ai_in_vp hin) hd k
      rw [← e0] at k2
      exact k2
    · cases hf
  · cases hf
def ai_sln (L : Nat) : ai_Sp := fun pc lv st r => match st with
  | .ref 0 :: t => some (pc + 1, lv, .int (Int32.ofNat L) :: t, r)
  | _ => none
theorem ai_sln_ok {L : Nat} {xs : Nat → Int32} {cc : ByteArray} {own : String × String} {nL pc : Nat} (hd : decode cc pc = .ok (.arraylength, 1)) : ai_SoZ (ai_Zs L xs) cc own nL pc (ai_sln L) := by
  intro p l e R s m args below meth c D aC A ad0 n0 Q X hZ lv st r pc' lv' st' r' hf hR hG ad H locs ls hI
  simp only [ai_sln] at hf
  split at hf
  · cases hf
    obtain ⟨i1, i2, i3, i4, i5, i6, i7, i8⟩ := hI
    obtain ⟨z1, z2, z3, z4⟩ := hZ
    have e0 : ad 0 = ad0 0 := i1.2 0 z1
    have k := hG ad H locs ls ⟨i1, i2, i3, i4, i5, ai_wS_c ai_lt_i (ai_wS_t i6), i7, i8⟩
    have k2 := va_slen X.1 X.2.1 z2 z3 z4 i4 hd k
    rw [← e0] at k2
    exact k2
  · cases hf
theorem ai_mo_scr (L : Nat) (xs : Nat → Int32) : ai_mo (ai_scr L xs) := by
  intro pc lv st r pc' lv' st' r' h
  simp only [ai_scr] at h
  repeat' split at h
  all_goals first | (cases h; done) | (cases h; exact ⟨Nat.le_refl _, Nat.le_refl _⟩)
theorem ai_mo_sln (L : Nat) : ai_mo (ai_sln L) := by
  intro pc lv st r pc' lv' st' r' h
  simp only [ai_sln] at h
  split at h
  · cases h; exact ⟨Nat.le_refl _, Nat.le_refl _⟩
  · cases h
