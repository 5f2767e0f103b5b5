/-! ===== each instruction, by its name ===== -/
section Mono
theorem ai_mo_ib (g : Int32 → Int32 → Int32) : ai_mo (ai_ib g) := by
  intro pc lv st r pc' lv' st' r' h
  simp only [ai_ib] at h
  repeat' split at h
  all_goals first | (cases h; done) | (cases h; exact ⟨Nat.le_refl _, Nat.le_refl _⟩)
theorem ai_mo_id (g : Int32 → Int32 → Int32) : ai_mo (ai_id g) := by
  intro pc lv st r pc' lv' st' r' h
  simp only [ai_id] at h
  repeat' split at h
  all_goals first | (cases h; done) | (cases h; exact ⟨Nat.le_refl _, Nat.le_refl _⟩)
theorem ai_mo_lb (g : Int64 → Int64 → Int64) : ai_mo (ai_lb g) := by
  intro pc lv st r pc' lv' st' r' h
  simp only [ai_lb] at h
  repeat' split at h
  all_goals first | (cases h; done) | (cases h; exact ⟨Nat.le_refl _, Nat.le_refl _⟩)
theorem ai_mo_le (g : Int64 → Int64 → Int64) : ai_mo (ai_le g) := by
  intro pc lv st r pc' lv' st' r' h
  simp only [ai_le] at h
  repeat' split at h
  all_goals first | (cases h; done) | (cases h; exact ⟨Nat.le_refl _, Nat.le_refl _⟩)
theorem ai_mo_lI (g : Int64 → Int64 → Int32) : ai_mo (ai_lI g) := by
  intro pc lv st r pc' lv' st' r' h
  simp only [ai_lI] at h
  repeat' split at h
  all_goals first | (cases h; done) | (cases h; exact ⟨Nat.le_refl _, Nat.le_refl _⟩)
theorem ai_mo_iu (g : Int32 → Int32) : ai_mo (ai_iu g) := by
  intro pc lv st r pc' lv' st' r' h
  simp only [ai_iu] at h
  repeat' split at h
  all_goals first | (cases h; done) | (cases h; exact ⟨Nat.le_refl _, Nat.le_refl _⟩)
theorem ai_mo_lu (g : Int64 → Int64) : ai_mo (ai_lu g) := by
  intro pc lv st r pc' lv' st' r' h
  simp only [ai_lu] at h
  repeat' split at h
  all_goals first | (cases h; done) | (cases h; exact ⟨Nat.le_refl _, Nat.le_refl _⟩)
theorem ai_mo_i2l : ai_mo ai_i2l := by
  intro pc lv st r pc' lv' st' r' h
  simp only [ai_i2l] at h
  repeat' split at h
  all_goals first | (cases h; done) | (cases h; exact ⟨Nat.le_refl _, Nat.le_refl _⟩)
theorem ai_mo_l2i : ai_mo ai_l2i := by
  intro pc lv st r pc' lv' st' r' h
  simp only [ai_l2i] at h
  repeat' split at h
  all_goals first | (cases h; done) | (cases h; exact ⟨Nat.le_refl _, Nat.le_refl _⟩)
theorem ai_mo_pi (len : Nat) (v : Int32) : ai_mo (ai_pi len v) := by
  intro pc lv st r pc' lv' st' r' h
  cases h; exact ⟨Nat.le_refl _, Nat.le_refl _⟩
theorem ai_mo_pl (len : Nat) (v : Int64) : ai_mo (ai_pl len v) := by
  intro pc lv st r pc' lv' st' r' h
  cases h; exact ⟨Nat.le_refl _, Nat.le_refl _⟩
theorem ai_mo_b1 (P : Int32 → Bool) (t : Nat) : ai_mo (ai_b1 P t) := by
  intro pc lv st r pc' lv' st' r' h
  simp only [ai_b1] at h
  split at h
  · cases h; exact ⟨Nat.le_refl _, Nat.le_refl _⟩
  · cases h
theorem ai_mo_b2 (P : Int32 → Int32 → Bool) (t : Nat) : ai_mo (ai_b2 P t) := by
  intro pc lv st r pc' lv' st' r' h
  simp only [ai_b2] at h
  split at h
  · cases h; exact ⟨Nat.le_refl _, Nat.le_refl _⟩
  · cases h
theorem ai_mo_go (t : Nat) : ai_mo (ai_go t) := by
  intro pc lv st r pc' lv' st' r' h
  cases h; exact ⟨Nat.le_refl _, Nat.le_refl _⟩
theorem ai_mo_sw (lo : Int) (ts : List Nat) (d : Nat) : ai_mo (ai_sw lo ts d) := by
  intro pc lv st r pc' lv' st' r' h
  simp only [ai_sw] at h
  split at h
  · cases h; exact ⟨Nat.le_refl _, Nat.le_refl _⟩
  · cases h
theorem ai_mo_dup : ai_mo ai_dup := by
  intro pc lv st r pc' lv' st' r' h
  simp only [ai_dup] at h
  repeat' split at h
  all_goals first | (cases h; done) | (cases h; exact ⟨Nat.le_refl _, Nat.le_refl _⟩)
theorem ai_mo_dup2 : ai_mo ai_dup2 := by
  intro pc lv st r pc' lv' st' r' h
  simp only [ai_dup2] at h
  repeat' split at h
  all_goals first | (cases h; done) | (cases h; exact ⟨Nat.le_refl _, Nat.le_refl _⟩)
theorem ai_mo_pop : ai_mo ai_pop := by
  intro pc lv st r pc' lv' st' r' h
  simp only [ai_pop] at h
  repeat' split at h
  all_goals first | (cases h; done) | (cases h; exact ⟨Nat.le_refl _, Nat.le_refl _⟩)
theorem ai_mo_il (i len : Nat) : ai_mo (ai_il i len) := by
  intro pc lv st r pc' lv' st' r' h
  simp only [ai_il] at h
  repeat' split at h
  all_goals first | (cases h; done) | (cases h; exact ⟨Nat.le_refl _, Nat.le_refl _⟩)
theorem ai_mo_ll (i len : Nat) : ai_mo (ai_ll i len) := by
  intro pc lv st r pc' lv' st' r' h
  simp only [ai_ll] at h
  repeat' split at h
  all_goals first | (cases h; done) | (cases h; exact ⟨Nat.le_refl _, Nat.le_refl _⟩)
theorem ai_mo_al (i len : Nat) : ai_mo (ai_al i len) := by
  intro pc lv st r pc' lv' st' r' h
  simp only [ai_al] at h
  repeat' split at h
  all_goals first | (cases h; done) | (cases h; exact ⟨Nat.le_refl _, Nat.le_refl _⟩)
theorem ai_mo_is (i len : Nat) : ai_mo (ai_is i len) := by
  intro pc lv st r pc' lv' st' r' h
  simp only [ai_is] at h
  repeat' split at h
  all_goals first | (cases h; done) | (cases h; exact ⟨Nat.le_refl _, Nat.le_refl _⟩)
theorem ai_mo_lst (i len : Nat) : ai_mo (ai_lst i len) := by
  intro pc lv st r pc' lv' st' r' h
  simp only [ai_lst] at h
  repeat' split at h
  all_goals first | (cases h; done) | (cases h; exact ⟨Nat.le_refl _, Nat.le_refl _⟩)
theorem ai_mo_as (i len : Nat) : ai_mo (ai_as i len) := by
  intro pc lv st r pc' lv' st' r' h
  simp only [ai_as] at h
  repeat' split at h
  all_goals first | (cases h; done) | (cases h; exact ⟨Nat.le_refl _, Nat.le_refl _⟩)
theorem ai_mo_inc (i : Nat) (k : Int32) : ai_mo (ai_inc i k) := by
  intro pc lv st r pc' lv' st' r' h
  simp only [ai_inc] at h
  repeat' split at h
  all_goals first | (cases h; done) | (cases h; exact ⟨Nat.le_refl _, Nat.le_refl _⟩)
theorem ai_mo_gf (ci k : Nat) : ai_mo (ai_gf ci k) := by
  intro pc lv st r pc' lv' st' r' h
  simp only [ai_gf] at h
  repeat' split at h
  all_goals first | (cases h; done) | (cases h; exact ⟨Nat.le_refl _, Nat.le_refl _⟩)
theorem ai_mo_pf (ci k : Nat) (ty : FieldType) : ai_mo (ai_pf ci k ty) := by
  intro pc lv st r pc' lv' st' r' h
  simp only [ai_pf] at h
  repeat' split at h
  all_goals first | (cases h; done) | (cases h; exact ⟨Nat.le_refl _, Nat.le_refl _⟩)
theorem ai_mo_len : ai_mo ai_len := by
  intro pc lv st r pc' lv' st' r' h
  simp only [ai_len] at h
  repeat' split at h
  all_goals first | (cases h; done) | (cases h; exact ⟨Nat.le_refl _, Nat.le_refl _⟩)
theorem ai_mo_xl (k : Nat) : ai_mo (ai_xl k) := by
  intro pc lv st r pc' lv' st' r' h
  simp only [ai_xl] at h
  repeat' split at h
  all_goals first | (cases h; done) | (cases h; exact ⟨Nat.le_refl _, Nat.le_refl _⟩)
theorem ai_mo_lld : ai_mo ai_lld := by
  intro pc lv st r pc' lv' st' r' h
  simp only [ai_lld] at h
  repeat' split at h
  all_goals first | (cases h; done) | (cases h; exact ⟨Nat.le_refl _, Nat.le_refl _⟩)
theorem ai_mo_ald : ai_mo ai_ald := by
  intro pc lv st r pc' lv' st' r' h
  simp only [ai_ald] at h
  repeat' split at h
  all_goals first | (cases h; done) | (cases h; exact ⟨Nat.le_refl _, Nat.le_refl _⟩)
theorem ai_mo_xs (k : Nat) (g : Int32 → Int32) : ai_mo (ai_xs k g) := by
  intro pc lv st r pc' lv' st' r' h
  simp only [ai_xs] at h
  repeat' split at h
  all_goals first | (cases h; done) | (cases h; exact ⟨Nat.le_refl _, Nat.le_refl _⟩)
theorem ai_mo_lxs : ai_mo ai_lxs := by
  intro pc lv st r pc' lv' st' r' h
  simp only [ai_lxs] at h
  repeat' split at h
  all_goals first | (cases h; done) | (cases h; exact ⟨Nat.le_refl _, Nat.le_refl _⟩)
theorem ai_mo_axs : ai_mo ai_axs := by
  intro pc lv st r pc' lv' st' r' h
  simp only [ai_axs] at h
  repeat' split at h
  all_goals first | (cases h; done) | (cases h; exact ⟨Nat.le_refl _, Nat.le_refl _⟩)
theorem ai_mo_nw2 (ci N : Nat) (fs : List Value) : ai_mo (ai_nw2 ci N fs) := by
  intro pc lv st r pc' lv' st' r' h
  cases h; exact ⟨Nat.le_add_right _ _, Nat.le_add_right _ _⟩
theorem ai_mo_na (k : Nat) (f : ai_F) : ai_mo (ai_na k f) := by
  intro pc lv st r pc' lv' st' r' h
  simp only [ai_na] at h
  repeat' split at h
  all_goals first | (cases h; done) | (cases h; exact ⟨Nat.le_add_right _ _, Nat.le_add_right _ _⟩)
theorem ai_mo_nq : ai_mo ai_nq := by
  intro pc lv st r pc' lv' st' r' h
  simp only [ai_nq] at h
  repeat' split at h
  all_goals first | (cases h; done) | (cases h; exact ⟨Nat.le_add_right _ _, Nat.le_add_right _ _⟩)
theorem ai_mo_oi : ai_mo ai_oi := by
  intro pc lv st r pc' lv' st' r' h
  simp only [ai_oi] at h
  repeat' split at h
  all_goals first | (cases h; done) | (cases h; exact ⟨Nat.le_refl _, Nat.le_refl _⟩)
theorem ai_mo_nn (t : Nat) : ai_mo (ai_nn t) := by
  intro pc lv st r pc' lv' st' r' h
  simp only [ai_nn] at h
  repeat' split at h
  all_goals first | (cases h; done) | (cases h; exact ⟨Nat.le_refl _, Nat.le_refl _⟩)
theorem ai_mo_m2 (g : Int32 → Int32 → Int32) : ai_mo (ai_m2 g) := by
  intro pc lv st r pc' lv' st' r' h
  simp only [ai_m2] at h
  repeat' split at h
  all_goals first | (cases h; done) | (cases h; exact ⟨Nat.le_refl _, Nat.le_refl _⟩)
theorem ai_mo_ml (g : Int64 → Int64 → Int64) : ai_mo (ai_ml g) := by
  intro pc lv st r pc' lv' st' r' h
  simp only [ai_ml] at h
  repeat' split at h
  all_goals first | (cases h; done) | (cases h; exact ⟨Nat.le_refl _, Nat.le_refl _⟩)
theorem ai_mo_ma : ai_mo ai_ma := by
  intro pc lv st r pc' lv' st' r' h
  simp only [ai_ma] at h
  repeat' split at h
  all_goals first | (cases h; done) | (cases h; exact ⟨Nat.le_refl _, Nat.le_refl _⟩)
theorem ai_mo_cp : ai_mo ai_cp := by
  intro pc lv st r pc' lv' st' r' h
  simp only [ai_cp] at h
  repeat' split at h
  all_goals first | (cases h; done) | (cases h; exact ⟨Nat.le_refl _, Nat.le_refl _⟩)
end Mono
