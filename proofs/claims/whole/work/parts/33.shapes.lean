/-! ===== shapes of cells, and what the words say of them ===== -/
def ob (n : Nat) (h : ai_H) (o ci : Nat) (fs : List Value) : Prop := (0 < o ∧ o < n) ∧ h o = .inr (ci, fs)
def ia (n : Nat) (h : ai_H) (a k z : Nat) (f : Nat → Int32) : Prop := (0 < a ∧ a < n) ∧ h a = .inl (k, z, .inl f)
def la (n : Nat) (h : ai_H) (a z : Nat) (f : Nat → Int64) : Prop := (0 < a ∧ a < n) ∧ h a = .inl (2, z, .inr (.inl f))
def ra (n : Nat) (h : ai_H) (a z : Nat) (f : Nat → Option Nat) : Prop := (0 < a ∧ a < n) ∧ h a = .inl (4, z, .inr (.inr (.inr (.inr f))))
section Sh
variable {n : Nat} {h : ai_H} {o ci k z a : Nat} {fs : List Value}
theorem ob_ob (H : ob n h o ci fs) : ai_ob (h, n, 0, 0) o ci = some fs := by
  unfold ai_ob
  rw [if_pos H.1]
  show (match h o with | .inr (c, fs) => if c = ci then some fs else none | .inl _ => none) = _
  rw [H.2]
  exact if_pos rfl
theorem ob_kO (H : ob n h o ci fs) : kO n h o ci = some () := by
  unfold kO
  rw [ob_ob H]
  rfl
theorem ob_pI (H : ob n h o ci fs) {x : Int32} (e : fs[k]? = some (.int x)) : pI n h o ci k = some x := by
  unfold pI
  rw [ob_ob H]
  simp only [e]
theorem ob_pJ (H : ob n h o ci fs) {x : Int64} (e : fs[k]? = some (.long x)) : pJ n h o ci k = some x := by
  unfold pJ
  rw [ob_ob H]
  simp only [e]
theorem ob_pR (H : ob n h o ci fs) {x : Nat} (e : fs[k]? = some (.ref x)) : pR n h o ci k = some x := by
  unfold pR
  rw [ob_ob H]
  simp only [e]
theorem ob_sF (H : ob n h o ci fs) {ty : FieldType} {v : Value} (hk : k < fs.length) (hf : fits ty v = true) : sF n h o ci k ty v = some (va_up h o (.inr (ci, fs.set k v))) := by
  unfold sF
  rw [ob_ob H]
  exact if_pos ⟨hk, hf⟩
theorem ob_up (H : ob n h o ci fs) (ne : o ≠ a) (x : va_E) : ob n (va_up h a x) o ci fs := ⟨H.1, by unfold va_up; rw [if_neg ne]; exact H.2⟩
theorem ob_at (H : 0 < o ∧ o < n) : ob n (va_up h o (.inr (ci, fs))) o ci fs := ⟨H, by unfold va_up; exact if_pos rfl⟩
theorem ob_fr {h' : ai_H} (H : ob n h o ci fs) (e : h' o = h o) : ob n h' o ci fs := ⟨H.1, e.trans H.2⟩
variable {f : Nat → Int32}
theorem ia_ar (H : ia n h a k z f) : ai_ar (h, n, 0, 0) a = some (k, z, .inl f) := by
  unfold ai_ar
  rw [if_pos H.1]
  show (match h a with | .inl x => some x | .inr _ => none) = _
  rw [H.2]
theorem ia_lA (H : ia n h a k z f) (hk : k < 5) : lA n h a = some (nI z) := by
  unfold lA
  rw [ia_ar H]
  exact if_pos hk
theorem ia_gX (H : ia n h a k z f) {j : Int32} (hj : ai_in j z = true) : gX k n h a j = some (f j.toNatClampNeg) := by
  unfold gX
  rw [ia_ar H]
  exact if_pos ⟨rfl, hj⟩
theorem ia_gXn (H : ia n h a k z f) {j : Int32} {k' : Nat} (hk : k ≠ k') : gX k' n h a j = none := by
  unfold gX
  rw [ia_ar H]
  exact if_neg (fun e => hk e.1)
theorem ia_gB (H : ia n h a 3 z f) {j : Int32} (hj : ai_in j z = true) : gB n h a j = some (f j.toNatClampNeg) := by
  unfold gB
  rw [ia_gX H hj]
theorem ia_gB0 (H : ia n h a 0 z f) {j : Int32} (hj : ai_in j z = true) : gB n h a j = some (f j.toNatClampNeg) := by
  unfold gB
  rw [ia_gXn H (by decide), ia_gX H hj]
theorem ia_wX (H : ia n h a k z f) {g : Int32 → Int32} {j x : Int32} (hj : ai_in j z = true) : wX k g n h a j x = some (va_up h a (.inl (k, z, .inl (upd f j.toNatClampNeg (g x))))) := by
  unfold wX
  rw [ia_ar H]
  exact if_pos ⟨rfl, hj⟩
theorem ia_wXn (H : ia n h a k z f) {g : Int32 → Int32} {j x : Int32} {k' : Nat} (hk : k ≠ k') : wX k' g n h a j x = none := by
  unfold wX
  rw [ia_ar H]
  exact if_neg (fun e => hk e.1)
theorem ia_wB (H : ia n h a 3 z f) {j x : Int32} (hj : ai_in j z = true) : wB n h a j x = some (va_up h a (.inl (3, z, .inl (upd f j.toNatClampNeg (vp_nar .boolean x))))) := by
  unfold wB
  rw [ia_wX H hj]
theorem ia_wB0 (H : ia n h a 0 z f) {j x : Int32} (hj : ai_in j z = true) : wB n h a j x = some (va_up h a (.inl (0, z, .inl (upd f j.toNatClampNeg (vp_nar .byte x))))) := by
  unfold wB
  rw [ia_wXn H (by decide), ia_wX H hj]
theorem ia_up {b : Nat} (H : ia n h a k z f) (ne : a ≠ b) (x : va_E) : ia n (va_up h b x) a k z f := ⟨H.1, by unfold va_up; rw [if_neg ne]; exact H.2⟩
theorem ia_at (H : 0 < a ∧ a < n) : ia n (va_up h a (.inl (k, z, .inl f))) a k z f := ⟨H, by unfold va_up; exact if_pos rfl⟩
theorem ia_fr {h' : ai_H} (H : ia n h a k z f) (e : h' a = h a) : ia n h' a k z f := ⟨H.1, e.trans H.2⟩
variable {g : Nat → Int64}
theorem la_ar (H : la n h a z g) : ai_ar (h, n, 0, 0) a = some (2, z, .inr (.inl g)) := by
  unfold ai_ar
  rw [if_pos H.1]
  show (match h a with | .inl x => some x | .inr _ => none) = _
  rw [H.2]
theorem la_gJ (H : la n h a z g) {j : Int32} (hj : ai_in j z = true) : gJ n h a j = some (g j.toNatClampNeg) := by
  unfold gJ
  rw [la_ar H]
  exact if_pos ⟨rfl, hj⟩
theorem la_wJ (H : la n h a z g) {j : Int32} {x : Int64} (hj : ai_in j z = true) : wJ n h a j x = some (va_up h a (.inl (2, z, .inr (.inl (vp_updL g j.toNatClampNeg x))))) := by
  unfold wJ
  rw [la_ar H]
  exact if_pos ⟨rfl, hj⟩
theorem la_up {b : Nat} (H : la n h a z g) (ne : a ≠ b) (x : va_E) : la n (va_up h b x) a z g := ⟨H.1, by unfold va_up; rw [if_neg ne]; exact H.2⟩
theorem la_at (H : 0 < a ∧ a < n) : la n (va_up h a (.inl (2, z, .inr (.inl g)))) a z g := ⟨H, by unfold va_up; exact if_pos rfl⟩
theorem la_fr {h' : ai_H} (H : la n h a z g) (e : h' a = h a) : la n h' a z g := ⟨H.1, e.trans H.2⟩
theorem ia_cA {b kz kb : Nat} {f' : Nat → Int32} (H : ia n h a 1 kz f) (H' : ia n h b 1 kb f') {sp dp m : Nat} (h1 : sp + m ≤ kz) (h2 : dp + m ≤ kb) (hz : kz < 2 ^ 31) (hb : kb < 2 ^ 31) : cA n h a (nI sp) b (nI dp) (nI m) = some (va_up h b (.inl (1, kb, .inl (va_cpy f f' sp dp m)))) := by
  unfold cA
  rw [ia_ar H, ia_ar H']
  show (if _ then _ else _) = _
  rw [nI_clamp (by omega : sp < 2 ^ 31), nI_clamp (by omega : dp < 2 ^ 31), nI_clamp (by omega : m < 2 ^ 31)]
  exact if_pos ⟨rfl, rfl, nI_pos (by omega), nI_pos (by omega), nI_pos (by omega), h1, h2⟩
theorem in_nI {j : Nat} (h : j < z) (hz : z < 2 ^ 31) : ai_in (nI j) z = true := by
  unfold ai_in
  rw [nI_clamp (by omega : j < 2 ^ 31)]
  simp only [nI_pos (by omega : j < 2 ^ 31), not_false_iff, decide_true, Bool.true_and, decide_eq_true_eq]
  exact h
theorem upd_at {f : Nat → Int32} {i : Nat} {x : Int32} : upd f i x i = x := by unfold upd; exact if_pos rfl
theorem upd_ne {f : Nat → Int32} {i j : Nat} {x : Int32} (hne : j ≠ i) : upd f i x j = f j := by unfold upd; exact if_neg hne
theorem up_ne {b : Nat} {x : va_E} (hne : b ≠ a) : va_up h a x b = h b := by unfold va_up; exact if_neg hne
theorem up_at {x : va_E} : va_up h a x a = x := by unfold va_up; exact if_pos rfl
end Sh
/-! loops -/
theorem bi_K1 : bi_K = 4294967295 + 1 := rfl
