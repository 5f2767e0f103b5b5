/-! ===== the law: its path(), its arguments ===== -/
section Ll
variable {D n t g c sl pc : Nat} {s s' : zS} {A : zA} {x y : Int32} {T : List (Nat × ai_Op)} {hd : Nat → Nat → Option (Option (Nat × Nat))} {o : ai_Ou} {lv : ai_L} {st : List Value} {r : ai_Hp} {h h1 : ai_H}
theorem lz_last {a : Nat} {j : Int32} {v : Int64} (hk : ai_lk T pc = some op_last) (e : wJ n h a j v = some h1) (g : lz D T hd o (pc + 1) lv st (h1, n, c, sl)) : lz D T hd o pc lv (.long v :: .int j :: .ref a :: st) (h, n, c, sl) := lz_st hk (by
  have e2 : ai_ar (h, n, c, sl) a = ai_ar (h, n, 0, 0) a := rfl
  unfold wJ at e
  simp only [ai_lxs, e2]
  split at e
  · rename_i k' z f hf
    split at e
    · rename_i hc
      cases e
      simp only [hf]
      rw [if_pos hc]
    · cases e
  · cases e) g
theorem lz_lald {a : Nat} {j : Int32} {v : Int64} (hk : ai_lk T pc = some op_lald) (e : gJ n h a j = some v) (g : lz D T hd o (pc + 1) lv (.long v :: st) (h, n, c, sl)) : lz D T hd o pc lv (.int j :: .ref a :: st) (h, n, c, sl) := lz_st hk (by
  have e2 : ai_ar (h, n, c, sl) a = ai_ar (h, n, 0, 0) a := rfl
  unfold gJ at e
  simp only [ai_lld, e2]
  split at e
  · rename_i k' z f hf
    split at e
    · rename_i hc
      cases e
      simp only [hf]
      rw [if_pos hc]
    · cases e
  · cases e) g
theorem w235 (hn : 239 ≤ n) {v : Int64} : wJ n (mk s) 238 (nI 0) v = some (mk (wL s 238 0 v)) := mk_wJ (z := 1) rfl ⟨by omega, by omega⟩ (Or.inl (by omega)) (by omega) (by decide)
theorem g238 (hn : 239 ≤ n) : gJ n (mk s) 238 (nI 0) = some (s.2.1 238 0) := mk_gJ (z := 1) rfl ⟨by omega, by omega⟩ (Or.inl (by omega)) (by omega) (by decide)
/-- the law's path() -/
theorem l_path (hn : 239 ≤ n) (hc : cK s t A) (hw : wfA A) : (∃ v, (∃ p, p < aT A 0 1 ∧ x = nI p ∧ pathV (aT A) (aS A) p y = some v) ∧ bi_sp 5 270 [.ref 1, .int x, .int y, .ref 238] (mk s) n (.inl (some (.int 0)), mk (wL s 238 0 v.toInt64), n, 0, 0)) ∨ ((∃ p, p < aT A 0 1 ∧ x = nI p ∧ pathV (aT A) (aS A) p y = none) ∧ bi_sp 5 270 [.ref 1, .int x, .int y, .ref 238] (mk s) n (.inl (some (.int 2)), mk s, n, 1, 6)) ∨ (¬ inR x (aT A 0 1) = true ∧ bi_sp 5 270 [.ref 1, .int x, .int y, .ref 238] (mk s) n (.inl (some (.int 1)), mk s, n, 1, 6)) := by
  have h0 := hw.1.1
  by_cases q : inR x (aT A 0 1) = true
  · obtain ⟨p, hp, rfl⟩ := inR_t (by omega) q
    have e1 := c_path (y := y) hn hc hw hp
    cases r : pathV (aT A) (aS A) p y with
    | some v =>
      rw [r] at e1
      refine Or.inl ⟨v, ⟨p, hp, rfl, r⟩, ?_⟩
      refine lz_en (T := tL_path) rfl (Nat.le_of_ble_eq_true rfl) (D := 4) ?_
      refine lz_al (pc := 0) rfl rfl (lz_pi rfl (lz_al rfl rfl (lz_il rfl rfl (lz_il rfl rfl ?_))))
      refine lz_iv (pc := 5) (v := some (.int v)) rfl rfl (gX10_path e1) (Nat.le_of_ble_eq_true rfl) (bi_up (sX10_path e1) (Nat.le_of_ble_eq_true rfl)) ?_
      exact lz_st (f := ai_i2l) rfl rfl (lz_last rfl (w235 hn) (lz_goto rfl (lz_pi rfl (lz_ret rfl rfl rfl))))
    | none =>
      rw [r] at e1
      refine Or.inr (Or.inl ⟨⟨p, hp, rfl, r⟩, ?_⟩)
      refine lz_en (T := tL_path) rfl (Nat.le_of_ble_eq_true rfl) (D := 4) ?_
      refine lz_al (pc := 0) rfl rfl (lz_pi rfl (lz_al rfl rfl (lz_il rfl rfl (lz_il rfl rfl ?_))))
      refine lz_ivX (pc := 5) rfl rfl (gX10_path e1) (Nat.le_of_ble_eq_true rfl) (bi_up (sX10_path e1) (Nat.le_of_ble_eq_true rfl)) rfl ?_
      exact lz_pi rfl (lz_ret rfl rfl rfl)
  · have e1 := c_pathX (y := y) hn hc hw q
    refine Or.inr (Or.inr ⟨q, ?_⟩)
    refine lz_en (T := tL_path) rfl (Nat.le_of_ble_eq_true rfl) (D := 4) ?_
    refine lz_al (pc := 0) rfl rfl (lz_pi rfl (lz_al rfl rfl (lz_il rfl rfl (lz_il rfl rfl ?_))))
    refine lz_ivX (pc := 5) rfl rfl (gX10_path e1) (Nat.le_of_ble_eq_true rfl) (bi_up (sX10_path e1) (Nat.le_of_ble_eq_true rfl)) rfl ?_
    exact lz_pi rfl (lz_ret rfl rfl rfl)
/-- an argument out of the script -/
theorem lz_arg {L i k : Nat} {xs : Nat → Int32} {z : Int32} (h1 : ai_lk T pc = some (op_al 0 1)) (h2 : ai_lk T (pc + 1) = some (op_il 4 2)) (h3 : ai_lk T (pc + 1 + 2) = some (op_pi 1 z)) (h4 : ai_lk T (pc + 1 + 2 + 1) = some op_iadd) (h5 : ai_lk T (pc + 1 + 2 + 1 + 1) = some (ai_sp (ai_scr L xs))) (hz : z = nI k) (l0 : ai_ld 0 lv = some (.ref 0)) (l4 : ai_ld 4 lv = some (.int (nI i))) (hi : i + k < L) (hL : L ≤ 384) (g : lz D T hd o (pc + 1 + 2 + 1 + 1 + 1) lv (.int (xs (i + k)) :: st) r) : lz D T hd o pc lv st r := by
  subst hz
  refine lz_al h1 l0 (lz_il h2 l4 (lz_pi h3 (lz_iadd h4 (lz_st (f := ai_scr L xs) h5 ?_ g))))
  show (if ai_in (nI i + nI k) L = true then some (_, lv, .int (xs (nI i + nI k).toNatClampNeg) :: st, r) else none) = _
  rw [nI_add, if_pos (in_nI hi (by omega)), nI_clamp (by omega)]
theorem lg_self (v : Int64) : lg_cmp v v = 0 := by
  have h1 : nI 0 ≤ lg_cmp v v := by
    rw [CMP.1]
    exact Int64.le_refl v
  have h2 : lg_cmp v v ≤ nI 0 := by
    rw [CMP.2.1]
    exact Int64.le_refl v
  exact Int32.le_antisymm h2 h1
theorem and_63 (v : Int32) : ∃ j, j < 64 ∧ v &&& 63 = nI j := by
  refine ⟨(v.toBitVec &&& 63#32).toNat, ?_, ?_⟩
  · rw [BitVec.toNat_and]
    exact Nat.lt_of_le_of_lt Nat.and_le_right (by decide)
  · apply Int32.toBitVec_inj.mp
    show v.toBitVec &&& 63#32 = BitVec.ofNat 32 (v.toBitVec &&& 63#32).toNat
    rw [BitVec.ofNat_toNat, BitVec.setWidth_eq]
theorem IN_k1 (h : IN s n g) : kO n (mk s) 1 10 = some () := by
  obtain ⟨_, _, _, _, _, hg, _, _⟩ := h
  exact (B_K (gmS_n hg)).1 s
end Ll
