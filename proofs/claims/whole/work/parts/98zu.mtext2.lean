/-! ===== the text on the reference: the new beginning; read whole ===== -/
section Mu15
variable {n N k l op a r p m L v b τ i c : Nat} {B f : Nat → Nat} {s s' s0 s1 s2 : zS} {q q' : zQ} {tok : zK} {T : zT} {I I' : Nat → Nat → Int32} {x y : zX} {o o' : List (Nat × Nat)} {M : zS → ai_H} {A : zA}
theorem n_toL (h : k < 2147483648) : (nI k).toInt64 = lN k := by
  apply Int64.toInt_inj.mp
  rw [Int32.toInt_toInt64, lN_toInt (by omega), nI_toInt (by omega)]
theorem m_beginM (hM : bM M n) (hW : WT T) (hT : mTd s.1 T) : ∃ s' : zS, fX11_begin n (M s) 187 = some ((), M s') ∧ s'.2.2 = s.2.2 ∧ (∀ a, a ≠ 187 → s'.2.1 a = s.2.1 a) ∧ (∀ a j, ¬ hfM 0 a j → a ≠ 187 → s'.1 a j = s.1 a j) ∧ (∀ j, ¬ (69 ≤ j ∧ j ≤ 76) → j ≠ 84 → j ≠ 85 → j ≠ 89 → j ≠ 91 → s'.1 187 j = s.1 187 j) ∧ mTd s'.1 T ∧ mSd s' 0 T O00 (S0 T) ∧ s'.1 187 84 = nI 0 ∧ s'.1 187 85 = m1 ∧ s'.1 187 89 = nI 0 ∧ s'.1 187 91 = nI 0 := by
  obtain ⟨sa, a1, a2, a3, a4⟩ := m_firstM (b := 0) hM hW hT (by omega)
  obtain ⟨sb, eb⟩ : ∃ sb : zS, sb = wL sa 187 68 (s.1 191 2).toInt64 := ⟨_, rfl⟩
  obtain ⟨sc, c1, c2, c3, c4, -, -, c6⟩ := m_plainTM (s := sb) hM hW
  have hM0 := hM
  obtain ⟨h1m, h2m, h3m, h4m, h5m⟩ := hM
  unfold bMm at h1m
  unfold bMma at h2m
  unfold bMmz at h5m
  obtain ⟨sd, ed⟩ : ∃ sd : zS, sd = wI (wI (wI (wI sc 187 84 (nI 0)) 187 85 m1) 187 89 (nI 0)) 187 91 (nI 0) := ⟨_, rfl⟩
  have r25 : ∀ s, pR n (M s) 187 11 25 = some 191 := fun s => by simp only [h1m]
  have g188 : ∀ (s : zS) (j : Nat), j < 6 → gX 1 n (M s) 191 (nI j) = some (s.1 191 j) := fun s j hj => by simp (disch := omega) only [h2m]
  have w68 : ∀ (s : zS) (x : Int64), sF n (M s) 187 11 68 .long (.long x) = some (M (wL s 187 68 x)) := fun s x => by simp only [h1m]
  have w84 : ∀ (s : zS) (x : Int32), sF n (M s) 187 11 84 .int (.int x) = some (M (wI s 187 84 x)) := fun s x => by simp only [h1m]
  have w85 : ∀ (s : zS) (x : Int32), sF n (M s) 187 11 85 .int (.int x) = some (M (wI s 187 85 x)) := fun s x => by simp only [h1m]
  have w89 : ∀ (s : zS) (x : Int32), sF n (M s) 187 11 89 .int (.int x) = some (M (wI s 187 89 x)) := fun s x => by simp only [h1m]
  have w91 : ∀ (s : zS), sF n (M s) 187 11 91 .boolean (.int (nI 0)) = some (M (wI s 187 91 (nI 0))) := fun s => by simp (disch := omega) only [h5m]
  have oa : ∀ a j, ¬ hfM 0 a j → a ≠ 187 → sd.1 a j = s.1 a j := fun a j h1 h2 => by
    rw [ed, wI_ne h2, wI_ne h2, wI_ne h2, wI_ne h2, c3 a h2, eb]
    exact a3 a j h1
  have e188 : sa.1 191 2 = s.1 191 2 := a3 191 2 (by unfold hfM; omega)
  have ob : ∀ j, ¬ (69 ≤ j ∧ j ≤ 76) → j ≠ 84 → j ≠ 85 → j ≠ 89 → j ≠ 91 → sd.1 187 j = s.1 187 j := fun j h1 h2 h3 h4 h5 => by
    rw [ed, wI_at, upd_ne h5, wI_at, upd_ne h4, wI_at, upd_ne h3, wI_at, upd_ne h2, c6 j (by omega), eb]
    exact a3 187 j (by unfold hfM; omega)
  have o1 : ∀ a, a ≠ 187 → sd.1 a = sa.1 a := fun a h => by rw [ed, wI_ne h, wI_ne h, wI_ne h, wI_ne h, c3 a h, eb]; rfl
  refine ⟨sd, ?_, ?_, ?_, oa, ob, ?_, ?_, ?_, ?_, ?_, ?_⟩
  · unfold fX11_begin
    rw [h1m.1, Option.bind_some]
    show ((fX11_atFirst n (M s) 187 (nI 0)).bind _) = _
    rw [a1, Option.bind_some, r25, Option.bind_some]
    show ((gX 1 n (M sa) 191 (nI 2)).bind _) = _
    rw [g188 _ _ (by omega), Option.bind_some, e188, w68, Option.bind_some, ← eb, c1, Option.bind_some]
    show ((sF n (M sc) 187 11 84 .int (.int (nI 0))).bind _) = _
    rw [w84, Option.bind_some]
    show ((sF n (M _) 187 11 85 .int (.int m1)).bind _) = _
    rw [w85, Option.bind_some]
    show ((sF n (M _) 187 11 89 .int (.int (nI 0))).bind _) = _
    rw [w89, Option.bind_some]
    show ((sF n (M _) 187 11 91 .boolean (.int (nI 0))).bind _) = _
    rw [w91, Option.bind_some, ← ed]
  · rw [ed]; show sc.2.2 = _; rw [c2, eb]; show sa.2.2 = _; rw [a2]
  · intro a ha
    rw [ed]; show sc.2.1 a = _; rw [c2, eb]
    show va_up sa.2.1 187 _ a = _
    unfold va_up
    rw [if_neg ha, a2]
  · refine mTd_fr hT (fun a j h => ?_)
    rcases h with ⟨rfl, h1, h2⟩ | h
    · exact ob j (by omega) (by omega) (by omega) (by omega) (by omega)
    · exact oa a j (by unfold hfM; omega) (by omega)
  · have hS := S0_m (O := (1, true, false, 1, m1, fun _ => 0)) a4 (by decide)
    obtain ⟨⟨h1, h2, h3, -⟩, h4, h5⟩ := hS
    refine ⟨⟨?_, ?_, fun _ => ?_, fun _ => ?_⟩, ?_, ?_⟩
    · rw [o1 226 (by omega)]; exact h1
    · rw [o1 224 (by omega)]; exact h2
    · rw [o1 225 (by omega)]; exact h3 rfl
    · rw [ed]; show sc.2.1 187 68 = _; rw [c2, eb]
      show va_up sa.2.1 187 (vp_updL (sa.2.1 187) 68 (s.1 191 2).toInt64) 187 68 = lN (T 0 8)
      have : (s.1 191 2) = nI (T 0 8) := hT.2.1.2.2
      unfold va_up vp_updL
      rw [if_pos rfl, if_pos rfl, this]
      exact n_toL (by have := hW.2.1.2.2.2.2; omega)
    · rw [o1 221 (by omega), o1 222 (by omega), o1 223 (by omega)]; exact h4
    · rw [o1 219 (by omega), o1 220 (by omega)]; exact h5
  · rw [ed]; simp (disch := omega) only [wI_at, upd_at, upd_ne]
  · rw [ed]; simp (disch := omega) only [wI_at, upd_at, upd_ne]
  · rw [ed]; simp (disch := omega) only [wI_at, upd_at, upd_ne]
  · rw [ed]; simp (disch := omega) only [wI_at, upd_at, upd_ne]
end Mu15
