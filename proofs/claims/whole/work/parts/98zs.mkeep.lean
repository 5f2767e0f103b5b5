/-! ===== the text on the reference: what was read is kept ===== -/
section Ms13
variable {n N k l op a r p m L v b τ i c : Nat} {B f : Nat → Nat} {s s' s0 s1 s2 : zS} {q q' : zQ} {tok : zK} {T : zT} {I I' : Nat → Nat → Int32} {cs : List Nat} {x y : zX} {o o' : List (Nat × Nat)} {M : zS → ai_H}
/-- half of a row of the reference -/
def kpF (b : Nat) : Nat := if b = 191 then 3 else if b = 192 then 7 else if b ≤ 198 then 9 else if b ≤ 202 then 4 else if b ≤ 205 then 12 else if b ≤ 208 then 6 else if b ≤ 211 then 3 else 64
/-- rows up to one are copied to the front -/
def kpR (m : Nat) (s s' : zS) : Prop := s'.2 = s.2 ∧ s'.1 187 = s.1 187 ∧ ∀ b, b ≠ 187 → ∀ j, s'.1 b j = if 191 ≤ b ∧ b < m ∧ j < kpF b then s.1 b (kpF b + j) else s.1 b j
theorem kp_0 : kpR 191 s s := ⟨rfl, rfl, fun b _ j => by rw [if_neg (by omega)]⟩
theorem kp_end (h : kpR m s0 s) (hm : 191 ≤ m) (g2 : s'.2 = s.2) (g1 : ∀ b, b ≠ m → s'.1 b = s.1 b) (g3 : ∀ j, j < kpF m → s'.1 m j = s.1 m (kpF m + j)) (g4 : ∀ j, kpF m ≤ j → s'.1 m j = s.1 m j) : kpR (m + 1) s0 s' := by
  obtain ⟨h1, h2, h3⟩ := h
  refine ⟨g2.trans h1, by rw [g1 187 (by omega)]; exact h2, fun b hb j => ?_⟩
  by_cases e : b = m
  · subst e
    by_cases hj : j < kpF b
    · rw [if_pos ⟨hm, by omega, hj⟩, g3 j hj, h3 b hb, if_neg (by omega)]
    · rw [if_neg (by omega), g4 j (by omega), h3 b hb, if_neg (by omega)]
  · rw [g1 b e, h3 b hb]
    by_cases c : 191 ≤ b ∧ b < m ∧ j < kpF b
    · rw [if_pos c, if_pos (by omega)]
    · rw [if_neg c, if_neg (by omega)]
theorem m_copies {K : Nat} (hg : ∀ (s : zS) (j : Nat), j < K + K → gX 1 n (M s) b (nI j) = some (s.1 b j)) (hw : ∀ (s : zS) (j : Nat) (x : Int32), j < K + K → wX 1 (fun x => x) n (M s) b (nI j) x = some (M (wI s b j x))) (hK : K < 1000) : ∃ s' : zS, fX11_copies n (M s) b (nI K) = some ((), M s') ∧ s'.2 = s.2 ∧ (∀ c, c ≠ b → s'.1 c = s.1 c) ∧ (∀ j, j < K → s'.1 b j = s.1 b (K + j)) ∧ ∀ j, K ≤ j → s'.1 b j = s.1 b j := by
  have gen : ∀ m i F (s1 : zS), m + i = K → m < F → s1.2 = s.2 → (∀ c, c ≠ b → s1.1 c = s.1 c) → (∀ j, j < i → s1.1 b j = s.1 b (K + j)) → (∀ j, i ≤ j → s1.1 b j = s.1 b j) → ∃ s' : zS, fX11_copies_2 n F (M s1) b (nI K) (nI i) = some ((), M s') ∧ s'.2 = s.2 ∧ (∀ c, c ≠ b → s'.1 c = s.1 c) ∧ (∀ j, j < K → s'.1 b j = s.1 b (K + j)) ∧ ∀ j, K ≤ j → s'.1 b j = s.1 b j := by
    intro m
    induction m with
    | zero =>
      intro i F s1 e hF h1 h2 h3 h4
      obtain ⟨F', rfl⟩ : ∃ F', F = F' + 1 := ⟨F - 1, by omega⟩
      refine ⟨s1, ?_, h1, h2, fun j hj => h3 j (by omega), fun j hj => h4 j (by omega)⟩
      show fX11_copies_2b n (fX11_copies_2 n F') (M s1) b (nI K) (nI i) = _
      unfold fX11_copies_2b
      rw [if_pos (show nI K ≤ nI i by rw [n_le (by omega) (by omega)]; omega)]
    | succ m ih =>
      intro i F s1 e hF h1 h2 h3 h4
      obtain ⟨F', rfl⟩ : ∃ F', F = F' + 1 := ⟨F - 1, by omega⟩
      obtain ⟨s', g⟩ := ih (i + 1) F' (wI s1 b i (s.1 b (K + i))) (by omega) (by omega) h1 (fun c hc => by rw [wI_ne hc]; exact h2 c hc) (fun j hj => by
        rw [wI_at]
        by_cases e : j = i
        · rw [e, upd_at]
        · rw [upd_ne e]; exact h3 j (by omega)) (fun j hj => by rw [wI_at, upd_ne (by omega)]; exact h4 j (by omega))
      refine ⟨s', ?_, g.2⟩
      rw [← g.1]
      show fX11_copies_2b n (fX11_copies_2 n F') (M s1) b (nI K) (nI i) = _
      unfold fX11_copies_2b
      rw [if_neg (show ¬ nI K ≤ nI i by rw [n_le (by omega) (by omega)]; omega), nI_add, hg _ _ (by omega), Option.bind_some, hw _ _ _ (by omega), Option.bind_some, h4 (K + i) (by omega)]
      show fX11_copies_2 n F' _ b (nI K) (nI i + nI 1) = _
      rw [nI_add]
  exact gen K 0 bi_K s (by omega) (by unfold bi_K; omega) rfl (fun _ _ => rfl) (fun j h => absurd h (Nat.not_lt_zero _)) (fun _ _ => rfl)
theorem kp_cp (hg : ∀ (s : zS) (j : Nat), j < kpF m + kpF m → gX 1 n (M s) m (nI j) = some (s.1 m j)) (hw : ∀ (s : zS) (j : Nat) (x : Int32), j < kpF m + kpF m → wX 1 (fun x => x) n (M s) m (nI j) x = some (M (wI s m j x))) (hm : 191 ≤ m) (h : kpR m s0 s) : ∃ s' : zS, fX11_copies n (M s) m (nI (kpF m)) = some ((), M s') ∧ kpR (m + 1) s0 s' := by
  have hK : kpF m < 1000 := by
    unfold kpF
    repeat' split
    all_goals omega
  obtain ⟨s', g1, g2, g3, g4, g5⟩ := m_copies (s := s) (K := kpF m) hg hw hK
  exact ⟨s', g1, kp_end h hm g2 g3 g4 g5⟩
theorem m_k206 (hM : bM M n) : ∀ (m i F : Nat) (s1 : zS), m + i = 3 → m < F → s1.2 = s.2 → (∀ c, c ≠ 209 → s1.1 c = s.1 c) → (∀ j, j < i → s1.1 209 j = s.1 209 (3 + j)) → (∀ j, i ≤ j → s1.1 209 j = s.1 209 j) → (∀ j, j < 6 → ∃ b, b ≤ 1 ∧ s.1 209 j = nI b) → ∃ s' : zS, fX11_keepText_207 n F (M s1) 187 (nI i) = fX11_keepText_207b n (fun _ _ _ => none) (M s') 187 (nI 3) ∧ s'.2 = s.2 ∧ (∀ c, c ≠ 209 → s'.1 c = s.1 c) ∧ (∀ j, j < 3 → s'.1 209 j = s.1 209 (3 + j)) ∧ ∀ j, 3 ≤ j → s'.1 209 j = s.1 209 j := by
  have hM0 := hM
  obtain ⟨h1m, h2m, h3m, h4m, h5m⟩ := hM
  unfold bMm at h1m
  unfold bMma at h2m
  unfold bMmb at h3m
  have r43 : ∀ s, pR n (M s) 187 11 43 = some 209 := fun s => by simp only [h1m]
  have g206 : ∀ (s : zS) (j : Nat), j < 6 → gB n (M s) 209 (nI j) = some (s.1 209 j) := fun s j hj => by simp (disch := omega) only [h2m]
  have w206 : ∀ (s : zS) (j : Nat) (x : Int32), j < 6 → wB n (M s) 209 (nI j) x = some (M (wI s 209 j (vp_nar .boolean x))) := fun s j x hj => by simp (disch := omega) only [h2m]
  intro m
  induction m with
  | zero =>
    intro i F s1 e hF h1 h2 h3 h4 hb
    obtain ⟨F', rfl⟩ : ∃ F', F = F' + 1 := ⟨F - 1, by omega⟩
    refine ⟨s1, ?_, h1, h2, fun j hj => h3 j (by omega), fun j hj => h4 j (by omega)⟩
    show fX11_keepText_207b n (fX11_keepText_207 n F') (M s1) 187 (nI i) = _
    unfold fX11_keepText_207b
    rw [show i = 3 by omega, if_pos (show (3 : Int32) ≤ nI 3 by decide), if_pos (show (3 : Int32) ≤ nI 3 by decide)]
  | succ m ih =>
    intro i F s1 e hF h1 h2 h3 h4 hb
    obtain ⟨F', rfl⟩ : ∃ F', F = F' + 1 := ⟨F - 1, by omega⟩
    obtain ⟨v, hv, ev⟩ := hb (3 + i) (by omega)
    obtain ⟨s', g⟩ := ih (i + 1) F' (wI s1 209 i (s.1 209 (3 + i))) (by omega) (by omega) h1 (fun c hc => by rw [wI_ne hc]; exact h2 c hc) (fun j hj => by
      rw [wI_at]
      by_cases e : j = i
      · rw [e, upd_at]
      · rw [upd_ne e]; exact h3 j (by omega)) (fun j hj => by rw [wI_at, upd_ne (by omega)]; exact h4 j (by omega)) hb
    refine ⟨s', ?_, g.2⟩
    rw [← g.1]
    show fX11_keepText_207b n (fX11_keepText_207 n F') (M s1) 187 (nI i) = _
    unfold fX11_keepText_207b
    rw [if_neg (show ¬ (3 : Int32) ≤ nI i by
      show ¬ nI 3 ≤ nI i
      rw [n_le (by omega) (by omega)]; omega), r43, Option.bind_some, Option.bind_some]
    show ((gB n (M s1) 209 (nI 3 + nI i)).bind _) = _
    rw [nI_add, g206 _ _ (by omega), Option.bind_some, w206 _ _ _ (by omega), Option.bind_some, h4 (3 + i) (by omega), ev, nar_b hv]
    show fX11_keepText_207 n F' _ 187 (nI i + nI 1) = _
    rw [nI_add]
theorem m_keepTx (hM : bM M n) (hb : ∀ j, j < 6 → ∃ b, b ≤ 1 ∧ s.1 209 j = nI b) : ∃ s1 s' : zS, s1 = wI (wI (wI (wI (wI (wI s 187 12 (s.1 187 18)) 187 13 (s.1 187 19)) 187 14 (s.1 187 20)) 187 15 (s.1 187 21)) 187 16 (s.1 187 22)) 187 17 (s.1 187 23) ∧ fX11_keepText n (M s) 187 = ((fX11_begin n (M s') 187).bind fun q11 => some ((), q11.2)) ∧ kpR 215 s1 s' := by
  have hM0 := hM
  obtain ⟨h1m, h2m, h3m, h4m, h5m⟩ := hM
  unfold bMm at h1m
  unfold bMma at h2m
  unfold bMmb at h3m
  have w12 : ∀ (s : zS) (x : Int32), sF n (M s) 187 11 12 .int (.int x) = some (M (wI s 187 12 x)) := fun s x => by simp only [h1m]
  have w13 : ∀ (s : zS) (x : Int32), sF n (M s) 187 11 13 .int (.int x) = some (M (wI s 187 13 x)) := fun s x => by simp only [h1m]
  have w14 : ∀ (s : zS) (x : Int32), sF n (M s) 187 11 14 .int (.int x) = some (M (wI s 187 14 x)) := fun s x => by simp only [h1m]
  have w15 : ∀ (s : zS) (x : Int32), sF n (M s) 187 11 15 .int (.int x) = some (M (wI s 187 15 x)) := fun s x => by simp only [h1m]
  have w16 : ∀ (s : zS) (x : Int32), sF n (M s) 187 11 16 .int (.int x) = some (M (wI s 187 16 x)) := fun s x => by simp only [h1m]
  have w17 : ∀ (s : zS) (x : Int32), sF n (M s) 187 11 17 .int (.int x) = some (M (wI s 187 17 x)) := fun s x => by simp only [h1m]
  have p18 : ∀ s, pI n (M s) 187 11 18 = some (s.1 187 18) := fun s => by simp only [h1m]
  have p19 : ∀ s, pI n (M s) 187 11 19 = some (s.1 187 19) := fun s => by simp only [h1m]
  have p20 : ∀ s, pI n (M s) 187 11 20 = some (s.1 187 20) := fun s => by simp only [h1m]
  have p21 : ∀ s, pI n (M s) 187 11 21 = some (s.1 187 21) := fun s => by simp only [h1m]
  have p22 : ∀ s, pI n (M s) 187 11 22 = some (s.1 187 22) := fun s => by simp only [h1m]
  have p23 : ∀ s, pI n (M s) 187 11 23 = some (s.1 187 23) := fun s => by simp only [h1m]
  have r25 : ∀ s, pR n (M s) 187 11 25 = some 191 := fun s => by simp only [h1m]
  have r26 : ∀ s, pR n (M s) 187 11 26 = some 192 := fun s => by simp only [h1m]
  have r27 : ∀ s, pR n (M s) 187 11 27 = some 193 := fun s => by simp only [h1m]
  have r28 : ∀ s, pR n (M s) 187 11 28 = some 194 := fun s => by simp only [h1m]
  have r29 : ∀ s, pR n (M s) 187 11 29 = some 195 := fun s => by simp only [h1m]
  have r30 : ∀ s, pR n (M s) 187 11 30 = some 196 := fun s => by simp only [h1m]
  have r31 : ∀ s, pR n (M s) 187 11 31 = some 197 := fun s => by simp only [h1m]
  have r32 : ∀ s, pR n (M s) 187 11 32 = some 198 := fun s => by simp only [h1m]
  have r33 : ∀ s, pR n (M s) 187 11 33 = some 199 := fun s => by simp only [h1m]
  have r34 : ∀ s, pR n (M s) 187 11 34 = some 200 := fun s => by simp only [h1m]
  have r35 : ∀ s, pR n (M s) 187 11 35 = some 201 := fun s => by simp only [h1m]
  have r36 : ∀ s, pR n (M s) 187 11 36 = some 202 := fun s => by simp only [h1m]
  have r37 : ∀ s, pR n (M s) 187 11 37 = some 203 := fun s => by simp only [h1m]
  have r38 : ∀ s, pR n (M s) 187 11 38 = some 204 := fun s => by simp only [h1m]
  have r39 : ∀ s, pR n (M s) 187 11 39 = some 205 := fun s => by simp only [h1m]
  have r40 : ∀ s, pR n (M s) 187 11 40 = some 206 := fun s => by simp only [h1m]
  have r41 : ∀ s, pR n (M s) 187 11 41 = some 207 := fun s => by simp only [h1m]
  have r42 : ∀ s, pR n (M s) 187 11 42 = some 208 := fun s => by simp only [h1m]
  have r43 : ∀ s, pR n (M s) 187 11 43 = some 209 := fun s => by simp only [h1m]
  have r44 : ∀ s, pR n (M s) 187 11 44 = some 210 := fun s => by simp only [h1m]
  have r45 : ∀ s, pR n (M s) 187 11 45 = some 211 := fun s => by simp only [h1m]
  have r46 : ∀ s, pR n (M s) 187 11 46 = some 212 := fun s => by simp only [h1m]
  have r47 : ∀ s, pR n (M s) 187 11 47 = some 213 := fun s => by simp only [h1m]
  have r48 : ∀ s, pR n (M s) 187 11 48 = some 214 := fun s => by simp only [h1m]
  obtain ⟨s1, e1⟩ : ∃ s1 : zS, s1 = wI (wI (wI (wI (wI (wI s 187 12 (s.1 187 18)) 187 13 (s.1 187 19)) 187 14 (s.1 187 20)) 187 15 (s.1 187 21)) 187 16 (s.1 187 22)) 187 17 (s.1 187 23) := ⟨_, rfl⟩
  have k188 : kpR 191 s1 s1 := kp_0
  obtain ⟨z188, ez⟩ : ∃ z : zS, z = s1 := ⟨_, rfl⟩
  have k188 : kpR 191 s1 z188 := by rw [ez]; exact kp_0
  obtain ⟨z189, c189, k189⟩ := kp_cp (M := M) (n := n) (m := 191) (s := z188) (fun s j hj => by have hj : j < 6 := hj; simp (disch := omega) only [h2m]) (fun s j x hj => by have hj : j < 6 := hj; simp (disch := omega) only [h2m]) (by omega) k188
  obtain ⟨z190, c190, k190⟩ := kp_cp (M := M) (n := n) (m := 192) (s := z189) (fun s j hj => by have hj : j < 14 := hj; simp (disch := omega) only [h2m]) (fun s j x hj => by have hj : j < 14 := hj; simp (disch := omega) only [h2m]) (by omega) k189
  obtain ⟨z191, c191, k191⟩ := kp_cp (M := M) (n := n) (m := 193) (s := z190) (fun s j hj => by have hj : j < 18 := hj; simp (disch := omega) only [h2m]) (fun s j x hj => by have hj : j < 18 := hj; simp (disch := omega) only [h2m]) (by omega) k190
  obtain ⟨z192, c192, k192⟩ := kp_cp (M := M) (n := n) (m := 194) (s := z191) (fun s j hj => by have hj : j < 18 := hj; simp (disch := omega) only [h2m]) (fun s j x hj => by have hj : j < 18 := hj; simp (disch := omega) only [h2m]) (by omega) k191
  obtain ⟨z193, c193, k193⟩ := kp_cp (M := M) (n := n) (m := 195) (s := z192) (fun s j hj => by have hj : j < 18 := hj; simp (disch := omega) only [h2m]) (fun s j x hj => by have hj : j < 18 := hj; simp (disch := omega) only [h2m]) (by omega) k192
  obtain ⟨z194, c194, k194⟩ := kp_cp (M := M) (n := n) (m := 196) (s := z193) (fun s j hj => by have hj : j < 18 := hj; simp (disch := omega) only [h2m]) (fun s j x hj => by have hj : j < 18 := hj; simp (disch := omega) only [h2m]) (by omega) k193
  obtain ⟨z195, c195, k195⟩ := kp_cp (M := M) (n := n) (m := 197) (s := z194) (fun s j hj => by have hj : j < 18 := hj; simp (disch := omega) only [h2m]) (fun s j x hj => by have hj : j < 18 := hj; simp (disch := omega) only [h2m]) (by omega) k194
  obtain ⟨z196, c196, k196⟩ := kp_cp (M := M) (n := n) (m := 198) (s := z195) (fun s j hj => by have hj : j < 18 := hj; simp (disch := omega) only [h2m]) (fun s j x hj => by have hj : j < 18 := hj; simp (disch := omega) only [h2m]) (by omega) k195
  obtain ⟨z197, c197, k197⟩ := kp_cp (M := M) (n := n) (m := 199) (s := z196) (fun s j hj => by have hj : j < 8 := hj; simp (disch := omega) only [h2m]) (fun s j x hj => by have hj : j < 8 := hj; simp (disch := omega) only [h2m]) (by omega) k196
  obtain ⟨z198, c198, k198⟩ := kp_cp (M := M) (n := n) (m := 200) (s := z197) (fun s j hj => by have hj : j < 8 := hj; simp (disch := omega) only [h2m]) (fun s j x hj => by have hj : j < 8 := hj; simp (disch := omega) only [h2m]) (by omega) k197
  obtain ⟨z199, c199, k199⟩ := kp_cp (M := M) (n := n) (m := 201) (s := z198) (fun s j hj => by have hj : j < 8 := hj; simp (disch := omega) only [h2m]) (fun s j x hj => by have hj : j < 8 := hj; simp (disch := omega) only [h2m]) (by omega) k198
  obtain ⟨z200, c200, k200⟩ := kp_cp (M := M) (n := n) (m := 202) (s := z199) (fun s j hj => by have hj : j < 8 := hj; simp (disch := omega) only [h2m]) (fun s j x hj => by have hj : j < 8 := hj; simp (disch := omega) only [h2m]) (by omega) k199
  obtain ⟨z201, c201, k201⟩ := kp_cp (M := M) (n := n) (m := 203) (s := z200) (fun s j hj => by have hj : j < 24 := hj; simp (disch := omega) only [h2m]) (fun s j x hj => by have hj : j < 24 := hj; simp (disch := omega) only [h2m]) (by omega) k200
  obtain ⟨z202, c202, k202⟩ := kp_cp (M := M) (n := n) (m := 204) (s := z201) (fun s j hj => by have hj : j < 24 := hj; simp (disch := omega) only [h2m]) (fun s j x hj => by have hj : j < 24 := hj; simp (disch := omega) only [h2m]) (by omega) k201
  obtain ⟨z203, c203, k203⟩ := kp_cp (M := M) (n := n) (m := 205) (s := z202) (fun s j hj => by have hj : j < 24 := hj; simp (disch := omega) only [h2m]) (fun s j x hj => by have hj : j < 24 := hj; simp (disch := omega) only [h2m]) (by omega) k202
  obtain ⟨z204, c204, k204⟩ := kp_cp (M := M) (n := n) (m := 206) (s := z203) (fun s j hj => by have hj : j < 12 := hj; simp (disch := omega) only [h2m]) (fun s j x hj => by have hj : j < 12 := hj; simp (disch := omega) only [h2m]) (by omega) k203
  obtain ⟨z205, c205, k205⟩ := kp_cp (M := M) (n := n) (m := 207) (s := z204) (fun s j hj => by have hj : j < 12 := hj; simp (disch := omega) only [h2m]) (fun s j x hj => by have hj : j < 12 := hj; simp (disch := omega) only [h2m]) (by omega) k204
  obtain ⟨z206, c206, k206⟩ := kp_cp (M := M) (n := n) (m := 208) (s := z205) (fun s j hj => by have hj : j < 12 := hj; simp (disch := omega) only [h2m]) (fun s j x hj => by have hj : j < 12 := hj; simp (disch := omega) only [h2m]) (by omega) k205
  have b206 : ∀ j, z206.1 209 j = s.1 209 j := fun j => by rw [k206.2.2 209 (by omega), if_neg (by omega), e1, wI_ne (by omega), wI_ne (by omega), wI_ne (by omega), wI_ne (by omega), wI_ne (by omega), wI_ne (by omega)]
  obtain ⟨z207, c207, a1, a2, a3, a4⟩ := m_k206 (s := z206) hM0 3 0 bi_K z206 (by omega) (by unfold bi_K; omega) rfl (fun _ _ => rfl) (fun j h => absurd h (Nat.not_lt_zero _)) (fun _ _ => rfl) (fun j hj => by rw [b206]; exact hb j hj)
  have k207 : kpR 210 s1 z207 := kp_end k206 (by omega) a1 a2 a3 a4
  obtain ⟨z208, c208, k208⟩ := kp_cp (M := M) (n := n) (m := 210) (s := z207) (fun s j hj => by have hj : j < 6 := hj; simp (disch := omega) only [h2m]) (fun s j x hj => by have hj : j < 6 := hj; simp (disch := omega) only [h2m]) (by omega) k207
  obtain ⟨z209, c209, k209⟩ := kp_cp (M := M) (n := n) (m := 211) (s := z208) (fun s j hj => by have hj : j < 6 := hj; simp (disch := omega) only [h2m]) (fun s j x hj => by have hj : j < 6 := hj; simp (disch := omega) only [h2m]) (by omega) k208
  obtain ⟨z210, c210, k210⟩ := kp_cp (M := M) (n := n) (m := 212) (s := z209) (fun s j hj => by have hj : j < 128 := hj; simp (disch := omega) only [h3m]) (fun s j x hj => by have hj : j < 128 := hj; simp (disch := omega) only [h3m]) (by omega) k209
  obtain ⟨z211, c211, k211⟩ := kp_cp (M := M) (n := n) (m := 213) (s := z210) (fun s j hj => by have hj : j < 128 := hj; simp (disch := omega) only [h3m]) (fun s j x hj => by have hj : j < 128 := hj; simp (disch := omega) only [h3m]) (by omega) k210
  obtain ⟨z212, c212, k212⟩ := kp_cp (M := M) (n := n) (m := 214) (s := z211) (fun s j hj => by have hj : j < 128 := hj; simp (disch := omega) only [h3m]) (fun s j x hj => by have hj : j < 128 := hj; simp (disch := omega) only [h3m]) (by omega) k211
  refine ⟨s1, z212, e1, ?_, k212⟩
  unfold fX11_keepText
  rw [h1m.1, Option.bind_some, p18, Option.bind_some, w12, Option.bind_some, p19, Option.bind_some, w13, Option.bind_some, p20, Option.bind_some, w14, Option.bind_some, p21, Option.bind_some, w15, Option.bind_some, p22, Option.bind_some, w16, Option.bind_some, p23, Option.bind_some, w17, Option.bind_some]
  have hd : wI (wI (wI (wI (wI (wI s 187 12 (s.1 187 18)) 187 13 ((wI s 187 12 (s.1 187 18)).1 187 19)) 187 14 ((wI (wI s 187 12 (s.1 187 18)) 187 13 ((wI s 187 12 (s.1 187 18)).1 187 19)).1 187 20)) 187 15 ((wI (wI (wI s 187 12 (s.1 187 18)) 187 13 ((wI s 187 12 (s.1 187 18)).1 187 19)) 187 14 ((wI (wI s 187 12 (s.1 187 18)) 187 13 ((wI s 187 12 (s.1 187 18)).1 187 19)).1 187 20)).1 187 21)) 187 16 ((wI (wI (wI (wI s 187 12 (s.1 187 18)) 187 13 ((wI s 187 12 (s.1 187 18)).1 187 19)) 187 14 ((wI (wI s 187 12 (s.1 187 18)) 187 13 ((wI s 187 12 (s.1 187 18)).1 187 19)).1 187 20)) 187 15 ((wI (wI (wI s 187 12 (s.1 187 18)) 187 13 ((wI s 187 12 (s.1 187 18)).1 187 19)) 187 14 ((wI (wI s 187 12 (s.1 187 18)) 187 13 ((wI s 187 12 (s.1 187 18)).1 187 19)).1 187 20)).1 187 21)).1 187 22)) 187 17 ((wI (wI (wI (wI (wI s 187 12 (s.1 187 18)) 187 13 ((wI s 187 12 (s.1 187 18)).1 187 19)) 187 14 ((wI (wI s 187 12 (s.1 187 18)) 187 13 ((wI s 187 12 (s.1 187 18)).1 187 19)).1 187 20)) 187 15 ((wI (wI (wI s 187 12 (s.1 187 18)) 187 13 ((wI s 187 12 (s.1 187 18)).1 187 19)) 187 14 ((wI (wI s 187 12 (s.1 187 18)) 187 13 ((wI s 187 12 (s.1 187 18)).1 187 19)).1 187 20)).1 187 21)) 187 16 ((wI (wI (wI (wI s 187 12 (s.1 187 18)) 187 13 ((wI s 187 12 (s.1 187 18)).1 187 19)) 187 14 ((wI (wI s 187 12 (s.1 187 18)) 187 13 ((wI s 187 12 (s.1 187 18)).1 187 19)).1 187 20)) 187 15 ((wI (wI (wI s 187 12 (s.1 187 18)) 187 13 ((wI s 187 12 (s.1 187 18)).1 187 19)) 187 14 ((wI (wI s 187 12 (s.1 187 18)) 187 13 ((wI s 187 12 (s.1 187 18)).1 187 19)).1 187 20)).1 187 21)).1 187 22)).1 187 23) = z188 := by
    rw [ez, e1]
    simp (disch := omega) only [wI_at, upd_ne]
  rw [hd]
  rw [r25, Option.bind_some, show fX11_copies n (M z188) 191 (3 : Int32) = some ((), M z189) from c189, Option.bind_some]
  rw [r26, Option.bind_some, show fX11_copies n (M z189) 192 (7 : Int32) = some ((), M z190) from c190, Option.bind_some]
  rw [r27, Option.bind_some, show fX11_copies n (M z190) 193 (9 : Int32) = some ((), M z191) from c191, Option.bind_some]
  rw [r28, Option.bind_some, show fX11_copies n (M z191) 194 (9 : Int32) = some ((), M z192) from c192, Option.bind_some]
  rw [r29, Option.bind_some, show fX11_copies n (M z192) 195 (9 : Int32) = some ((), M z193) from c193, Option.bind_some]
  rw [r30, Option.bind_some, show fX11_copies n (M z193) 196 (9 : Int32) = some ((), M z194) from c194, Option.bind_some]
  rw [r31, Option.bind_some, show fX11_copies n (M z194) 197 (9 : Int32) = some ((), M z195) from c195, Option.bind_some]
  rw [r32, Option.bind_some, show fX11_copies n (M z195) 198 (9 : Int32) = some ((), M z196) from c196, Option.bind_some]
  rw [r33, Option.bind_some, show fX11_copies n (M z196) 199 (4 : Int32) = some ((), M z197) from c197, Option.bind_some]
  rw [r34, Option.bind_some, show fX11_copies n (M z197) 200 (4 : Int32) = some ((), M z198) from c198, Option.bind_some]
  rw [r35, Option.bind_some, show fX11_copies n (M z198) 201 (4 : Int32) = some ((), M z199) from c199, Option.bind_some]
  rw [r36, Option.bind_some, show fX11_copies n (M z199) 202 (4 : Int32) = some ((), M z200) from c200, Option.bind_some]
  rw [r37, Option.bind_some, show fX11_copies n (M z200) 203 (12 : Int32) = some ((), M z201) from c201, Option.bind_some]
  rw [r38, Option.bind_some, show fX11_copies n (M z201) 204 (12 : Int32) = some ((), M z202) from c202, Option.bind_some]
  rw [r39, Option.bind_some, show fX11_copies n (M z202) 205 (12 : Int32) = some ((), M z203) from c203, Option.bind_some]
  rw [r40, Option.bind_some, show fX11_copies n (M z203) 206 (6 : Int32) = some ((), M z204) from c204, Option.bind_some]
  rw [r41, Option.bind_some, show fX11_copies n (M z204) 207 (6 : Int32) = some ((), M z205) from c205, Option.bind_some]
  rw [r42, Option.bind_some, show fX11_copies n (M z205) 208 (6 : Int32) = some ((), M z206) from c206, Option.bind_some]
  show fX11_keepText_207 n bi_K (M z206) 187 (nI 0) = _
  rw [c207]
  unfold fX11_keepText_207b
  rw [if_pos (show (3 : Int32) ≤ nI 3 by decide)]
  rw [r44, Option.bind_some, show fX11_copies n (M z207) 210 (3 : Int32) = some ((), M z208) from c208, Option.bind_some]
  rw [r45, Option.bind_some, show fX11_copies n (M z208) 211 (3 : Int32) = some ((), M z209) from c209, Option.bind_some]
  rw [r46, Option.bind_some, show fX11_copies n (M z209) 212 (64 : Int32) = some ((), M z210) from c210, Option.bind_some]
  rw [r47, Option.bind_some, show fX11_copies n (M z210) 213 (64 : Int32) = some ((), M z211) from c211, Option.bind_some]
  rw [r48, Option.bind_some, show fX11_copies n (M z211) 214 (64 : Int32) = some ((), M z212) from c212, Option.bind_some]
end Ms13
