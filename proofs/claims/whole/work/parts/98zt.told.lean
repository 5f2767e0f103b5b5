/-! ===== what a text told, at its end ===== -/
/-- what is told, with the laws' signs -/
def fnT (x : zX) : zT := fun a i => if a = 21 then (x.1.2.1.getD (x.1.2.1.length - (i + 1)) (0, 0)).1 else if a = 22 then (x.1.2.1.getD (x.1.2.1.length - (i + 1)) (0, 0)).2 else if a = 0 ∧ i = 5 then x.1.2.1.length else x.2.1 a i
section Mt14
variable {n N k l op a r p m L v b τ i c : Nat} {B f : Nat → Nat} {s s' s0 s1 s2 : zS} {q q' : zQ} {tok : zK} {T : zT} {I I' : Nat → Nat → Int32} {x y : zX} {o o' : List (Nat × Nat)} {M : zS → ai_H}
theorem fn_o (h1 : a ≠ 21) (h2 : a ≠ 22) (h3 : a ≠ 0 ∨ i ≠ 5) : fnT x a i = x.2.1 a i := by
  show (if a = 21 then _ else if a = 22 then _ else if a = 0 ∧ i = 5 then _ else _) = _
  rw [if_neg h1, if_neg h2, if_neg (by omega)]
theorem fn_5 : fnT x 0 5 = x.1.2.1.length := rfl
theorem sf_len (h : i ≤ o.length) : (sfK o i).length = i := by
  unfold sfK
  rw [List.length_drop]
  omega
theorem sf_el {z : Nat × Nat} (h : i < o.length) (e : sfK o (i + 1) = z :: sfK o i) : o.getD (o.length - (i + 1)) (0, 0) = z := by
  unfold sfK at e
  have g : (o.drop (o.length - (i + 1)))[0]? = some z := by rw [e]; rfl
  rw [List.getElem?_drop, Nat.add_zero] at g
  rw [List.getD_eq_getElem?_getD, g]
  rfl
theorem lv_9 {k : Nat} (h : lvO k ≠ 9) : k = 12 ∨ k = 13 ∨ (27 ≤ k ∧ k ≤ 36) := by
  unfold lvO at h
  by_cases h1 : k = 12
  · exact Or.inl h1
  · rw [if_neg h1] at h
    by_cases h2 : k = 13
    · exact Or.inr (Or.inl h2)
    · rw [if_neg h2] at h
      by_cases h3 : 27 ≤ k ∧ k ≤ 32
      · exact Or.inr (Or.inr ⟨h3.1, by omega⟩)
      · rw [if_neg h3] at h
        by_cases h4 : k = 33 ∨ k = 34
        · exact Or.inr (Or.inr ⟨by omega, by omega⟩)
        · rw [if_neg h4] at h
          by_cases h5 : k = 35 ∨ k = 36
          · exact Or.inr (Or.inr ⟨by omega, by omega⟩)
          · rw [if_neg h5] at h
            exact absurd rfl h
theorem lv_99 {k : Nat} (h : k = 12 ∨ k = 13 ∨ (27 ≤ k ∧ k ≤ 36)) : lvO k ≠ 9 := by
  have t : ∀ k : Fin 37, k.1 = 12 ∨ k.1 = 13 ∨ (27 ≤ k.1 ∧ k.1 ≤ 36) → lvO k.1 ≠ 9 := by decide
  exact t ⟨k, by omega⟩ h
theorem kn_wfS {z : Nat × Nat} {j : Nat} (hT : T 21 i = z.1 ∧ T 22 i = z.2) (h : kE I j z (hdK a o)) (hi : o.length = i) (ha : a ≤ i) : wfS T i (hdK a o) (hdK a (z :: o)) := by
  have e : hdK a (z :: o) = if o.length < a then [] else if isLf z.1 = true then o.length :: hdK a o else if z.1 = 14 then o.length :: (hdK a o).tail else o.length :: (hdK a o).tail.tail := rfl
  rw [e, if_neg (by omega), hi]
  obtain ⟨h1, h2, h3, h4, h5⟩ := h
  unfold wfS
  rw [hT.1, hT.2]
  by_cases lf : isLf z.1 = true
  · rw [if_pos lf]
    left
    have lf' : z.1 = 23 ∨ (15 ≤ z.1 ∧ z.1 ≤ 21) := of_decide_eq_true lf
    refine ⟨?_, rfl⟩
    rcases lf' with e | e
    · exact Or.inl ⟨e, (h1 e).1⟩
    · exact Or.inr e
  · rw [if_neg lf]
    by_cases e14 : z.1 = 14
    · rw [if_pos e14]
      right
      left
      obtain ⟨-, x, r, g, -⟩ := h3 e14
      exact ⟨e14, x, r, g, by rw [g]; rfl⟩
    · rw [if_neg e14]
      right
      right
      have l9 : lvO z.1 ≠ 9 := by
        rcases h5 with h | h | h
        · exact absurd h lf
        · exact absurd h e14
        · exact h
      obtain ⟨-, x, y, r, g, -⟩ := h4 l9
      exact ⟨lv_9 l9, x, y, r, g, by rw [g]; rfl⟩
theorem kn_mkS {z : Nat × Nat} {j : Nat} {l : List Nat} (hT : T 21 i = z.1 ∧ T 22 i = z.2) (h : kE I j z l) (e : I' 212 i = I 212 j ∧ I' 213 i = I 213 j ∧ I' 214 i = I 214 j) : mkS I' T i l := by
  obtain ⟨h1, h2, h3, h4, h5⟩ := h
  unfold mkS
  rw [hT.1, hT.2, e.1, e.2.1, e.2.2]
  refine ⟨fun g => (h1 g).2, h2, fun g => ?_, fun g => ?_⟩
  · obtain ⟨a1, x, r, g1, g2⟩ := h3 g
    refine ⟨a1, fun x' r' g' => ?_⟩
    rw [g1] at g'
    cases g'
    exact g2
  · obtain ⟨a1, x, y, r, g1, g2, g3⟩ := h4 (lv_99 g)
    refine ⟨a1, fun x' y' r' g' => ?_⟩
    rw [g1] at g'
    cases g'
    exact ⟨g2, g3⟩
/-- a law of the draft, told -/
theorem lk_law (h : lkM I a b x.1.2.1) (e : ∀ i, i < b → I' 212 i = I 212 (64 + i) ∧ I' 213 i = I 213 (64 + i) ∧ I' 214 i = I 214 (64 + i)) : ∃ H : Nat → List Nat, H a = [] ∧ H b = [b - 1] ∧ ∀ i, a ≤ i → i < b → wfS (fnT x) i (H i) (H (i + 1)) ∧ mkS I' (fnT x) i (H i) := by
  obtain ⟨h1, h2, h3, h4⟩ := h
  refine ⟨fun i => hdK a (sfK x.1.2.1 i), ?_, ?_, fun i g1 g2 => ?_⟩
  · have := hd_0 (sfK x.1.2.1 a)
    rw [sf_len (by omega)] at this
    exact this
  · obtain ⟨z, z1, z2⟩ := h4 (b - 1) (by omega) (by omega)
    have z1 : sfK x.1.2.1 b = z :: sfK x.1.2.1 (b - 1) := by rw [← z1]; congr 1; omega
    show hdK a (sfK x.1.2.1 b) = _
    rw [z1] at h3 ⊢
    have e : hdK a (z :: sfK x.1.2.1 (b - 1)) = if (sfK x.1.2.1 (b - 1)).length < a then [] else if isLf z.1 = true then (sfK x.1.2.1 (b - 1)).length :: hdK a (sfK x.1.2.1 (b - 1)) else if z.1 = 14 then (sfK x.1.2.1 (b - 1)).length :: (hdK a (sfK x.1.2.1 (b - 1))).tail else (sfK x.1.2.1 (b - 1)).length :: (hdK a (sfK x.1.2.1 (b - 1))).tail.tail := rfl
    have l1 : (sfK x.1.2.1 (b - 1)).length = b - 1 := sf_len (by omega)
    rw [e, if_neg (by omega), l1] at h3 ⊢
    have one : ∀ t : List Nat, ((b - 1) :: t).length = 1 → (b - 1) :: t = [b - 1] := fun t ht => by
      cases t with
      | nil => rfl
      | cons _ _ => cases ht
    by_cases lf : isLf z.1 = true
    · rw [if_pos lf] at h3 ⊢; exact one _ h3
    · rw [if_neg lf] at h3 ⊢
      by_cases e14 : z.1 = 14
      · rw [if_pos e14] at h3 ⊢; exact one _ h3
      · rw [if_neg e14] at h3 ⊢; exact one _ h3
  · obtain ⟨z, z1, z2⟩ := h4 i g1 g2
    have el := sf_el (by omega) z1
    have hT : fnT x 21 i = z.1 ∧ fnT x 22 i = z.2 := by
      refine ⟨?_, ?_⟩
      · show (x.1.2.1.getD (x.1.2.1.length - (i + 1)) (0, 0)).1 = _
        rw [el]
      · show (x.1.2.1.getD (x.1.2.1.length - (i + 1)) (0, 0)).2 = _
        rw [el]
    show wfS (fnT x) i (hdK a (sfK x.1.2.1 i)) (hdK a (sfK x.1.2.1 (i + 1))) ∧ _
    rw [z1]
    exact ⟨kn_wfS hT z2 (sf_len (by omega)) g1, kn_mkS hT z2 (e i g2)⟩
theorem fn_WT (hI : IV N c x) (hk : ∀ w, w < 3 → x.2.1 18 w ≠ 0 → lkM I (x.2.1 19 w) (x.2.1 20 w) x.1.2.1) : WT (fnT x) := by
  obtain ⟨⟨⟨s0, s1, s2, s3, s4⟩, ⟨y1, y2, y3, y4⟩, p1, p2, p3, p4, n0, n1, n2⟩, ⟨hl, h64⟩, -, -, -⟩ := hI
  have f0 : ∀ i, i ≠ 5 → fnT x 0 i = x.2.1 0 i := fun i hi => fn_o (by omega) (by omega) (Or.inr hi)
  have fa : ∀ a i, a ≠ 0 → a ≠ 21 → a ≠ 22 → fnT x a i = x.2.1 a i := fun a i h1 h2 h3 => fn_o h2 h3 (Or.inl h1)
  refine ⟨?_, ⟨?_, ?_⟩, ?_, ?_, ?_, ?_, fun w hw g => ?_⟩
  · rw [f0 0 (by omega), f0 1 (by omega), f0 2 (by omega), f0 3 (by omega), f0 4 (by omega)]
    exact ⟨s0, s1, s2, s3, s4⟩
  · rw [fn_5]; omega
  · rw [f0 6 (by omega), f0 7 (by omega), f0 8 (by omega)]
    exact ⟨y1, y2, y3, y4⟩
  · intro p hp
    rw [f0 1 (by omega)] at hp
    rw [f0 0 (by omega), fa 3 p (by omega) (by omega) (by omega), fa 4 p (by omega) (by omega) (by omega), fa 5 p (by omega) (by omega) (by omega), fa 6 p (by omega) (by omega) (by omega), fa 7 p (by omega) (by omega) (by omega)]
    exact p1 p hp
  · intro p hp
    rw [f0 2 (by omega)] at hp
    rw [f0 0 (by omega), fa 9 p (by omega) (by omega) (by omega), fa 10 p (by omega) (by omega) (by omega), fa 11 p (by omega) (by omega) (by omega)]
    exact p2 p hp
  · intro p hp
    rw [f0 3 (by omega)] at hp
    rw [f0 1 (by omega), f0 2 (by omega), fa 12 p (by omega) (by omega) (by omega), fa 13 p (by omega) (by omega) (by omega), fa 14 p (by omega) (by omega) (by omega)]
    exact p3 p hp
  · intro p hp
    rw [f0 4 (by omega)] at hp
    rw [f0 1 (by omega), fa 15 p (by omega) (by omega) (by omega), fa 16 p (by omega) (by omega) (by omega), fa 17 p (by omega) (by omega) (by omega)]
    exact p4 p hp
  · rw [fa 18 w (by omega) (by omega) (by omega)] at g
    rw [fa 19 w (by omega) (by omega) (by omega), fa 20 w (by omega) (by omega) (by omega)]
    have lk := hk w hw g
    obtain ⟨H, h1, h2, h3⟩ := lk_law (x := x) (I' := fun c i => I c (64 + i)) lk (fun i _ => ⟨rfl, rfl, rfl⟩)
    exact ⟨lk.1, by have := lk.2.1; omega, H, h1, h2, fun i g1 g2 => (h3 i g1 g2).1⟩
/-- the draft, copied to the front, is what is told -/
theorem kp_mTd (hI : IV N c x) (hG : mG s.1 x.2.1 x.2.2) (h23 : s.1 187 23 = nI x.1.2.1.length) (hk : ∀ w, w < 3 → x.2.1 18 w ≠ 0 → lkM s.1 (x.2.1 19 w) (x.2.1 20 w) x.1.2.1) (e1 : s1 = wI (wI (wI (wI (wI (wI s 187 12 (s.1 187 18)) 187 13 (s.1 187 19)) 187 14 (s.1 187 20)) 187 15 (s.1 187 21)) 187 16 (s.1 187 22)) 187 17 (s.1 187 23)) (hK : kpR 215 s1 s') : mTd s'.1 (fnT x) := by
  have hW := fn_WT hI hk
  obtain ⟨k1, k2, k3⟩ := hK
  have f0 : ∀ i, i ≠ 5 → fnT x 0 i = x.2.1 0 i := fun i hi => fn_o (by omega) (by omega) (Or.inr hi)
  have fa : ∀ a i, a ≠ 0 → a ≠ 21 → a ≠ 22 → fnT x a i = x.2.1 a i := fun a i h1 h2 h3 => fn_o h2 h3 (Or.inl h1)
  have o1 : ∀ b, b ≠ 187 → s1.1 b = s.1 b := fun b h => by rw [e1, wI_ne h, wI_ne h, wI_ne h, wI_ne h, wI_ne h, wI_ne h]
  have cp : ∀ b K j, 191 ≤ b → b < 215 → kpF b = K → j < K → s'.1 b j = s.1 b (K + j) := fun b K j h1 h2 h3 h4 => by
    subst h3
    rw [k3 b (by omega) j, if_pos ⟨h1, h2, h4⟩, o1 b (by omega)]
  have hsz := hI.1.1
  obtain ⟨g1, g2, g3, g4⟩ := hG
  have tb : ∀ τ, τ < 5 → ∀ c, c < lnF τ → ∀ K, kpF (arF τ + c) = K → lmF τ = K → ∀ i, i < x.2.1 0 τ → x.2.1 0 τ ≤ K → s'.1 (arF τ + c) i = nI (x.2.1 (baF τ + c) i) := fun τ hτ c hc K e e' i hi hle => by
    have := aF1 hτ
    rw [cp (arF τ + c) K i (by omega) (by omega) e (by omega), ← e']
    exact (g1 τ hτ).2 i hi c hc
  refine ⟨?_, ?_, fun i hi => ?_, fun p hp => ?_, fun w hw => ?_, fun k hk' => ?_, fun b hb => ?_, fun w hw => ⟨fun g => ?_, fun g => ?_⟩⟩
  · rw [k2, e1, f0 0 (by omega), f0 1 (by omega), f0 2 (by omega), f0 3 (by omega), f0 4 (by omega), fn_5]
    have t0 : s.1 187 18 = nI (x.2.1 0 0) := (g1 0 (by omega)).1
    have t1 : s.1 187 19 = nI (x.2.1 0 1) := (g1 1 (by omega)).1
    have t2 : s.1 187 20 = nI (x.2.1 0 2) := (g1 2 (by omega)).1
    have t3 : s.1 187 21 = nI (x.2.1 0 3) := (g1 3 (by omega)).1
    have t4 : s.1 187 22 = nI (x.2.1 0 4) := (g1 4 (by omega)).1
    simp (disch := omega) only [wI_at, upd_at, upd_ne]
    exact ⟨t0, t1, t2, t3, t4, h23⟩
  · rw [cp 191 3 0 (by omega) (by omega) rfl (by omega), cp 191 3 1 (by omega) (by omega) rfl (by omega), cp 191 3 2 (by omega) (by omega) rfl (by omega), f0 6 (by omega), f0 7 (by omega), f0 8 (by omega)]
    exact g2
  · rw [f0 0 (by omega)] at hi
    rw [fa 1 i (by omega) (by omega) (by omega)]
    exact tb 0 (by omega) 0 (by decide) 7 rfl rfl i hi hsz.1
  · rw [f0 1 (by omega)] at hp
    rw [fa 2 p (by omega) (by omega) (by omega), fa 3 p (by omega) (by omega) (by omega), fa 4 p (by omega) (by omega) (by omega), fa 5 p (by omega) (by omega) (by omega), fa 6 p (by omega) (by omega) (by omega), fa 7 p (by omega) (by omega) (by omega)]
    exact ⟨tb 1 (by omega) 0 (by decide) 9 rfl rfl p hp hsz.2.1, tb 1 (by omega) 1 (by decide) 9 rfl rfl p hp hsz.2.1, tb 1 (by omega) 2 (by decide) 9 rfl rfl p hp hsz.2.1, tb 1 (by omega) 3 (by decide) 9 rfl rfl p hp hsz.2.1, tb 1 (by omega) 4 (by decide) 9 rfl rfl p hp hsz.2.1, tb 1 (by omega) 5 (by decide) 9 rfl rfl p hp hsz.2.1⟩
  · rw [f0 2 (by omega)] at hw
    rw [fa 8 w (by omega) (by omega) (by omega), fa 9 w (by omega) (by omega) (by omega), fa 10 w (by omega) (by omega) (by omega), fa 11 w (by omega) (by omega) (by omega)]
    exact ⟨tb 2 (by omega) 0 (by decide) 4 rfl rfl w hw hsz.2.2.1, tb 2 (by omega) 1 (by decide) 4 rfl rfl w hw hsz.2.2.1, tb 2 (by omega) 2 (by decide) 4 rfl rfl w hw hsz.2.2.1, tb 2 (by omega) 3 (by decide) 4 rfl rfl w hw hsz.2.2.1⟩
  · rw [f0 3 (by omega)] at hk'
    rw [fa 12 k (by omega) (by omega) (by omega), fa 13 k (by omega) (by omega) (by omega), fa 14 k (by omega) (by omega) (by omega)]
    exact ⟨tb 3 (by omega) 0 (by decide) 12 rfl rfl k hk' hsz.2.2.2.1, tb 3 (by omega) 1 (by decide) 12 rfl rfl k hk' hsz.2.2.2.1, tb 3 (by omega) 2 (by decide) 12 rfl rfl k hk' hsz.2.2.2.1⟩
  · rw [f0 4 (by omega)] at hb
    rw [fa 15 b (by omega) (by omega) (by omega), fa 16 b (by omega) (by omega) (by omega), fa 17 b (by omega) (by omega) (by omega)]
    exact ⟨tb 4 (by omega) 0 (by decide) 6 rfl rfl b hb hsz.2.2.2.2, tb 4 (by omega) 1 (by decide) 6 rfl rfl b hb hsz.2.2.2.2, tb 4 (by omega) 2 (by decide) 6 rfl rfl b hb hsz.2.2.2.2⟩
  · rw [fa 18 w (by omega) (by omega) (by omega)] at g
    rw [cp 209 3 w (by omega) (by omega) rfl hw, (g4 w hw).1, ← (hI.2.2.2.2 w hw).1, g]
  · rw [fa 18 w (by omega) (by omega) (by omega)] at g
    have m1 : x.2.2.testBit (9 + w) = true := by
      have := (hI.2.2.2.2 w hw).1
      cases hb : x.2.2.testBit (9 + w) with
      | true => rfl
      | false => rw [hb] at this; exact absurd this g
    obtain ⟨a1, a2⟩ := (g4 w hw).2 g
    have lk := hk w hw g
    have l20 := ((hI.2.2.2.2 w hw).2 g).2
    have l64 := hI.2.1
    refine ⟨?_, ?_, ?_, ?_⟩
    · rw [cp 209 3 w (by omega) (by omega) rfl hw, (g4 w hw).1, m1]; rfl
    · rw [cp 210 3 w (by omega) (by omega) rfl hw, fa 19 w (by omega) (by omega) (by omega)]; exact a1
    · rw [cp 211 3 w (by omega) (by omega) rfl hw, fa 20 w (by omega) (by omega) (by omega)]; exact a2
    · unfold mLw
      rw [fa 19 w (by omega) (by omega) (by omega), fa 20 w (by omega) (by omega) (by omega)]
      exact lk_law lk (fun i hi => ⟨cp 212 64 i (by omega) (by omega) rfl (by omega), cp 213 64 i (by omega) (by omega) rfl (by omega), cp 214 64 i (by omega) (by omega) rfl (by omega)⟩)
end Mt14
