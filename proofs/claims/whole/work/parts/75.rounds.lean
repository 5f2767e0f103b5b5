/-! ===== rounds of shortening: the pure side ===== -/
section Rn
variable {T : zT} {S : zD} {w a x y l p B : Nat} {d d0 d1 ds : Nat → Option Nat} {E : Nat → Nat → Nat → Nat → Prop}
def wyE (T : zT) (S : zD) (w : Nat) (y u x v : Nat) : Prop := ∃ p, p < T 0 1 ∧ opnB T S w p = true ∧ (T 3 p = y ∨ T 4 p = y) ∧ x = othV T p y ∧ v = u + T 5 p
theorem wyE_mo : moL (wyE T S w) := by
  rintro y u x v u' ⟨p, h1, h2, h3, h4, h5⟩ hu
  exact ⟨u' + T 5 p, by omega, p, h1, h2, h3, h4, rfl⟩
theorem wyE_b (hW : WT T) {y u x v : Nat} (h : wyE T S w y u x v) : u < v := by
  obtain ⟨p, h1, h2, h3, h4, h5⟩ := h
  have := WT_p hW h1
  omega
theorem wy_st : ∀ k x v, rcL (wyE T S w) a 0 k x v → rcL (stE T S w 0 0) (512 * a) 0 k (512 * x) v
  | 0, x, v, h => ⟨by rw [h.1], h.2⟩
  | k + 1, x, v, ⟨z, u, h1, p, hp, ho, hz, hx, hv⟩ => ⟨512 * z, u, wy_st k z u h1, by rw [hx, hv]; exact st0 hp ho hz⟩
theorem st_wy : ∀ k y v, rcL (stE T S w 0 0) (512 * a) 0 k y v → y % 512 = 0 ∧ rcL (wyE T S w) a 0 k (y / 512) v
  | 0, y, v, h => by
    rw [h.1]
    exact ⟨Nat.mul_mod_right 512 a, Nat.mul_div_cancel_left a (by decide), h.2⟩
  | k + 1, y, v, ⟨z, u, h1, p, hp, ho, hz, hy, hv⟩ => by
    obtain ⟨g1, g2⟩ := st_wy k z u h1
    rw [g1, Nat.zero_and, Nat.or_zero] at hy
    have hy' : y = 512 * othV T p (z / 512) := hy
    rw [hy']
    refine ⟨Nat.mul_mod_right 512 _, z / 512, u, g2, p, hp, ho, hz, ?_, ?_⟩
    · rw [Nat.mul_div_cancel_left _ (by decide)]
    · have hv' : some (u + T 5 p) = some v := hv
      cases hv'
      rfl
theorem ls_wy (h : lsL (stE T S w 0 0) (512 * a) 0 d) : lsL (wyE T S w) a 0 (fun x => d (512 * x)) := by
  refine ⟨fun x v e => ?_, fun k x v hk => h.2 k (512 * x) v (wy_st k x v hk)⟩
  obtain ⟨k, hk⟩ := h.1 _ v e
  have := (st_wy k _ v hk).2
  rw [Nat.mul_div_cancel_left x (by decide)] at this
  exact ⟨k, this⟩
/-- not more anywhere -/
def dnL (d d' : Nat → Option Nat) : Prop := ∀ x u, d x = some u → ∃ u', u' ≤ u ∧ d' x = some u'
theorem dnL_r : dnL d d := fun _ u h => ⟨u, Nat.le_refl _, h⟩
theorem dnL_t (h : dnL d d0) (g : dnL d0 d1) : dnL d d1 := fun x u e => by
  obtain ⟨u1, a1, e1⟩ := h x u e
  obtain ⟨u2, a2, e2⟩ := g x u1 e1
  exact ⟨u2, by omega, e2⟩
theorem rl_dn : dnL d (rlV d x y l) := by
  intro z u e
  unfold rlV
  by_cases g : lsB d x y l = true
  · rw [if_pos g]
    have g' := (of_decide_eq_true g).2
    by_cases q : z = y
    · simp only [if_pos q]
      rw [q] at e
      rw [e] at g'
      have g2 : fr (d x) + l < u := g'
      exact ⟨_, by omega, rfl⟩
    · simp only [if_neg q]
      exact ⟨u, Nat.le_refl _, e⟩
  · rw [if_neg g]
    exact ⟨u, Nat.le_refl _, e⟩
theorem rl_sn (h : snL E a 0 d) (hE : ∀ u, E x u y (u + l)) : snL E a 0 (rlV d x y l) := by
  unfold rlV
  by_cases g : lsB d x y l = true
  · rw [if_pos g]
    cases e : d x with
    | none => exact absurd e (of_decide_eq_true g).1
    | some u => exact snL_up h e (hE u)
  · rw [if_neg g]
    exact h
theorem rl_ok (hb : bd7 d B) (hB : B ≤ 900000) (hl : l ≤ 99) {u : Nat} (e : d x = some u) : ∃ z, z ≤ u + l ∧ rlV d x y l y = some z := by
  have hu := hb x u e
  unfold rlV
  by_cases g : lsB d x y l = true
  · rw [if_pos g]
    simp only [if_true, e]
    exact ⟨u + l, Nat.le_refl _, rfl⟩
  · rw [if_neg g]
    have num := (ls_num (x := x) (y := y) hb hB hl).mpr (bF g)
    rw [e] at num
    have num' : fr (d y) ≤ u + l := num
    cases ey : d y with
    | none =>
      rw [ey] at num'
      have : 1000000 ≤ u + l := num'
      omega
    | some v =>
      rw [ey] at num'
      exact ⟨v, num', rfl⟩
theorem oth3 : othV T p (T 3 p) = T 4 p := by unfold othV; rw [if_pos rfl]
theorem oth4 : othV T p (T 4 p) = T 3 p := by
  unfold othV
  by_cases e : T 3 p = T 4 p
  · rw [if_pos e, e]
  · rw [if_neg e]
theorem sho_dn : dnL d (shoV T p d) := dnL_t rl_dn rl_dn
theorem sho_sn (hp : p < T 0 1) (ho : opnB T S w p = true) (h : snL (wyE T S w) a 0 d) : snL (wyE T S w) a 0 (shoV T p d) := rl_sn (rl_sn h (fun u => ⟨p, hp, ho, Or.inl rfl, oth3.symm, rfl⟩)) (fun u => ⟨p, hp, ho, Or.inr rfl, oth4.symm, rfl⟩)
theorem sho_ok (hb : bd7 d B) (hB : B ≤ 800000) (hl : T 5 p ≤ 99) {u : Nat} (hy : T 3 p = y ∨ T 4 p = y) (e : d y = some u) : ∃ z, z ≤ u + T 5 p ∧ shoV T p d (othV T p y) = some z := by
  rcases hy with rfl | rfl
  · rw [oth3]
    obtain ⟨z, h1, h2⟩ := rl_ok (y := T 4 p) hb (by omega) hl e
    obtain ⟨z2, h3, h4⟩ := (rl_dn (x := T 4 p) (y := T 3 p) (l := T 5 p)) _ z h2
    exact ⟨z2, by omega, h4⟩
  · rw [oth4]
    obtain ⟨u1, h1, h2⟩ := (rl_dn (x := T 3 p) (y := T 4 p) (l := T 5 p)) _ u e
    obtain ⟨z, h3, h4⟩ := rl_ok (y := T 3 p) (rlV_bd (x := T 3 p) (y := T 4 p) hb hl) (by omega) hl h2
    exact ⟨z, by omega, h4⟩
theorem sho_no (h : shoB T p d = false) : shoV T p d = d := by
  have h' := (Bool.or_eq_false_iff).mp h
  have e1 : rlV d (T 3 p) (T 4 p) (T 5 p) = d := by
    unfold rlV
    rw [if_neg (by rw [h'.1]; exact Bool.false_ne_true)]
  unfold shoV
  rw [e1]
  have h2 := h'.2
  rw [e1] at h2
  unfold rlV
  rw [if_neg (by rw [h2]; exact Bool.false_ne_true)]
/-- a round: all steps from what stood at its begin are taken -/
def rdL (E : Nat → Nat → Nat → Nat → Prop) (d0 d1 : Nat → Option Nat) : Prop := ∀ y u x v, d0 y = some u → E y u x v → ∃ z, z ≤ v ∧ d1 x = some z
theorem fin_keep (h : lsL E a 0 ds) (hs : snL E a 0 d1) (hd : dnL d0 d1) (e : d0 x = ds x) : d1 x = ds x := by
  cases g : ds x with
  | none =>
    cases g1 : d1 x with
    | none => rfl
    | some v =>
      obtain ⟨z, -, hz⟩ := lsL_le h hs g1
      rw [g] at hz
      cases hz
  | some v =>
    rw [g] at e
    obtain ⟨u, h1, h2⟩ := hd x v e
    obtain ⟨z, h3, h4⟩ := lsL_le h hs h2
    rw [g] at h4
    cases h4
    rw [h2, Nat.le_antisymm h1 h3]
theorem ct_lt {f g : Nat → Bool} {m : Nat} (hs : ∀ k, k < m → f k = true → g k = true) (hx : x < m) (h1 : f x = false) (h2 : g x = true) : fb_ct f m < fb_ct g m := by
  have u := fb_ct_upd f true hx
  rw [h1] at u
  simp only [if_true, Bool.false_eq_true, if_false] at u
  have b := fb_ct_sub (p := fun k => if k = x then true else f k) (q := g) (n := m) (fun k hk e => by
    by_cases q : k = x
    · rw [q]; exact h2
    · simp only [if_neg q] at e
      exact hs k hk e)
  omega
theorem rd_low : ∀ v x, x < 7 → d0 x ≠ ds x → ds x = some v → ∃ x v, x < 7 ∧ d0 x ≠ ds x ∧ ds x = some v ∧ ∀ y u, y < 7 → u < v → ds y = some u → d0 y = some u := by
  intro v
  induction v using Nat.strongRecOn with
  | ind v ih =>
    intro x hx hn hv
    by_cases g : ∃ y u, y < 7 ∧ u < v ∧ ds y = some u ∧ d0 y ≠ some u
    · obtain ⟨y, u, g1, g2, g3, g4⟩ := g
      exact ih u g2 y g1 (by rw [g3]; exact g4) g3
    · exact ⟨x, v, hx, hn, hv, fun y u h1 h2 h3 => Classical.byContradiction fun q => g ⟨y, u, h1, h2, h3, q⟩⟩
theorem rd_more (hm : moL E) (hp : ∀ y u x v, E y u x v → u < v) (h : lsL E a 0 ds) (h0 : snL E a 0 d0) (h1 : snL E a 0 d1) (hd : dnL d0 d1) (ha : d0 a = some 0) (hr : rdL E d0 d1) (hx : ∃ x, x < 7 ∧ d0 x ≠ ds x) (h7 : ∀ y u x v, E y u x v → y < 7) : fb_ct (fun x => decide (d0 x = ds x)) 7 < fb_ct (fun x => decide (d1 x = ds x)) 7 := by
  obtain ⟨x0, hx0, hn0⟩ := hx
  have hs0 : ∃ v, ds x0 = some v := by
    cases e : ds x0 with
    | some v => exact ⟨v, rfl⟩
    | none =>
      exfalso
      cases e0 : d0 x0 with
      | none => exact hn0 (e0.trans e.symm)
      | some v =>
        obtain ⟨z, -, hz⟩ := lsL_le h h0 e0
        rw [e] at hz
        cases hz
  obtain ⟨v0, hv0⟩ := hs0
  obtain ⟨x, v, hx, hn, hv, hl⟩ := rd_low v0 x0 hx0 hn0 hv0
  refine ct_lt (x := x) (fun k hk e => ?_) hx (decide_eq_false hn) (decide_eq_true ?_)
  · exact decide_eq_true (fin_keep h h1 hd (of_decide_eq_true e))
  · rcases lsL_p hm h hv with ⟨rfl, rfl⟩ | ⟨y, u, e, hE⟩
    · exact absurd (ha.trans hv.symm) hn
    · have e0 := hl y u (h7 _ _ _ _ hE) (hp _ _ _ _ hE) e
      obtain ⟨z, g1, g2⟩ := hr y u x v e0 hE
      obtain ⟨z2, g3, g4⟩ := lsL_le h h1 g2
      rw [hv] at g4
      cases g4
      rw [g2, hv, Nat.le_antisymm g1 g3]
end Rn
