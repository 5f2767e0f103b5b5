/-! ===== round, by the class: labels and a turn ===== -/
theorem tcV_mo {c l u v u' : Nat} (h : tcV c l u = some v) (hu : u' ≤ u) : ∃ v', v' ≤ v ∧ tcV c l u' = some v' := by
  unfold tcV at h ⊢
  by_cases c0 : c = 0
  · rw [if_pos c0] at h ⊢
    cases h
    exact ⟨u' + l, by omega, rfl⟩
  · rw [if_neg c0] at h ⊢
    by_cases c1 : c < l
    · rw [if_pos c1] at h
      cases h
    · rw [if_neg c1] at h ⊢
      by_cases g : c < u % 128 + l <;> by_cases g' : c < u' % 128 + l
      · rw [if_pos g] at h; rw [if_pos g']; cases h; exact ⟨_, by omega, rfl⟩
      · rw [if_pos g] at h; rw [if_neg g']; cases h; exact ⟨_, by omega, rfl⟩
      · rw [if_neg g] at h; rw [if_pos g']; cases h; exact ⟨_, by omega, rfl⟩
      · rw [if_neg g] at h; rw [if_neg g']; cases h; exact ⟨_, by omega, rfl⟩
theorem tcV_b {c l u v : Nat} (h1 : 1 ≤ l) (h2 : l ≤ 99) (h : tcV c l u = some v) : u < v ∧ v ≤ u + 227 := by
  unfold tcV at h
  by_cases c0 : c = 0
  · rw [if_pos c0] at h
    cases h
    omega
  · rw [if_neg c0] at h
    by_cases c1 : c < l
    · rw [if_pos c1] at h
      cases h
    · rw [if_neg c1] at h
      by_cases g : c < u % 128 + l
      · rw [if_pos g] at h; cases h; omega
      · rw [if_neg g] at h; cases h; omega
section Gn
variable {n t w W c g k a N l x y p v0 : Nat} {s : zS} {T : zT} {S : zD} {d d1 ds : Nat → Option Nat} {b : Option Nat} {E : Nat → Nat → Nat → Nat → Prop}
/-- a step of the class's, on 7 * gone + place -/
def cE (T : zT) (S : zD) (w W c : Nat) (y u x v : Nat) : Prop := ∃ p, p < T 0 1 ∧ opnB T S w p = true ∧ (T 3 p = y % 7 ∨ T 4 p = y % 7) ∧ x = (y / 7 ||| (2 ^ p &&& W)) * 7 + othV T p (y % 7) ∧ tcV c (T 5 p) u = some v
theorem cE_mo : moL (cE T S w W c) := by
  rintro y u x v u' ⟨p, h1, h2, h3, h4, h5⟩ hu
  obtain ⟨v', hv, e⟩ := tcV_mo h5 hu
  exact ⟨v', hv, p, h1, h2, h3, h4, e⟩
theorem cE_b (hW : WT T) {y u x v : Nat} (h : cE T S w W c y u x v) : u < v := by
  obtain ⟨p, h1, h2, h3, h4, h5⟩ := h
  have he := WT_p hW h1
  exact (tcV_b (by omega) (by omega) h5).1
theorem oth_lt (hW : WT T) (hp : p < T 0 1) : othV T p x < 7 := by
  have he := WT_p hW hp
  unfold othV
  split <;> omega
theorem cE_lay (hW : WT T) {y u x v : Nat} (h : cE T S w W c y u x v) : y / 7 ≤ x / 7 := by
  obtain ⟨p, h1, h2, h3, h4, h5⟩ := h
  have := oth_lt (x := y % 7) hW h1
  have hle : y / 7 ≤ (y / 7 ||| (2 ^ p &&& W)) := Nat.left_le_or
  omega
/-- a label is made less -/
def rxV (d : Nat → Option Nat) (y : Nat) (b : Option Nat) : Nat → Option Nat := if fr b < fr (d y) then fun z => if z = y then b else d z else d
def rxB (d : Nat → Option Nat) (y : Nat) (b : Option Nat) : Bool := decide (fr b < fr (d y))
def ctS (d : Nat → Option Nat) : Nat := fb_ct (fun j => (d j).isSome) 3584
def cb (d : Nat → Option Nat) : Prop := ∀ j u, d j = some u → j < 3584 ∧ u ≤ 99 + 227 * ctS d
theorem cb_b {j u : Nat} (h : cb d) (e : d j = some u) : u ≤ 813667 := by
  have h1 := (h j u e).2
  have h2 : ctS d ≤ 3584 := fb_ct_le _ _
  omega
theorem cb_fr (h : cb d) (j : Nat) : fr (d j) ≤ 1000000 := by
  cases e : d j with
  | none => exact Nat.le_refl _
  | some u =>
    have := cb_b h e
    show u ≤ 1000000
    omega
theorem rx_ne {z : Nat} (h : z ≠ y) : rxV d y b z = d z := by
  unfold rxV
  split
  · simp only [if_neg h]
  · rfl
theorem rx_no (h : rxB d y b = false) : rxV d y b = d := by
  unfold rxV
  rw [if_neg (of_decide_eq_false h)]
theorem rx_dn (hcb : cb d) : dnL d (rxV d y b) := by
  intro z u e
  by_cases q : z = y
  · unfold rxV
    by_cases g : fr b < fr (d y)
    · rw [if_pos g]
      simp only [if_pos q]
      rw [q] at e
      rw [e] at g
      cases b with
      | none =>
        have h1 : 1000000 < u := g
        have := cb_b hcb e
        omega
      | some v =>
        have h1 : v < u := g
        exact ⟨v, by omega, rfl⟩
    · rw [if_neg g]
      exact ⟨u, Nat.le_refl _, e⟩
  · exact ⟨u, Nat.le_refl _, by rw [rx_ne q]; exact e⟩
theorem rx_sn (hs : snL E a v0 d) (hb : ∀ v, b = some v → ∃ x u, d x = some u ∧ E x u y v) (hcb : cb d) : snL E a v0 (rxV d y b) := by
  unfold rxV
  by_cases g : fr b < fr (d y)
  · rw [if_pos g]
    cases b with
    | none =>
      have h1 : 1000000 < fr (d y) := g
      have := cb_fr hcb y
      omega
    | some v =>
      obtain ⟨x, u, e, hE⟩ := hb v rfl
      exact snL_up hs e hE
  · rw [if_neg g]
    exact hs
theorem rx_ok {v : Nat} (hv : v < 1000000) : ∃ z, z ≤ v ∧ rxV d y (some v) y = some z := by
  unfold rxV
  by_cases g : fr (some v) < fr (d y)
  · rw [if_pos g]
    exact ⟨v, Nat.le_refl _, by simp only [if_true]⟩
  · rw [if_neg g]
    cases e : d y with
    | none =>
      rw [e] at g
      have h1 : ¬ v < 1000000 := g
      omega
    | some q =>
      rw [e] at g
      have h1 : ¬ v < q := g
      exact ⟨q, by omega, rfl⟩
theorem rx_cb (hcb : cb d) (hy : y < 3584) (hb : ∀ v, b = some v → ∃ x u, d x = some u ∧ v ≤ u + 227) : cb (rxV d y b) := by
  unfold rxV
  by_cases g : fr b < fr (d y)
  · rw [if_pos g]
    cases b with
    | none =>
      have h1 : 1000000 < fr (d y) := g
      have := cb_fr hcb y
      omega
    | some v =>
      obtain ⟨x, u, e, hv⟩ := hb v rfl
      have hu := (hcb x u e).2
      have ct : ctS (fun z => if z = y then some v else d z) + (if (d y).isSome = true then 1 else 0) = ctS d + 1 := by
        have h := fb_ct_upd (fun j => (d j).isSome) true hy
        rw [if_pos rfl] at h
        have e2 : ctS (fun z => if z = y then some v else d z) = fb_ct (fun k => if k = y then true else (d k).isSome) 3584 := fb_ct_cong (fun k _ => by
          by_cases q : k = y
          · simp only [if_pos q, Option.isSome_some]
          · simp only [if_neg q])
        rw [e2]
        exact h
      intro j z hj
      by_cases q : j = y
      · simp only [if_pos q] at hj
        cases hj
        refine ⟨by omega, ?_⟩
        cases ey : d y with
        | none =>
          rw [ey] at ct
          simp only [Option.isSome_none, Bool.false_eq_true, if_false] at ct
          omega
        | some r =>
          rw [ey] at ct g
          have g' : v < r := g
          have hr := (hcb y r ey).2
          simp only [Option.isSome_some, if_true] at ct
          omega
      · simp only [if_neg q] at hj
        have := hcb j z hj
        refine ⟨this.1, ?_⟩
        have : (if (d y).isSome = true then 1 else 0) ≤ 1 := by split <;> omega
        omega
  · rw [if_neg g]
    exact hcb
def lbN (N : Nat) (s : zS) (d : Nat → Option Nat) : Prop := ∀ j, j < N → s.1 79 j = nI (fr (d j))
theorem c_lessL (hn : 239 ≤ n) (hL : lbN N s d) (hN : N ≤ 3584) (hcb : cb d) (hy : y < N) (hl : l ≤ 99) (hc : c ≤ 99) : ∃ s' : zS, fX9_lessen n (mk s) 77 (nI y) (nI (fr (d x))) (nI l) (nI c) = some (nI (rxB d y (tcB c l (d x))).toNat, mk s') ∧ s'.2 = s.2 ∧ (∀ b, b ≠ 79 → s'.1 b = s.1 b) ∧ lbN N s' (rxV d y (tcB c l (d x))) := by
  have h := c_lessen (b := d x) (i := y) (q := fr (d y)) hn (by omega) (hL y hy) (cb_fr hcb y) (fun u e => by have := cb_b hcb e; omega) hl hc
  refine ⟨_, h, ?_, fun b hb => ?_, fun j hj => ?_⟩
  · split <;> rfl
  · split
    · exact wI_ne hb
    · rfl
  · unfold rxV
    by_cases g : fr (tcB c l (d x)) < fr (d y)
    · rw [if_pos g, if_pos g, wI_at]
      by_cases q : j = y
      · simp only [if_pos q]
        rw [q, upd_at]
      · simp only [if_neg q]
        rw [upd_ne q]
        exact hL j hj
    · rw [if_neg g, if_neg g]
      exact hL j hj
/-- both ways of a path, from a set of gone ones -/
def thn (W g p : Nat) : Nat := g ||| (2 ^ p &&& W)
def g1V (T : zT) (W c g p : Nat) (d : Nat → Option Nat) : Nat → Option Nat := rxV d (thn W g p * 7 + T 4 p) (tcB c (T 5 p) (d (g * 7 + T 3 p)))
def g2V (T : zT) (W c g p : Nat) (d : Nat → Option Nat) : Nat → Option Nat := rxV (g1V T W c g p d) (thn W g p * 7 + T 3 p) (tcB c (T 5 p) (g1V T W c g p d (g * 7 + T 4 p)))
def g2B (T : zT) (W c g p : Nat) (d : Nat → Option Nat) : Bool := decide (thn W g p = g) && (rxB d (thn W g p * 7 + T 4 p) (tcB c (T 5 p) (d (g * 7 + T 3 p))) || rxB (g1V T W c g p d) (thn W g p * 7 + T 3 p) (tcB c (T 5 p) (g1V T W c g p d (g * 7 + T 4 p))))
theorem tcB_s {v : Nat} (h : tcB c l b = some v) : ∃ u, b = some u ∧ tcV c l u = some v := by
  cases b with
  | none => cases h
  | some u => exact ⟨u, rfl, h⟩
theorem g2_all (hW : WT T) (hp : p < T 0 1) (ho : opnB T S w p = true) (hN : thn W g p * 7 + 7 ≤ 3584) (hcb : cb d) (hs : snL (cE T S w W c) a v0 d) :
    cb (g2V T W c g p d) ∧ snL (cE T S w W c) a v0 (g2V T W c g p d) ∧ dnL d (g2V T W c g p d) ∧
    (∀ y u v, y / 7 = g → (T 3 p = y % 7 ∨ T 4 p = y % 7) → d y = some u → tcV c (T 5 p) u = some v → ∃ z, z ≤ v ∧ g2V T W c g p d (thn W g p * 7 + othV T p (y % 7)) = some z) ∧
    (g2B T W c g p d = false → ∀ j, j / 7 = g → g2V T W c g p d j = d j) ∧ cb (g1V T W c g p d) := by
  have he := WT_p hW hp
  have b1 : cb (g1V T W c g p d) := rx_cb hcb (by omega) (fun v e => by
    obtain ⟨u, e1, e2⟩ := tcB_s e
    exact ⟨_, u, e1, (tcV_b he.2.2.2.1 he.2.2.2.2.1 e2).2⟩)
  have st3 : ∀ u v, tcV c (T 5 p) u = some v → cE T S w W c (g * 7 + T 3 p) u (thn W g p * 7 + T 4 p) v := by
    intro u v e
    refine ⟨p, hp, ho, Or.inl (by omega), ?_, e⟩
    rw [show (g * 7 + T 3 p) / 7 = g by omega, show (g * 7 + T 3 p) % 7 = T 3 p by omega, oth3]
    rfl
  have st4 : ∀ u v, tcV c (T 5 p) u = some v → cE T S w W c (g * 7 + T 4 p) u (thn W g p * 7 + T 3 p) v := by
    intro u v e
    refine ⟨p, hp, ho, Or.inr (by omega), ?_, e⟩
    rw [show (g * 7 + T 4 p) / 7 = g by omega, show (g * 7 + T 4 p) % 7 = T 4 p by omega, oth4]
    rfl
  have s1 : snL (cE T S w W c) a v0 (g1V T W c g p d) := rx_sn hs (fun v e => by
    obtain ⟨u, e1, e2⟩ := tcB_s e
    exact ⟨_, u, e1, st3 u v e2⟩) hcb
  have n1 : dnL d (g1V T W c g p d) := rx_dn hcb
  have n2 : dnL (g1V T W c g p d) (g2V T W c g p d) := rx_dn b1
  refine ⟨rx_cb b1 (by omega) (fun v e => ?_), rx_sn s1 (fun v e => ?_) b1, dnL_t n1 n2, fun y u v hy hx e ev => ?_, fun hf j hj => ?_, b1⟩
  · obtain ⟨u, e1, e2⟩ := tcB_s e
    exact ⟨_, u, e1, (tcV_b he.2.2.2.1 he.2.2.2.2.1 e2).2⟩
  · obtain ⟨u, e1, e2⟩ := tcB_s e
    exact ⟨_, u, e1, st4 u v e2⟩
  · have hu := cb_b hcb e
    have hv := tcV_b he.2.2.2.1 he.2.2.2.2.1 ev
    rcases hx with hx | hx
    · rw [← hx, oth3]
      have ey : y = g * 7 + T 3 p := by omega
      have eb : tcB c (T 5 p) (d (g * 7 + T 3 p)) = some v := by rw [← ey, e]; exact ev
      obtain ⟨z, z1, z2⟩ := rx_ok (d := d) (y := thn W g p * 7 + T 4 p) (show v < 1000000 by omega)
      have z2' : g1V T W c g p d (thn W g p * 7 + T 4 p) = some z := by unfold g1V; rw [eb]; exact z2
      obtain ⟨z3, z4, z5⟩ := n2 _ z z2'
      exact ⟨z3, by omega, z5⟩
    · rw [← hx, oth4]
      have ey : y = g * 7 + T 4 p := by omega
      rw [ey] at e
      obtain ⟨u', h1, h2⟩ := n1 _ u e
      obtain ⟨v', h3, h4⟩ := tcV_mo ev h1
      have eb : tcB c (T 5 p) (g1V T W c g p d (g * 7 + T 4 p)) = some v' := by rw [h2]; exact h4
      obtain ⟨z, z1, z2⟩ := rx_ok (d := g1V T W c g p d) (y := thn W g p * 7 + T 3 p) (show v' < 1000000 by omega)
      refine ⟨z, by omega, ?_⟩
      unfold g2V
      rw [eb]
      exact z2
  · by_cases q : thn W g p = g
    · unfold g2B at hf
      rw [decide_eq_true q, Bool.true_and] at hf
      obtain ⟨f1, f2⟩ := (Bool.or_eq_false_iff).mp hf
      unfold g2V
      rw [rx_no f2]
      unfold g1V
      rw [rx_no f1]
    · unfold g2V
      rw [rx_ne (by omega)]
      unfold g1V
      rw [rx_ne (by omega)]
end Gn
