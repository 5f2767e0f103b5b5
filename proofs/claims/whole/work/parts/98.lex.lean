/-! ===== the text's tokens, in numbers alone ===== -/
def WL : List Nat := [549489824, 538583040, 773205170, 773204992, 89534464, 844154880, 652729344, 642945024, 404455424, 676934656, 438075392, 117035008, 522190848, 48365568, 486146048, 408362632, 658813088, 41058304, 408144896, 538022912, 251073536, 136085504]
def WS : List Nat := [112, 108, 97, 99, 101, 32, 112, 97, 116, 104, 32, 119, 97, 108, 107, 101, 114, 32, 119, 97, 108, 107, 32, 98, 117, 108, 108, 32, 121, 101, 97, 114, 32, 115, 110, 111, 119, 32, 115, 101, 101, 100, 32, 108, 97, 119, 32, 116, 101, 114, 109, 32, 109, 97, 121, 32, 99, 111, 115, 116, 32, 97, 110, 100, 32, 111, 114, 32, 110, 111, 116, 32, 108, 101, 110, 103, 116, 104, 32, 115, 116, 105, 108, 101, 32, 97, 103, 101, 32, 108, 101, 103, 115, 32, 112, 97, 99, 101, 32, 103, 111, 110, 101, 32, 100, 97, 121, 32]
def WP : List Nat := [0, 6, 11, 18, 23, 28, 33, 38, 43, 47, 52, 56, 61, 65, 68, 72, 79, 85, 89, 94, 99, 104, 108]
def WD (k : Nat) : Nat := WL.getD k 0
def WC (i : Nat) : Nat := WS.getD i 0
def WB (k : Nat) : Nat := WP.getD k 0
def WN (k : Nat) : Nat := WB (k + 1) - WB k - 1
def sw (k : Nat) : Nat := if k = 12 then 13 else if k = 13 then 12 else k
def ltB (c : Nat) : Bool := decide (97 ≤ c ∧ c ≤ 122)
def dtB (c : Nat) : Bool := decide (48 ≤ c ∧ c ≤ 57)
def bkB (c : Nat) : Bool := decide (c = 10 ∨ c = 32)
def onW (f : Nat → Bool) (N : Nat) : Nat → Nat → Nat
  | 0, i => i
  | k + 1, i => if i < N ∧ f i = true then onW f N k (i + 1) else i
/-- where it is so no more, from one place on -/
def rnV (f : Nat → Bool) (N i : Nat) : Nat := onW f N (N - i) i
section Lx
variable {f : Nat → Bool} {N i k e : Nat} {B D D' : Nat → Nat}
theorem rn_s (h : i < N) (g : f i = true) : rnV f N i = rnV f N (i + 1) := by
  unfold rnV
  rw [show N - i = (N - (i + 1)) + 1 by omega]
  show (if i < N ∧ f i = true then _ else i) = _
  rw [if_pos ⟨h, g⟩]
theorem rn_0 (h : ¬ (i < N ∧ f i = true)) : rnV f N i = i := by
  unfold rnV
  cases N - i with
  | zero => rfl
  | succ k =>
    show (if i < N ∧ f i = true then _ else i) = i
    rw [if_neg h]
theorem rn_all : ∀ m i, N - i = m → (i ≤ rnV f N i ∧ (i ≤ N → rnV f N i ≤ N) ∧ (∀ j, i ≤ j → j < rnV f N i → j < N ∧ f j = true) ∧ ¬ (rnV f N i < N ∧ f (rnV f N i) = true))
  | 0, i, h => by
    have e : rnV f N i = i := rn_0 (fun g => by omega)
    rw [e]
    exact ⟨Nat.le_refl _, fun g => g, fun j h1 h2 => by omega, fun g => by omega⟩
  | m + 1, i, h => by
    by_cases g : i < N ∧ f i = true
    · rw [rn_s g.1 g.2]
      obtain ⟨h1, h2, h3, h4⟩ := rn_all m (i + 1) (by omega)
      refine ⟨by omega, fun _ => h2 (by omega), fun j q1 q2 => ?_, h4⟩
      by_cases q : j = i
      · rw [q]; exact g
      · exact h3 j (by omega) q2
    · rw [rn_0 g]
      exact ⟨Nat.le_refl _, fun g => g, fun j h1 h2 => by omega, g⟩
theorem rn_p : i ≤ rnV f N i ∧ (i ≤ N → rnV f N i ≤ N) ∧ (∀ j, i ≤ j → j < rnV f N i → j < N ∧ f j = true) ∧ ¬ (rnV f N i < N ∧ f (rnV f N i) = true) := rn_all _ i rfl
/-- letters' numbers in one number, five bits each -/
def pkD (D : Nat → Nat) : Nat → Nat
  | 0 => 0
  | k + 1 => pkD D k * 32 + D k
theorem pkD_inj : ∀ k, (∀ j, j < k → D j < 32 ∧ D' j < 32) → pkD D k = pkD D' k → ∀ j, j < k → D j = D' j
  | 0, _, _, j, hj => absurd hj (Nat.not_lt_zero j)
  | k + 1, h, e, j, hj => by
    have hk := h k (by omega)
    have e' : pkD D k * 32 + D k = pkD D' k * 32 + D' k := e
    by_cases q : j = k
    · rw [q]; omega
    · exact pkD_inj k (fun j hj => h j (by omega)) (by omega) j (by omega)
theorem pkD_cong : ∀ k, (∀ j, j < k → D j = D' j) → pkD D k = pkD D' k
  | 0, _ => rfl
  | k + 1, h => by
    show pkD D k * 32 + D k = pkD D' k * 32 + D' k
    rw [pkD_cong k (fun j hj => h j (by omega)), h k (by omega)]
theorem pkD_lt : ∀ k, (∀ j, j < k → D j < 32) → pkD D k < 32 ^ k
  | 0, _ => by rw [Nat.pow_zero]; exact Nat.one_pos
  | k + 1, h => by
    show pkD D k * 32 + D k < 32 ^ (k + 1)
    have := pkD_lt k (fun j hj => h j (by omega))
    have := h k (by omega)
    rw [Nat.pow_succ]
    omega
def ldV (B : Nat → Nat) (i e j : Nat) : Nat := if i + j < e then B (i + j) - 96 else 0
def pkV (B : Nat → Nat) (i e : Nat) : Nat := pkD (ldV B i e) 6
def wfW (v : Nat) : Nat → Nat → Nat
  | 0, _ => 22
  | m + 1, k => if WD k = v then k else wfW v m (k + 1)
def wdK (B : Nat → Nat) (i e : Nat) : Nat := if 6 < e - i then 38 else wfW (pkV B i e) 22 0
/-- digits' number; beyond what may stand anywhere not more exactly -/
def dvA (B : Nat → Nat) (i : Nat) : Nat → Nat
  | 0 => 0
  | k + 1 => if dvA B i k < 100000 then dvA B i k * 10 + (B (i + k) - 48) else dvA B i k
def sgV (B : Nat → Nat) (N j : Nat) : Nat × Nat :=
  if B j = 40 then (25, j + 1) else if B j = 41 then (26, j + 1) else if B j = 42 then (35, j + 1) else if B j = 43 then (33, j + 1) else if B j = 45 then (34, j + 1) else if B j = 47 then (36, j + 1) else if B j = 59 then (24, j + 1) else
  if B j = 60 then (if j + 1 < N ∧ B (j + 1) = 61 then (28, j + 2) else if j + 1 < N ∧ B (j + 1) = 62 then (30, j + 2) else (27, j + 1)) else
  if B j = 61 then (29, j + 1) else if B j = 62 then (if j + 1 < N ∧ B (j + 1) = 61 then (31, j + 2) else (32, j + 1)) else (38, j + 1)
/-- kind, value, place, what comes behind it -/
abbrev zK : Type := Nat × Nat × Nat × Nat
def lxJ (B : Nat → Nat) (N j : Nat) : zK :=
  if N ≤ j then (37, 0, j, j) else if ltB (B j) = true then (wdK B j (rnV (fun x => ltB (B x)) N j), pkV B j (rnV (fun x => ltB (B x)) N j), j, rnV (fun x => ltB (B x)) N j) else
  if dtB (B j) = true then (23, dvA B j (rnV (fun x => dtB (B x)) N j - j), j, rnV (fun x => dtB (B x)) N j) else ((sgV B N j).1, 0, j, (sgV B N j).2)
def lxV (B : Nat → Nat) (N i : Nat) : zK := lxJ B N (rnV (fun x => bkB (B x)) N i)
theorem dvA_le (h : ∀ j, i ≤ j → j < i + k → dtB (B j) = true) : dvA B i k ≤ 999999 := by
  induction k with
  | zero => show 0 ≤ 999999; omega
  | succ k ih =>
    have ih := ih (fun j h1 h2 => h j h1 (by omega))
    show (if dvA B i k < 100000 then dvA B i k * 10 + (B (i + k) - 48) else dvA B i k) ≤ 999999
    have := of_decide_eq_true (h (i + k) (by omega) (by omega))
    split <;> omega
theorem ld_lt (h : ∀ j, i ≤ j → j < e → ltB (B j) = true) (j : Nat) : ldV B i e j < 32 := by
  unfold ldV
  split
  · rename_i g
    have := of_decide_eq_true (h (i + j) (by omega) g)
    omega
  · omega
theorem pkV_lt (h : ∀ j, i ≤ j → j < e → ltB (B j) = true) : pkV B i e < 1073741824 := by
  have := pkD_lt 6 (fun j _ => ld_lt h j)
  unfold pkV
  exact Nat.lt_of_lt_of_le this (by decide)
theorem wfW_le (v : Nat) : ∀ m k, k + m = 22 → wfW v m k ≤ 22
  | 0, k, h => Nat.le_refl _
  | m + 1, k, h => by
    show (if WD k = v then k else wfW v m (k + 1)) ≤ 22
    split
    · omega
    · exact wfW_le v m (k + 1) (by omega)
theorem wdK_le : wdK B i e ≤ 38 := by
  unfold wdK
  split
  · omega
  · have := wfW_le (pkV B i e) 22 0 rfl
    omega
theorem sg_p (h : i < N) : (sgV B N i).1 ≤ 38 ∧ i < (sgV B N i).2 ∧ (sgV B N i).2 ≤ N := by
  have ki : ∀ (c : Prop) [Decidable c] (a b : Nat × Nat), (c → (a.1 ≤ 38 ∧ i < a.2 ∧ a.2 ≤ N)) → (¬ c → (b.1 ≤ 38 ∧ i < b.2 ∧ b.2 ≤ N)) → ((if c then a else b).1 ≤ 38 ∧ i < (if c then a else b).2 ∧ (if c then a else b).2 ≤ N) := by
    intro c _ a b h1 h2
    by_cases g : c
    · rw [if_pos g]; exact h1 g
    · rw [if_neg g]; exact h2 g
  have k1 : ∀ m, m ≤ 38 → (m ≤ 38 ∧ i < i + 1 ∧ i + 1 ≤ N) := fun m hm => ⟨hm, by omega, by omega⟩
  have k2 : ∀ m, m ≤ 38 → i + 1 < N → (m ≤ 38 ∧ i < i + 2 ∧ i + 2 ≤ N) := fun m hm _ => ⟨hm, by omega, by omega⟩
  unfold sgV
  refine ki _ _ _ (fun _ => k1 25 (by omega)) (fun _ => ?_)
  refine ki _ _ _ (fun _ => k1 26 (by omega)) (fun _ => ?_)
  refine ki _ _ _ (fun _ => k1 35 (by omega)) (fun _ => ?_)
  refine ki _ _ _ (fun _ => k1 33 (by omega)) (fun _ => ?_)
  refine ki _ _ _ (fun _ => k1 34 (by omega)) (fun _ => ?_)
  refine ki _ _ _ (fun _ => k1 36 (by omega)) (fun _ => ?_)
  refine ki _ _ _ (fun _ => k1 24 (by omega)) (fun _ => ?_)
  refine ki _ _ _ (fun _ => ki _ _ _ (fun g => k2 28 (by omega) g.1) (fun _ => ki _ _ _ (fun g => k2 30 (by omega) g.1) (fun _ => k1 27 (by omega)))) (fun _ => ?_)
  refine ki _ _ _ (fun _ => k1 29 (by omega)) (fun _ => ?_)
  exact ki _ _ _ (fun _ => ki _ _ _ (fun g => k2 31 (by omega) g.1) (fun _ => k1 32 (by omega))) (fun _ => k1 38 (by omega))
theorem lx_p (h : i ≤ N) : (lxV B N i).1 ≤ 38 ∧ (lxV B N i).2.1 < 1073741824 ∧ i ≤ (lxV B N i).2.2.1 ∧ (lxV B N i).2.2.1 ≤ N ∧ (lxV B N i).2.2.1 ≤ (lxV B N i).2.2.2 ∧ (lxV B N i).2.2.2 ≤ N ∧ ((lxV B N i).1 ≠ 37 → (lxV B N i).2.2.1 < (lxV B N i).2.2.2) := by
  have r0 := rn_p (f := fun x => bkB (B x)) (N := N) (i := i)
  unfold lxV
  obtain ⟨j, ej⟩ : ∃ j, j = rnV (fun x => bkB (B x)) N i := ⟨_, rfl⟩
  rw [← ej] at r0 ⊢
  have jN := r0.2.1 h
  unfold lxJ
  by_cases g : N ≤ j
  · rw [if_pos g]
    exact ⟨by show 37 ≤ 38; omega, by show 0 < 1073741824; omega, r0.1, jN, Nat.le_refl _, jN, fun q => absurd rfl q⟩
  · rw [if_neg g]
    by_cases g1 : ltB (B j) = true
    · rw [if_pos g1]
      have r1 := rn_p (f := fun x => ltB (B x)) (N := N) (i := j)
      have lt : j < rnV (fun x => ltB (B x)) N j := by
        have e := rn_s (f := fun x => ltB (B x)) (N := N) (i := j) (by omega) g1
        have := (rn_p (f := fun x => ltB (B x)) (N := N) (i := j + 1)).1
        omega
      exact ⟨wdK_le, pkV_lt (fun x h1 h2 => (r1.2.2.1 x h1 h2).2), r0.1, jN, r1.1, r1.2.1 jN, fun _ => lt⟩
    · rw [if_neg g1]
      by_cases g2 : dtB (B j) = true
      · rw [if_pos g2]
        have r1 := rn_p (f := fun x => dtB (B x)) (N := N) (i := j)
        have lt : j < rnV (fun x => dtB (B x)) N j := by
          have e := rn_s (f := fun x => dtB (B x)) (N := N) (i := j) (by omega) g2
          have := (rn_p (f := fun x => dtB (B x)) (N := N) (i := j + 1)).1
          omega
        refine ⟨by show 23 ≤ 38; omega, ?_, r0.1, jN, r1.1, r1.2.1 jN, fun _ => lt⟩
        have := dvA_le (B := B) (i := j) (k := rnV (fun x => dtB (B x)) N j - j) (fun x h1 h2 => (r1.2.2.1 x h1 (by omega)).2)
        show dvA B j _ < 1073741824
        omega
      · rw [if_neg g2]
        obtain ⟨s1, s2, s3⟩ := sg_p (B := B) (N := N) (i := j) (by omega)
        exact ⟨s1, by show 0 < 1073741824; omega, r0.1, jN, Nat.le_of_lt s2, s3, fun _ => s2⟩
/-! words of the language -/
def rwD (k j : Nat) : Nat := if j < WN k then WC (WB k + j) - 96 else 0
theorem W_tab : (∀ k : Fin 22, WB (k.1 + 1) = WB k.1 + WN k.1 + 1 ∧ 1 ≤ WN k.1 ∧ WN k.1 ≤ 6 ∧ WC (WB k.1 + WN k.1) = 32 ∧ pkD (rwD k.1) 6 = WD (sw k.1) ∧ WB k.1 + WN k.1 < 108 ∧ ∀ j : Fin 6, j.1 < WN k.1 → 97 ≤ WC (WB k.1 + j.1) ∧ WC (WB k.1 + j.1) ≤ 122) ∧ WB 0 = 0 ∧ WB 22 = 108 := by decide +kernel
theorem W_inj : ∀ k k' : Fin 22, WD k.1 = WD k'.1 → k = k' := by decide +kernel
theorem W_pos : ∀ k : Fin 22, 0 < WD k.1 ∧ WD k.1 < 1073741824 := by decide +kernel
/-- the word that stands there is the k-th one, as the reference numbers them -/
def isW (B : Nat → Nat) (i e k : Nat) : Prop := e - i = WN k ∧ ∀ j, j < WN k → B (i + j) = WC (WB k + j)
theorem isW_iff (hk : k < 22) (hie : i ≤ e) (h : ∀ j, i ≤ j → j < e → ltB (B j) = true) (h6 : e - i ≤ 6) : isW B i e k ↔ pkV B i e = WD (sw k) := by
  obtain ⟨t1, t2, t3, t4, t5, t6, t7⟩ := W_tab.1 ⟨k, hk⟩
  have t5' : pkD (rwD k) 6 = WD (sw k) := t5
  have t3' : WN k ≤ 6 := t3
  have t7' : ∀ j, j < WN k → 97 ≤ WC (WB k + j) ∧ WC (WB k + j) ≤ 122 := fun j hj => t7 ⟨j, by omega⟩ hj
  have lt : ∀ j, i + j < e → 97 ≤ B (i + j) ∧ B (i + j) ≤ 122 := fun j hj => of_decide_eq_true (h (i + j) (by omega) hj)
  have rl : ∀ j, rwD k j < 32 := fun j => by
    unfold rwD
    split
    · rename_i g
      have := t7' j g
      omega
    · omega
  rw [← t5']
  unfold pkV
  constructor
  · rintro ⟨h1, h2⟩
    refine pkD_cong 6 (fun j _ => ?_)
    unfold ldV rwD
    by_cases q : j < WN k
    · rw [if_pos (by omega), if_pos q, h2 j q]
    · rw [if_neg (by omega), if_neg q]
  · intro eq
    have ds := pkD_inj 6 (fun j _ => ⟨ld_lt h j, rl j⟩) eq
    have len : e - i = WN k := by
      refine Classical.byContradiction fun ne => ?_
      by_cases q : e - i < WN k
      · have := ds (e - i) (by omega)
        unfold ldV rwD at this
        rw [if_neg (by omega), if_pos q] at this
        have := t7' (e - i) q
        omega
      · have := ds (WN k) (by omega)
        unfold ldV rwD at this
        rw [if_pos (by omega), if_neg (by omega)] at this
        have := lt (WN k) (by omega)
        omega
    refine ⟨len, fun j hj => ?_⟩
    have := ds j (by omega)
    unfold ldV rwD at this
    rw [if_pos (by omega), if_pos hj] at this
    have := lt j (by omega)
    have := t7' j hj
    omega
theorem wfW_c (v : Nat) : ∀ m k, k + m = 22 → (wfW v m k < 22 → WD (wfW v m k) = v) ∧ (wfW v m k = 22 → ∀ j, k ≤ j → j < 22 → WD j ≠ v)
  | 0, k, h => ⟨fun g => absurd g (by show ¬ 22 < 22; omega), fun _ j h1 h2 => by omega⟩
  | m + 1, k, h => by
    have un : wfW v (m + 1) k = if WD k = v then k else wfW v m (k + 1) := rfl
    rw [un]
    by_cases g : WD k = v
    · rw [if_pos g]
      exact ⟨fun _ => g, fun q => by omega⟩
    · rw [if_neg g]
      obtain ⟨a1, a2⟩ := wfW_c v m (k + 1) (by omega)
      refine ⟨a1, fun q j h1 h2 => ?_⟩
      by_cases r : j = k
      · rw [r]; exact g
      · exact a2 q j (by omega) h2
theorem sw_lt (hk : k < 22) : sw k < 22 ∧ sw (sw k) = k := by
  unfold sw
  by_cases a : k = 12
  · rw [a]; decide
  · by_cases b : k = 13
    · rw [b]; decide
    · rw [if_neg a, if_neg b, if_neg a, if_neg b]
      exact ⟨hk, rfl⟩
/-- which word of the language it is, by the reference's numbers -/
theorem wdK_ref (hie : i ≤ e) (h : ∀ j, i ≤ j → j < e → ltB (B j) = true) : (∀ k, k < 22 → isW B i e k → wdK B i e = sw k) ∧ ((∀ k, k < 22 → ¬ isW B i e k) → wdK B i e = if 6 < e - i then 38 else 22) := by
  constructor
  · intro k hk hw
    have l6 : e - i ≤ 6 := by
      have := (W_tab.1 ⟨k, hk⟩).2.2.1
      have t3' : WN k ≤ 6 := this
      have := hw.1
      omega
    have eq := (isW_iff hk hie h l6).mp hw
    unfold wdK
    rw [if_neg (by omega)]
    obtain ⟨a1, a2⟩ := wfW_c (pkV B i e) 22 0 rfl
    have le := wfW_le (pkV B i e) 22 0 rfl
    have sl := sw_lt hk
    by_cases q : wfW (pkV B i e) 22 0 < 22
    · have := a1 q
      rw [eq] at this
      have := W_inj ⟨_, q⟩ ⟨sw k, sl.1⟩ (by rw [← eq] at this ⊢; exact this)
      exact Fin.mk.inj this
    · exact absurd eq.symm (a2 (by omega) (sw k) (Nat.zero_le _) sl.1)
  · intro hn
    unfold wdK
    by_cases g : 6 < e - i
    · rw [if_pos g, if_pos g]
    · rw [if_neg g, if_neg g]
      obtain ⟨a1, a2⟩ := wfW_c (pkV B i e) 22 0 rfl
      have le := wfW_le (pkV B i e) 22 0 rfl
      refine Classical.byContradiction fun q => ?_
      have q' : wfW (pkV B i e) 22 0 < 22 := by omega
      have eq := a1 q'
      have sl := sw_lt q'
      refine hn (sw (wfW (pkV B i e) 22 0)) sl.1 ((isW_iff sl.1 hie h (by omega)).mpr ?_)
      rw [sl.2, eq]
end Lx
