/-! ===== the squire's game: the pure side ===== -/
def anB (f : Nat → Bool) : Nat → Bool
  | 0 => false
  | k + 1 => anB f k || f k
theorem anB_iff {f : Nat → Bool} : ∀ {m : Nat}, anB f m = true ↔ ∃ p, p < m ∧ f p = true
  | 0 => ⟨fun h => (by cases h), fun ⟨p, h, _⟩ => absurd h (Nat.not_lt_zero p)⟩
  | m + 1 => by
    show (anB f m || f m) = true ↔ _
    rw [Bool.or_eq_true, anB_iff (m := m)]
    constructor
    · rintro (⟨p, h1, h2⟩ | h)
      · exact ⟨p, by omega, h2⟩
      · exact ⟨m, by omega, h⟩
    · rintro ⟨p, h1, h2⟩
      by_cases q : p = m
      · rw [q] at h2; exact Or.inr h2
      · exact Or.inl ⟨p, by omega, h2⟩
/-- a path nobody took or shut -/
def frB' (K t s p : Nat) : Bool := K.testBit p && (!t.testBit p && !s.testBit p)
def mvT (b : Bool) (t p : Nat) : Nat := if b = true then t ||| 2 ^ p else t
def mvS (b : Bool) (s p : Nat) : Nat := if b = true then s else s ||| 2 ^ p
/-- who wins (true: the parish), if so many are free; b: whose turn it is -/
def wn (K : Nat) (led : Nat → Bool) : Nat → Nat → Nat → Bool → Bool
  | 0 => fun t _ _ => led t
  | m + 1 => fun t s b => if anB (fun p => frB' K t s p && (wn K led m (mvT b t p) (mvS b s p) (!b) == b)) 9 = true then b else !b
def fcV (K t s : Nat) : Nat := fb_ct (frB' K t s) 9
section Gm
variable {K t s p m q c k n : Nat} {b : Bool} {led : Nat → Bool}
theorem tb_p2 (a i : Nat) : (a ||| 2 ^ p).testBit i = (a.testBit i || decide (p = i)) := by rw [Nat.testBit_or, Nat.testBit_two_pow]
theorem fc_mv (hp : p < 9) (h : frB' K t s p = true) : fcV K (mvT b t p) (mvS b s p) + 1 = fcV K t s := by
  have e : fcV K (mvT b t p) (mvS b s p) = fb_ct (fun i => if i = p then false else frB' K t s i) 9 := fb_ct_cong (fun i _ => by
    unfold frB' mvT mvS
    cases b with
    | true =>
      simp only [if_true, tb_p2]
      by_cases q : i = p
      · rw [if_pos q, q]
        simp
      · rw [if_neg q, decide_eq_false (fun e => q e.symm), Bool.or_false]
    | false =>
      simp only [Bool.false_eq_true, if_false, tb_p2]
      by_cases q : i = p
      · rw [if_pos q, q]
        simp
      · rw [if_neg q, decide_eq_false (fun e => q e.symm), Bool.or_false])
  have u := fb_ct_upd (frB' K t s) false hp
  rw [h] at u
  simp only [if_true, Bool.false_eq_true, if_false] at u
  rw [e]
  unfold fcV
  omega
def sub (a b : Nat) : Prop := ∀ i, a.testBit i = true → b.testBit i = true
def monL (led : Nat → Bool) : Prop := ∀ a b, sub a b → led a = true → led b = true
theorem sub_or {a p : Nat} : sub a (a ||| 2 ^ p) := fun i h => by rw [tb_p2, h, Bool.true_or]
theorem fc_ex (h : fcV K t s = m + 1) : ∃ p, p < 9 ∧ frB' K t s p = true := by
  have := fb_ct_pos.mp (show 0 < fb_ct (frB' K t s) 9 by unfold fcV at h; omega)
  exact this
theorem wn_led (hm : monL led) : ∀ m t s b, fcV K t s = m → led t = true → wn K led m t s b = true
  | 0, t, s, b, _, h => h
  | m + 1, t, s, b, hf, h => by
    obtain ⟨p, hp, hfr⟩ := fc_ex hf
    have st : ∀ p, p < 9 → frB' K t s p = true → wn K led m (mvT b t p) (mvS b s p) (!b) = true := fun p hp hfr => by
      have f := fc_mv (b := b) hp hfr
      refine wn_led hm m _ _ _ (by omega) ?_
      unfold mvT
      split
      · exact hm _ _ sub_or h
      · exact h
    show (if _ then b else !b) = true
    cases b with
    | true =>
      rw [if_pos]
      refine anB_iff.mpr ⟨p, hp, ?_⟩
      have := st p hp hfr
      rw [hfr, this]
      rfl
    | false =>
      rw [if_neg]
      · rfl
      · intro g
        obtain ⟨p, hp, g2⟩ := anB_iff.mp g
        obtain ⟨g3, g4⟩ := (Bool.and_eq_true _ _).mp g2
        rw [st p hp g3] at g4
        cases g4
theorem nd_or {p : Nat} : sub (nd K (s ||| 2 ^ p)) (nd K s) := fun i h => by
  rw [nd_tb, tb_p2] at h
  rw [nd_tb]
  revert h
  cases K.testBit i <;> cases s.testBit i <;> cases decide (p = i) <;> decide
/-- all that is taken is of those that are kept and aren't shut; nothing is both -/
def okP (K t s : Nat) : Prop := sub t (nd K s) ∧ sub s K ∧ K < 512
theorem ok_mv (hp : p < 9) (h : okP K t s) (hf : frB' K t s p = true) : okP K (mvT b t p) (mvS b s p) := by
  obtain ⟨h1, h2, h3⟩ := h
  unfold frB' at hf
  obtain ⟨f1, f2⟩ := (Bool.and_eq_true _ _).mp hf
  obtain ⟨f3, f4⟩ := (Bool.and_eq_true _ _).mp f2
  have f3' : t.testBit p = false := by cases e : t.testBit p with | false => rfl | true => rw [e] at f3; cases f3
  have f4' : s.testBit p = false := by cases e : s.testBit p with | false => rfl | true => rw [e] at f4; cases f4
  refine ⟨fun i hi => ?_, fun i hi => ?_, h3⟩
  · unfold mvT at hi
    unfold mvS
    cases b with
    | true =>
      simp only [if_true] at hi ⊢
      rw [tb_p2] at hi
      rcases (Bool.or_eq_true _ _).mp hi with g | g
      · exact h1 i g
      · have e := of_decide_eq_true g
        rw [← e, nd_tb, f1, f4']
        rfl
    | false =>
      simp only [Bool.false_eq_true, if_false] at hi ⊢
      have g := h1 i hi
      rw [nd_tb] at g
      rw [nd_tb, tb_p2]
      have ne : p ≠ i := fun e => by rw [e, hi] at f3'; cases f3'
      rw [decide_eq_false ne, Bool.or_false]
      exact g
  · unfold mvS at hi
    cases b with
    | true =>
      simp only [if_true] at hi
      exact h2 i hi
    | false =>
      simp only [Bool.false_eq_true, if_false] at hi
      rw [tb_p2] at hi
      rcases (Bool.or_eq_true _ _).mp hi with g | g
      · exact h2 i g
      · rw [← of_decide_eq_true g]; exact f1
theorem fc_0 (hK : okP K t s) (h : fcV K t s = 0) : t = nd K s := by
  have z := fb_ct_zero.mp h
  obtain ⟨h1, h2, h3⟩ := hK
  refine tb_anti h1 (fun i hi => ?_)
  rw [nd_tb] at hi
  obtain ⟨g1, g2⟩ := (Bool.and_eq_true _ _).mp hi
  have hi9 : i < 9 := by
    refine Classical.byContradiction fun q => ?_
    rw [Nat.testBit_lt_two_pow (Nat.lt_of_lt_of_le h3 (Nat.pow_le_pow_right (n := 2) (i := 9) (by decide) (by omega)))] at g1
    cases g1
  have := z i hi9
  unfold frB' at this
  rw [g1, g2, Bool.true_and, Bool.and_true] at this
  cases e : t.testBit i with
  | true => rfl
  | false => rw [e] at this; cases this
theorem wn_not (hm : monL led) : ∀ m t s b, okP K t s → fcV K t s = m → led (nd K s) = false → wn K led m t s b = false
  | 0, t, s, b, ho, hf, h => by
    show led t = false
    rw [fc_0 ho hf]
    exact h
  | m + 1, t, s, b, ho, hf, h => by
    obtain ⟨p, hp, hfr⟩ := fc_ex hf
    have st : ∀ p, p < 9 → frB' K t s p = true → wn K led m (mvT b t p) (mvS b s p) (!b) = false := fun p hp hfr => by
      have f := fc_mv (b := b) hp hfr
      refine wn_not hm m _ _ _ (ok_mv hp ho hfr) (by omega) ?_
      unfold mvS
      split
      · exact h
      · cases e : led (nd K (s ||| 2 ^ p)) with
        | false => rfl
        | true => rw [hm _ _ nd_or e] at h; cases h
    show (if _ then b else !b) = false
    cases b with
    | false =>
      rw [if_pos]
      refine anB_iff.mpr ⟨p, hp, ?_⟩
      have := st p hp hfr
      rw [hfr, this]
      rfl
    | true =>
      rw [if_neg]
      · rfl
      · intro g
        obtain ⟨p, hp, g2⟩ := anB_iff.mp g
        obtain ⟨g3, g4⟩ := (Bool.and_eq_true _ _).mp g2
        rw [st p hp g3] at g4
        cases g4
/-! digits of threes -/
def dg (c q : Nat) : Nat := c / 3 ^ q % 3
theorem dg_div (c p q : Nat) : c / 3 ^ (p + q) = c / 3 ^ p / 3 ^ q := by rw [Nat.div_div_eq_div_mul, Nat.pow_add]
theorem div_add (hk : k < 3) (h : dg c p = 0) (q : Nat) : (c + k * 3 ^ p) / 3 ^ (p + (q + 1)) = c / 3 ^ (p + (q + 1)) := by
  have hpos : 0 < 3 ^ p := Nat.pow_pos (by decide)
  have d3 : ∀ x q : Nat, x / 3 ^ (q + 1) = x / 3 / 3 ^ q := fun x q => by rw [Nat.pow_succ', Nat.div_div_eq_div_mul]
  rw [dg_div (c + k * 3 ^ p) p (q + 1), dg_div c p (q + 1)]
  have e : (c + k * 3 ^ p) / 3 ^ p = c / 3 ^ p + k := by rw [Nat.add_mul_div_right _ _ hpos]
  unfold dg at h
  rw [e]
  have e3 : (c / 3 ^ p + k) / 3 = c / 3 ^ p / 3 := by omega
  rw [d3, d3, e3]
theorem dg_add (hk : k < 3) (h : dg c p = 0) : dg (c + k * 3 ^ p) q = if q = p then k else dg c q := by
  have hpos : 0 < 3 ^ p := Nat.pow_pos (by decide)
  by_cases e : q = p
  · rw [if_pos e, e]
    unfold dg at h ⊢
    rw [Nat.add_mul_div_right _ _ hpos]
    omega
  · rw [if_neg e]
    by_cases l : q < p
    · unfold dg
      obtain ⟨d, hd⟩ : ∃ d, p = q + (d + 1) := ⟨p - q - 1, by omega⟩
      have hq : 0 < 3 ^ q := Nat.pow_pos (by decide)
      rw [hd, Nat.pow_add, show k * (3 ^ q * 3 ^ (d + 1)) = (k * 3 ^ (d + 1)) * 3 ^ q by rw [Nat.mul_comm (3 ^ q), Nat.mul_assoc], Nat.add_mul_div_right _ _ hq, Nat.pow_succ, ← Nat.mul_assoc]
      omega
    · obtain ⟨d, hd⟩ : ∃ d, q = p + (d + 1) := ⟨q - p - 1, by omega⟩
      unfold dg at h ⊢
      rw [hd, div_add hk h]
theorem dg_lt (hk : k < 3) (h : dg c p = 0) (hp : p < n) (hc : c < 3 ^ n) : c + k * 3 ^ p < 3 ^ n := by
  obtain ⟨d, hd⟩ : ∃ d, n = p + (d + 1) := ⟨n - p - 1, by omega⟩
  have hn : 0 < 3 ^ n := Nat.pow_pos (by decide)
  have e := div_add hk h d
  rw [← hd, Nat.div_eq_of_lt hc] at e
  exact (Nat.div_eq_zero_iff.mp e).resolve_left (by omega)
theorem dg_lt3 : dg c q < 3 := Nat.mod_lt _ (by decide)
theorem dg_all : ∀ n c c', c < 3 ^ n → c' < 3 ^ n → (∀ q, q < n → dg c q = dg c' q) → c = c'
  | 0, c, c', h, h', _ => by
    rw [Nat.pow_zero] at h h'
    omega
  | n + 1, c, c', h, h', e => by
    have e0 := e 0 (by omega)
    unfold dg at e0
    rw [Nat.pow_zero, Nat.div_one, Nat.div_one] at e0
    have ih := dg_all n (c / 3) (c' / 3) (by rw [Nat.pow_succ] at h; omega) (by rw [Nat.pow_succ] at h'; omega) (fun q hq => by
      have := e (q + 1) (by omega)
      unfold dg at this ⊢
      rw [Nat.pow_succ', ← Nat.div_div_eq_div_mul, ← Nat.div_div_eq_div_mul] at this
      exact this)
    omega
/-- so many moves were made, and who begins: whose turn it is -/
def pc9 (a : Nat) : Nat := fb_ct (fun i => a.testBit i) 9
def trn (b0 : Bool) (t s : Nat) : Bool := if (pc9 t + pc9 s) % 2 = 0 then b0 else !b0
theorem pc_or (hp : p < 9) (h : t.testBit p = false) : pc9 (t ||| 2 ^ p) = pc9 t + 1 := by
  have e : pc9 (t ||| 2 ^ p) = fb_ct (fun i => if i = p then true else t.testBit i) 9 := fb_ct_cong (fun i _ => by
    rw [tb_p2]
    by_cases q : i = p
    · rw [if_pos q, q]; simp
    · rw [if_neg q, decide_eq_false (fun e => q e.symm), Bool.or_false])
  have u := fb_ct_upd (fun i => t.testBit i) true hp
  rw [h] at u
  simp only [if_true, Bool.false_eq_true, if_false] at u
  rw [e]
  unfold pc9
  omega
theorem trn_mv {b0 : Bool} (hp : p < 9) (hf : frB' K t s p = true) : trn b0 (mvT b t p) (mvS b s p) = !trn b0 t s := by
  unfold frB' at hf
  obtain ⟨f1, f2⟩ := (Bool.and_eq_true _ _).mp hf
  obtain ⟨f3, f4⟩ := (Bool.and_eq_true _ _).mp f2
  have f3' : t.testBit p = false := by cases e : t.testBit p with | false => rfl | true => rw [e] at f3; cases f3
  have f4' : s.testBit p = false := by cases e : s.testBit p with | false => rfl | true => rw [e] at f4; cases f4
  have key : pc9 (mvT b t p) + pc9 (mvS b s p) = pc9 t + pc9 s + 1 := by
    unfold mvT mvS
    cases b with
    | true => simp only [if_true]; rw [pc_or hp f3']; omega
    | false => simp only [Bool.false_eq_true, if_false]; rw [pc_or hp f4']; omega
  unfold trn
  rw [key]
  by_cases g : (pc9 t + pc9 s) % 2 = 0
  · rw [if_pos g, if_neg (by omega)]
  · rw [if_neg g, if_pos (by omega), Bool.not_not]
end Gm
