/-! ===== round, by the reference, and how its numbers meet the class's ===== -/
def psi (c v : Nat) : Nat := if c = 0 then v else 128 * (v / 100) + v % 100
def v0c (c : Nat) : Nat := if c = 0 then 0 else 100
theorem psi_mo {c u v : Nat} (h : u ≤ v) : psi c u ≤ psi c v := by
  unfold psi
  split <;> omega
theorem psi_st {c l u : Nat} (hc : c ≤ 99) (hu : c ≠ 0 → u % 100 ≤ c) : tcV c l (psi c u) = (tkV c l u).map (psi c) ∧ ∀ v, tkV c l u = some v → (c ≠ 0 → v % 100 ≤ c) := by
  unfold tcV tkV psi
  by_cases c0 : c = 0
  · simp only [if_pos c0, Option.map_some]
    exact ⟨trivial, fun v _ h => absurd c0 h⟩
  · have hu' := hu c0
    simp only [if_neg c0]
    by_cases c1 : c < l
    · simp only [if_pos c1, Option.map_none]
      exact ⟨trivial, fun v h => by cases h⟩
    · simp only [if_neg c1]
      have e1 : (128 * (u / 100) + u % 100) % 128 = u % 100 := by omega
      have e2 : (128 * (u / 100) + u % 100) / 128 = u / 100 := by omega
      rw [e1, e2]
      by_cases g : c < u % 100 + l
      · simp only [if_pos g, Option.map_some]
        refine ⟨congrArg some ?_, fun v h => ?_⟩
        · omega
        · cases h
          omega
      · simp only [if_neg g, Option.map_some]
        refine ⟨congrArg some ?_, fun v h => ?_⟩
        · omega
        · cases h
          omega
theorem psi_s0 {c l : Nat} (hc : c ≤ 99) (hl : 1 ≤ l) : tcV c l c = (tkV c l (v0c c)).map (psi c) ∧ ∀ v, tkV c l (v0c c) = some v → (c ≠ 0 → v % 100 ≤ c) := by
  unfold tcV tkV psi v0c
  by_cases c0 : c = 0
  · simp only [if_pos c0, Option.map_some]
    exact ⟨by rw [c0], fun v _ h => absurd c0 h⟩
  · simp only [if_neg c0]
    by_cases c1 : c < l
    · simp only [if_pos c1, Option.map_none]
      exact ⟨trivial, fun v h => by cases h⟩
    · simp only [if_neg c1]
      rw [if_pos (show c < c % 128 + l by omega), if_neg (show ¬ c < 100 % 100 + l by omega)]
      simp only [Option.map_some]
      refine ⟨congrArg some ?_, fun v h => ?_⟩
      · omega
      · cases h
        omega
section Mq
variable {n t w W c k a i y v v' : Nat} {s : zS} {T : zT} {S : zD} {A : zA} {d ds : Nat → Option Nat} {x z : Int32}
def mpN (y : Nat) : Nat := y % 512 * 7 + y / 512
def mpM (i : Nat) : Nat := 512 * (i % 7) + i / 7
def okV (c k v v' : Nat) : Prop := (k = 0 ∧ v = v0c c ∧ v' = c) ∨ (0 < k ∧ v' = psi c v ∧ (c ≠ 0 → v % 100 ≤ c))
theorem ok_st {l : Nat} (hc : c ≤ 99) (hl : 1 ≤ l) (h : okV c k v v') : tcV c l v' = (tkV c l v).map (psi c) ∧ ∀ v1, tkV c l v = some v1 → (c ≠ 0 → v1 % 100 ≤ c) := by
  rcases h with ⟨-, rfl, rfl⟩ | ⟨-, rfl, h⟩
  · exact psi_s0 hc hl
  · exact psi_st hc h
theorem W_lt {p : Nat} (hW5 : W < 512) : W &&& 2 ^ p < 512 := Nat.lt_of_le_of_lt Nat.and_le_left hW5
theorem or5 {x y : Nat} (h : x < 512) (g : y < 512) : x ||| y < 512 := Nat.or_lt_two_pow (n := 9) h g
theorem st_c (hW : WT T) (ha : a < 7) (hW5 : W < 512) (hc : c ≤ 99) : ∀ k y v, rcL (stE T S w W c) (512 * a) (v0c c) k y v → y < 3584 ∧ ∃ v', rcL (cE T S w W c) a c k (mpN y) v' ∧ okV c k v v'
  | 0, y, v, h => by
    obtain ⟨rfl, rfl⟩ := h
    refine ⟨by omega, c, ⟨?_, rfl⟩, Or.inl ⟨rfl, rfl, rfl⟩⟩
    unfold mpN
    omega
  | k + 1, y, v, ⟨x, u, h1, p, hp, ho, hx, hy, hv⟩ => by
    obtain ⟨x5, u', r1, r2⟩ := st_c hW ha hW5 hc k x u h1
    have he := WT_p hW hp
    have ol := oth_lt (x := x / 512) hW hp
    have wl := or5 (show x % 512 < 512 by omega) (W_lt (p := p) hW5)
    obtain ⟨e1, e2⟩ := ok_st hc he.2.2.2.1 r2
    refine ⟨by omega, psi c v, ⟨mpN x, u', r1, p, hp, ho, ?_, ?_, ?_⟩, Or.inr ⟨by omega, rfl, e2 v hv⟩⟩
    · rw [show mpN x % 7 = x / 512 by unfold mpN; omega]
      exact hx
    · rw [show mpN x % 7 = x / 512 by unfold mpN; omega, show mpN x / 7 = x % 512 by unfold mpN; omega, Nat.and_comm (2 ^ p) W]
      unfold mpN
      omega
    · rw [e1, hv]
      rfl
theorem c_st (hW : WT T) (ha : a < 7) (hW5 : W < 512) (hc : c ≤ 99) : ∀ k i v', rcL (cE T S w W c) a c k i v' → i < 3584 ∧ ∃ v, rcL (stE T S w W c) (512 * a) (v0c c) k (mpM i) v ∧ okV c k v v'
  | 0, i, v', h => by
    obtain ⟨rfl, rfl⟩ := h
    refine ⟨by omega, v0c v', ⟨?_, rfl⟩, Or.inl ⟨rfl, rfl, rfl⟩⟩
    unfold mpM
    omega
  | k + 1, i, v', ⟨x, u', h1, p, hp, ho, hx, hi, hv⟩ => by
    obtain ⟨x5, u, r1, r2⟩ := c_st hW ha hW5 hc k x u' h1
    have he := WT_p hW hp
    have ol := oth_lt (x := x % 7) hW hp
    have wl := or5 (show x / 7 < 512 by omega) (W_lt (p := p) hW5)
    rw [Nat.and_comm (2 ^ p) W] at hi
    obtain ⟨e1, e2⟩ := ok_st hc he.2.2.2.1 r2
    rw [hv] at e1
    cases ev : tkV c (T 5 p) u with
    | none =>
      rw [ev] at e1
      cases e1
    | some v =>
      rw [ev] at e1
      have e1' : some v' = some (psi c v) := e1
      cases e1'
      refine ⟨by omega, v, ⟨mpM x, u, r1, p, hp, ho, ?_, ?_, ev⟩, Or.inr ⟨by omega, rfl, e2 v ev⟩⟩
      · rw [show mpM x / 512 = x % 7 by unfold mpM; omega]
        exact hx
      · rw [show mpM x / 512 = x % 7 by unfold mpM; omega, show mpM x % 512 = x / 7 by unfold mpM; omega]
        unfold mpM
        omega
/-- the class's least values, by the reference's -/
def dsC (a c : Nat) (d : Nat → Option Nat) (i : Nat) : Option Nat := if i = a then some c else if i < 3584 then (d (mpM i)).map (psi c) else none
theorem ls_c (hW : WT T) (ha : a < 7) (hW5 : W < 512) (hc : c ≤ 99) (h : lsL (stE T S w W c) (512 * a) (v0c c) d) : lsL (cE T S w W c) a c (dsC a c d) := by
  refine ⟨fun i v e => ?_, fun k i v' hk => ?_⟩
  · unfold dsC at e
    by_cases q : i = a
    · rw [if_pos q] at e
      cases e
      exact ⟨0, q, rfl⟩
    · rw [if_neg q] at e
      by_cases q2 : i < 3584
      · rw [if_pos q2] at e
        cases ed : d (mpM i) with
        | none =>
          rw [ed] at e
          cases e
        | some u =>
          rw [ed] at e
          have e' : some (psi c u) = some v := e
          cases e'
          obtain ⟨k, hk⟩ := h.1 _ u ed
          obtain ⟨-, v', r1, r2⟩ := st_c hW ha hW5 hc k _ u hk
          rw [show mpN (mpM i) = i by unfold mpN mpM; omega] at r1
          rcases r2 with ⟨rfl, -, -⟩ | ⟨-, rfl, -⟩
          · exact absurd r1.1 q
          · exact ⟨k, r1⟩
      · rw [if_neg q2] at e
        cases e
  · obtain ⟨i5, v, r1, r2⟩ := c_st hW ha hW5 hc k i v' hk
    unfold dsC
    by_cases q : i = a
    · rw [if_pos q]
      refine ⟨c, ?_, rfl⟩
      have mono : ∀ k x v, rcL (cE T S w W c) a c k x v → c ≤ v := by
        intro k
        induction k with
        | zero => rintro x v ⟨-, rfl⟩; exact Nat.le_refl _
        | succ k ih =>
          rintro x v ⟨y, u, r1, r2⟩
          have := ih y u r1
          have := cE_b hW r2
          omega
      exact mono k i v' hk
    · rw [if_neg q, if_pos i5]
      obtain ⟨u, h1, h2⟩ := h.2 k _ v r1
      rcases r2 with ⟨rfl, -, -⟩ | ⟨-, rfl, -⟩
      · exact absurd hk.1 q
      · exact ⟨psi c u, psi_mo h1, by rw [h2]; rfl⟩
theorem st_sub (hW : WT T) (hW5 : W < 512) : ∀ k y v, rcL (stE T S w W c) (512 * a) (v0c c) k y v → y % 512 ||| opnV T S w = opnV T S w
  | 0, y, v, h => by
    rw [h.1, Nat.mul_mod_right, Nat.zero_or]
  | k + 1, y, v, ⟨x, u, h1, p, hp, ho, hx, hy, hv⟩ => by
    have ih := st_sub hW hW5 k x u h1
    have wl := or5 (show x % 512 < 512 by omega) (W_lt (p := p) hW5)
    rw [show y % 512 = (x % 512 ||| (W &&& 2 ^ p)) by omega]
    apply Nat.eq_of_testBit_eq
    intro i
    have hi := congrArg (fun m => m.testBit i) ih
    have hop : (2 ^ p).testBit i = true → (opnV T S w).testBit i = true := by
      intro q
      have : p = i := by
        rw [Nat.testBit_two_pow] at q
        exact of_decide_eq_true q
      rw [← this]
      unfold opnV
      rw [goB_tb, decide_eq_true hp, ho]
      rfl
    simp only [Nat.testBit_or, Nat.testBit_and] at hi ⊢
    revert hi hop
    cases (x % 512).testBit i <;> cases (opnV T S w).testBit i <;> cases (2 ^ p).testBit i <;> cases W.testBit i <;> decide
theorem mn_map {f : Nat → Option Nat} : ∀ m, mnO (fun j => (f j).map (psi c)) m = (mnO f m).map (psi c)
  | 0 => rfl
  | m + 1 => by
    unfold mnO
    rw [mn_map m]
    cases e1 : mnO f m with
    | none => rfl
    | some u =>
      cases e2 : f m with
      | none => rfl
      | some v =>
        show some (if psi c v < psi c u then psi c v else psi c u) = some (psi c (if v < u then v else u))
        by_cases q : v < u
        · rw [if_pos q]
          have := psi_mo (c := c) (show v ≤ u by omega)
          split
          · rfl
          · congr 1
            omega
        · rw [if_neg q]
          have := psi_mo (c := c) (show u ≤ v by omega)
          rw [if_neg (by omega)]
theorem mn_le {f : Nat → Option Nat} {j v : Nat} : ∀ {m : Nat}, j < m → f j = some v → ∃ u, u ≤ v ∧ mnO f m = some u
  | 0, h, _ => absurd h (Nat.not_lt_zero j)
  | m + 1, h, e => by
    unfold mnO
    by_cases q : j = m
    · rw [← q, e]
      cases mnO f j with
      | none => exact ⟨v, Nat.le_refl _, rfl⟩
      | some u =>
        refine ⟨if v < u then v else u, ?_, rfl⟩
        split <;> omega
    · obtain ⟨u, h1, h2⟩ := mn_le (m := m) (by omega) e
      rw [h2]
      cases f m with
      | none => exact ⟨u, h1, rfl⟩
      | some z =>
        refine ⟨if z < u then z else u, ?_, rfl⟩
        split <;> omega
theorem mn_none {f : Nat → Option Nat} : ∀ {m : Nat}, (∀ j, j < m → f j = none) → mnO f m = none
  | 0, _ => rfl
  | m + 1, h => by
    unfold mnO
    rw [mn_none (m := m) (fun j hj => h j (by omega)), h m (by omega)]
def mrR (b : Bool) (o : Option Nat) : Int32 := match o with | none => m2 | some v => if b then nI (v / 100) else nI v
theorem rnd_eq {b : Bool} (hW : WT T) (hw : w < T 0 2) (ha : a < T 0 0) (hW5 : W < 512) (h : lsL (stE T S w W (rdC T w b)) (512 * a) (v0c (rdC T w b)) d) : rndV T S w W b (dsC a (rdC T w b) d) = if W = 0 then nI 0 else mrR b (mnO (fun x => d (512 * x + W)) (T 0 0)) := by
  have h0 := hW.1
  have hw' := hW.2.2.2.1 w hw
  unfold rndV
  by_cases w0 : W = 0
  · rw [if_pos w0, if_pos (by rw [w0]; exact nd_sub.mpr (Nat.zero_or _))]
    obtain ⟨u, h1, h2⟩ := mn_le (f := fun j => dsC a (rdC T w b) d (W * 7 + j)) (j := a) (m := T 0 0) (v := rdC T w b) ha (by
      show dsC a (rdC T w b) d (W * 7 + a) = _
      rw [w0, Nat.zero_mul, Nat.zero_add]
      unfold dsC
      rw [if_pos rfl])
    rw [h2]
    cases b with
    | false =>
      have : u = 0 := Nat.le_zero.mp h1
      rw [this]
      rfl
    | true =>
      have h1' : u ≤ T 11 w := h1
      show nI (u / 128) = nI 0
      rw [show u / 128 = 0 by omega]
  · rw [if_neg w0]
    have em : mnO (fun j => dsC a (rdC T w b) d (W * 7 + j)) (T 0 0) = (mnO (fun x => d (512 * x + W)) (T 0 0)).map (psi (rdC T w b)) := by
      rw [← mn_map]
      refine mnO_cong (fun j hj => ?_)
      show dsC a (rdC T w b) d (W * 7 + j) = (d (512 * j + W)).map _
      unfold dsC
      rw [if_neg (by omega), if_pos (by omega), show mpM (W * 7 + j) = 512 * j + W by unfold mpM; omega]
    by_cases q : nd W (opnV T S w) = 0
    · rw [if_pos q, em]
      cases mnO (fun x => d (512 * x + W)) (T 0 0) with
      | none => rfl
      | some v =>
        cases b with
        | false => rfl
        | true =>
          show nI (psi (T 11 w) v / 128) = nI (v / 100)
          unfold psi
          rw [if_neg (by omega), show (128 * (v / 100) + v % 100) / 128 = v / 100 by omega]
    · rw [if_neg q]
      have : mnO (fun x => d (512 * x + W)) (T 0 0) = none := mn_none (fun j hj => by
        cases e : d (512 * j + W) with
        | none => rfl
        | some u =>
          obtain ⟨k, hk⟩ := h.1 _ u e
          have := st_sub hW hW5 k _ u hk
          rw [show (512 * j + W) % 512 = W by omega] at this
          exact absurd (nd_sub.mpr this) q)
      rw [this]
      rfl
theorem m_rd70 {b : Bool} (hn : 239 ≤ n) (hW : WT T) (hT : mTd s.1 T) (hW5 : W < 512) (hL : ∀ j, j < 3584 → s.1 227 j = oV (d j)) (hb : ∀ j u, d j = some u → u < 1000000) : fX11_round_70 n bi_K (mk s) 187 (nI W) (nI b.toNat) m2 (nI 0) = some (mrR b (mnO (fun x => d (512 * x + W)) (T 0 0)), mk s) := by
  have h0 := hW.1
  have n512 : (512 : Int32) = nI 512 := rfl
  have n100 : (100 : Int32) = nI 100 := rfl
  have bd : ∀ j u, (fun x => d (512 * x + W)) j = some u → u < 1000000 := fun j u e => hb _ u e
  have m2lt : (m2 < nI 0) = True := by
    have : m2 < nI 0 := by decide
    simp [this]
  have m2le : (nI 0 ≤ m2) = False := by
    have : ¬ nI 0 ≤ m2 := by decide
    simp [this]
  refine lp_up (F := fun f (_ : Unit) i => fX11_round_70 n f (mk s) 187 (nI W) (nI b.toNat) (wayR (mnO (fun x => d (512 * x + W)) i)) (nI i)) (N := T 0 0) (P := fun _ _ => True) (Q := fun r => r = some (mrR b (mnO (fun x => d (512 * x + W)) (T 0 0)), mk s)) ?_ ?_ (T 0 0) bi_K () 0 (by omega) (by unfold bi_K; omega) trivial
  · intro f _ i hi _
    left
    refine ⟨(), ?_, trivial⟩
    have l := hL (512 * i + W) (by omega)
    have fm := fr_mn (f := fun x => d (512 * x + W)) (k := i) bd
    show fX11_round_70b n (fX11_round_70 n f) (mk s) 187 (nI W) (nI b.toNat) (wayR (mnO (fun x => d (512 * x + W)) i)) (nI i) = fX11_round_70 n f (mk s) 187 (nI W) (nI b.toNat) (wayR (mnO (fun x => d (512 * x + W)) (i + 1))) (nI (i + 1))
    unfold fX11_round_70b fX11_round_111 fX11_round_115
    rw [n512]
    have un : mnO (fun x => d (512 * x + W)) (i + 1) = match mnO (fun x => d (512 * x + W)) i, d (512 * i + W) with
      | none, b => b
      | some u, none => some u
      | some u, some v => some (if v < u then v else u) := rfl
    cases e2 : d (512 * i + W) with
    | none =>
      rw [e2] at l un
      have un' : mnO (fun x => d (512 * x + W)) (i + 1) = mnO (fun x => d (512 * x + W)) i := by
        rw [un]
        cases mnO (fun x => d (512 * x + W)) i <;> rfl
      rw [un']
      simp (disch := first | omega | assumption | (simp only [wL_1, wL_22, wI_2, wA_2, wQ_1, wQ_21] <;> first | assumption | omega)) only [LIT, LITm, nI_add, n_mul, fa_or, n_31m, n_shl0, n_le, n_lt, n_eq, Option.bind_some, B_m hn, B_mc hn, hT.1.1, l, oV, n_m1lt, if_true, show ¬ T 0 0 ≤ i by omega, ↓reduceIte]
    | some v =>
      rw [e2] at l un
      have hv := hb _ v e2
      have nv : (nI v < nI 0) = False := n_lt0 (by omega)
      cases e1 : mnO (fun x => d (512 * x + W)) i with
      | none =>
        rw [e1] at un
        have un' : mnO (fun x => d (512 * x + W)) (i + 1) = some v := un
        rw [un']
        simp (disch := first | omega | assumption | (simp only [wL_1, wL_22, wI_2, wA_2, wQ_1, wQ_21] <;> first | assumption | omega)) only [LIT, LITm, nI_add, n_mul, fa_or, n_31m, n_shl0, n_le, n_lt, n_eq, Option.bind_some, B_m hn, B_mc hn, hT.1.1, l, oV, wayR, nv, m2lt, if_true, if_false, show ¬ T 0 0 ≤ i by omega, ↓reduceIte]
      | some u =>
        rw [e1] at un
        have hu := fm.1 u e1
        have nu : (nI u < nI 0) = False := n_lt0 (by omega)
        have un' : mnO (fun x => d (512 * x + W)) (i + 1) = some (if v < u then v else u) := un
        rw [un']
        by_cases q : v < u
        · rw [if_pos q]
          simp (disch := first | omega | assumption | (simp only [wL_1, wL_22, wI_2, wA_2, wQ_1, wQ_21] <;> first | assumption | omega)) only [LIT, LITm, nI_add, n_mul, fa_or, n_31m, n_shl0, n_le, n_lt, n_eq, Option.bind_some, B_m hn, B_mc hn, hT.1.1, l, oV, wayR, nv, nu, if_false, show ¬ u ≤ v by omega, show ¬ T 0 0 ≤ i by omega, ↓reduceIte]
        · rw [if_neg q]
          simp (disch := first | omega | assumption | (simp only [wL_1, wL_22, wI_2, wA_2, wQ_1, wQ_21] <;> first | assumption | omega)) only [LIT, LITm, nI_add, n_mul, fa_or, n_31m, n_shl0, n_le, n_lt, n_eq, Option.bind_some, B_m hn, B_mc hn, hT.1.1, l, oV, wayR, nv, nu, if_false, show u ≤ v by omega, show ¬ T 0 0 ≤ i by omega, ↓reduceIte]
  · intro f _ _
    have fm := fr_mn (f := fun x => d (512 * x + W)) (k := T 0 0) bd
    show fX11_round_70b n (fX11_round_70 n f) (mk s) 187 (nI W) (nI b.toNat) (wayR (mnO (fun x => d (512 * x + W)) (T 0 0))) (nI (T 0 0)) = _
    unfold fX11_round_70b
    rw [n100]
    cases e : mnO (fun x => d (512 * x + W)) (T 0 0) with
    | none => simp (disch := first | omega | assumption | (simp only [wL_1, wL_22, wI_2, wA_2, wQ_1, wQ_21] <;> first | assumption | omega)) only [LIT, LITm, nI_add, n_mul, fa_or, n_31m, n_shl0, n_le, n_lt, n_eq, Option.bind_some, B_m hn, hT.1.1, wayR, m2le, mrR, Nat.le_refl, if_false, ↓reduceIte]
    | some u =>
      have hu := fm.1 u e
      cases b with
      | false => simp (disch := first | omega | assumption | (simp only [wL_1, wL_22, wI_2, wA_2, wQ_1, wQ_21] <;> first | assumption | omega)) only [LIT, LITm, nI_add, n_mul, fa_or, n_31m, n_shl0, n_le, n_lt, n_eq, Option.bind_some, B_m hn, hT.1.1, wayR, mrR, Nat.le_refl, Nat.zero_le, Bool.toNat_false, not_true_eq_false, Bool.false_eq_true, if_false, ↓reduceIte]
      | true => simp (disch := first | omega | assumption | (simp only [wL_1, wL_22, wI_2, wA_2, wQ_1, wQ_21] <;> first | assumption | omega)) only [LIT, LITm, nI_add, n_mul, fa_or, n_31m, n_shl0, n_le, n_lt, n_eq, Option.bind_some, B_m hn, hT.1.1, wayR, mrR, n_dI, Nat.le_refl, Nat.zero_le, Bool.toNat_true, Nat.reduceEqDiff, Nat.reduceLeDiff, not_false_eq_true, if_true, ↓reduceIte]
theorem m_round {y : Int32} (hn : 239 ≤ n) (hK : mK s A) (hA : wfA A) : (∀ w W (b : Bool), w < aT A 0 2 → W < 2 ^ aT A 0 1 → ∃ (s' : zS) (ds : Nat → Option Nat), lsL (cE (aT A) (aS A) w W (rdC (aT A) w b)) ((aS A).2.2.1 0 w) (rdC (aT A) w b) ds ∧ fX11_round n (mk s) 187 (nI w) (nI W) (nI b.toNat) = some (rndV (aT A) (aS A) w W b ds, mk s') ∧ frT s s') ∧ (¬ rndOk (aT A) x y z → ∃ s' : zS, fX11_round n (mk s) 187 x y z = some (m1, mk s') ∧ frT s s') := by
  have hW := hA.1
  have h0 := hW.1
  have p2 := p2_le hW
  have ft := m_th s
  have hKt := mK_T hW hK ft
  obtain ⟨sa, ea⟩ : ∃ sa : zS, sa = wI s 187 2 (nI 0) := ⟨_, rfl⟩
  rw [← ea] at hKt ft
  obtain ⟨k1, k2, -⟩ := hKt
  have hP := fun y => m_isWalker hn k1 (x := y)
  have sh0 : ∀ j, j < 2147483648 → ((nI j >>> nI (aT A 0 1)) = nI 0) = (j < 2 ^ aT A 0 1) := by
    intro j hj
    rw [n_shr0 hj (by omega), Nat.shiftRight_eq_div_pow, n_eq (Nat.lt_of_le_of_lt (Nat.div_le_self _ _) hj) (by omega)]
    have := Nat.two_pow_pos (aT A 0 1)
    exact propext ⟨fun e => (Nat.div_eq_zero_iff.mp e).resolve_left (by omega), fun e => Nat.div_eq_of_lt e⟩
  refine ⟨fun w W b hw hW5 => ?_, fun h => ?_⟩
  · have hat := (hA.2.1.2.2.1 w hw).1
    have hc := rdC_le (b := b) hW hw
    obtain ⟨sb, d, eb, zb, ob, lb, hd, bd⟩ := m_settle (W := W) (c := rdC (aT A) w b) hn hW k1 k2 hA.2.1 hw (by omega) hc
    have hd' : lsL (stE (aT A) (aS A) w W (rdC (aT A) w b)) (512 * (aS A).2.2.1 0 w) (v0c (rdC (aT A) w b)) d := hd
    have hls := ls_c hW (by omega) (by omega) hc hd'
    have eq := rnd_eq hW hw hat (by omega) hd'
    by_cases w0 : W = 0
    · refine ⟨sa, _, hls, ?_, ft⟩
      rw [eq, if_pos w0]
      unfold fX11_round
      cases b <;> simp (disch := first | omega | assumption | (simp only [wL_1, wL_22, wI_2, wA_2, wQ_1, wQ_21] <;> first | assumption | omega)) only [LIT, LITm, nI_add, n_mul, fa_or, n_31m, n_shl0, n_le, n_lt, n_eq, Option.bind_some, B_m hn, ← ea, hP, inR_n hw (by omega), k1.1.2.1, sh0, w0, m_within, wiV_n, Bool.toNat_true, Bool.toNat_false, Nat.reduceEqDiff, Nat.reduceLeDiff, Nat.not_lt_zero, Nat.two_pow_pos, not_false_eq_true, not_true_eq_false, ↓reduceIte]
    · have hTb : mTd sb.1 (aT A) := mTd_fr k1 (fun b j hb => by rw [ob b (by omega) (by omega)])
      have lp := m_rd70 (b := b) (W := W) hn hW hTb (by omega) lb (fun j u hj => (bd j u hj).2)
      refine ⟨sb, _, hls, ?_, frT_t ft ⟨⟨by rw [zb], fun b j hb => by rw [ob b (fun q => hb (by unfold scM; omega)) (fun q => hb (by unfold scM; omega))], fun b j _ _ _ => by rw [zb]⟩, by rw [zb]⟩⟩
      rw [eq, if_neg w0]
      unfold fX11_round fX11_round_60
      cases b with
      | false =>
        have eb' : fX11_settle n (mk sa) 187 (nI w) (nI W) (nI 0) = some ((), mk sb) := eb
        have lp' : fX11_round_70 n bi_K (mk sb) 187 (nI W) (nI 0) m2 (nI 0) = _ := lp
        simp (disch := first | omega | assumption | (simp only [wL_1, wL_22, wI_2, wA_2, wQ_1, wQ_21] <;> first | assumption | omega)) only [LIT, LITm, nI_add, n_mul, fa_or, n_31m, n_shl0, n_le, n_lt, n_eq, Option.bind_some, B_m hn, ← ea, hP, inR_n hw (by omega), k1.1.2.1, sh0, hW5, w0, m_within, wiV_n, eb', lp', Bool.toNat_true, Bool.toNat_false, Nat.reduceEqDiff, Nat.reduceLeDiff, Nat.not_lt_zero, not_false_eq_true, not_true_eq_false, ↓reduceIte]
      | true =>
        have eb' : fX11_settle n (mk sa) 187 (nI w) (nI W) (nI (aT A 11 w)) = some ((), mk sb) := eb
        have lp' : fX11_round_70 n bi_K (mk sb) 187 (nI W) (nI 1) m2 (nI 0) = _ := lp
        simp (disch := first | omega | assumption | (simp only [wL_1, wL_22, wI_2, wA_2, wQ_1, wQ_21] <;> first | assumption | omega)) only [LIT, LITm, nI_add, n_mul, fa_or, n_31m, n_shl0, n_le, n_lt, n_eq, Option.bind_some, B_m hn, B_ma hn, B_mb hn, ← ea, hP, inR_n hw (by omega), k1.1.2.1, (k1.2.2.2.2.1 w hw).2.2.2, sh0, hW5, w0, m_within, wiV_n, eb', lp', Bool.toNat_true, Bool.toNat_false, Nat.reduceEqDiff, Nat.reduceLeDiff, Nat.not_lt_zero, not_false_eq_true, not_true_eq_false, ↓reduceIte]
  · refine ⟨sa, ?_, ft⟩
    unfold fX11_round
    cases g : inR x (aT A 0 2) with
    | false => simp (disch := first | omega | assumption | (simp only [wL_1, wL_22, wI_2, wA_2, wQ_1, wQ_21] <;> first | assumption | omega)) only [LIT, LITm, nI_add, n_mul, fa_or, n_31m, n_shl0, n_le, n_lt, n_eq, Option.bind_some, B_m hn, ← ea, hP, g, Bool.toNat_false, ↓reduceIte]
    | true =>
      by_cases y0 : y < nI 0
      · simp (disch := first | omega | assumption | (simp only [wL_1, wL_22, wI_2, wA_2, wQ_1, wQ_21] <;> first | assumption | omega)) only [LIT, LITm, nI_add, n_mul, fa_or, n_31m, n_shl0, n_le, n_lt, n_eq, Option.bind_some, B_m hn, ← ea, hP, g, y0, Bool.toNat_true, Nat.reduceEqDiff, Nat.reduceLeDiff, ↓reduceIte]
      · obtain ⟨j, hj, rfl⟩ := nI_of y0
        by_cases y1 : j < 2 ^ aT A 0 1
        · have gy : inR (nI j) (2 ^ aT A 0 1) = true := inR_n y1 (by omega)
          have g2 : wiV 0 z 1 = false := bF (fun q => h ⟨g, gy, q⟩)
          simp (disch := first | omega | assumption | (simp only [wL_1, wL_22, wI_2, wA_2, wQ_1, wQ_21] <;> first | assumption | omega)) only [LIT, LITm, nI_add, n_mul, fa_or, n_31m, n_shl0, n_le, n_lt, n_eq, Option.bind_some, B_m hn, ← ea, hP, g, y0, k1.1.2.1, sh0, y1, m_within, g2, Bool.toNat_true, Bool.toNat_false, Nat.reduceEqDiff, Nat.reduceLeDiff, not_true_eq_false, ↓reduceIte]
        · simp (disch := first | omega | assumption | (simp only [wL_1, wL_22, wI_2, wA_2, wQ_1, wQ_21] <;> first | assumption | omega)) only [LIT, LITm, nI_add, n_mul, fa_or, n_31m, n_shl0, n_le, n_lt, n_eq, Option.bind_some, B_m hn, ← ea, hP, g, y0, k1.1.2.1, sh0, y1, Bool.toNat_true, Nat.reduceEqDiff, Nat.reduceLeDiff, not_false_eq_true, ↓reduceIte]
end Mq
