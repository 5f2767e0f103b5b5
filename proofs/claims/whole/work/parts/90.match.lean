/-! ===== walkers matched with paths: the pure side ===== -/
/-- from one walker on all picks are tried, none last; a better sum stays -/
def mfV (C : Nat → Nat → Bool) (ag : Nat → Int32) : Nat → Nat → Nat → Int32 → (Nat → Int32) → Int32 × (Nat → Int32) → Int32 × (Nat → Int32)
  | 0 => fun _ _ x pk b => if x ≤ b.1 then b else (x, pk)
  | m + 1 => fun w U x pk b => mfV C ag m (w + 1) U x (upd pk w m2) (lpF (fun p b => if (C w p && !U.testBit p) = true then mfV C ag m (w + 1) (U ||| 2 ^ p) (x + ag p) (upd pk w (nI p)) b else b) 9 b)
/-- a code's first digits: which paths they use, and their ages in sum -/
def agp (C : Nat → Nat → Bool) (ag : Nat → Int32) (P : Nat) : Nat → Nat → Option (Nat × Int32)
  | 0, _ => some (0, nI 0)
  | w + 1, pre => match agp C ag P w (pre / (P + 1)) with
    | none => none
    | some q => if pre % (P + 1) = P then some q else if (C w (pre % (P + 1)) && !q.1.testBit (pre % (P + 1))) = true then some (q.1 ||| 2 ^ (pre % (P + 1)), q.2 + ag (pre % (P + 1))) else none
def pkp (P : Nat) : Nat → Nat → Nat → Int32
  | 0, _ => fun _ => m2
  | w + 1, pre => upd (pkp P w (pre / (P + 1))) w (if pre % (P + 1) = P then m2 else nI (pre % (P + 1)))
section Ma
variable {C : Nat → Nat → Bool} {ag : Nat → Int32} {P W w m pre lo k U : Nat} {q : Int32 × Int32} {b : Int32 × (Nat → Int32)} {x : Int32}
def stp (C : Nat → Nat → Bool) (ag : Nat → Int32) (P W : Nat) (c : Nat) (q : Int32 × Int32) : Int32 × Int32 := match agp C ag P W c with
  | none => q
  | some r => if r.2 ≤ q.2 then q else (nI c, r.2)
/-- so many codes from one on -/
def fdR (C : Nat → Nat → Bool) (ag : Nat → Int32) (P W lo : Nat) : Nat → Int32 × Int32 → Int32 × Int32
  | 0, q => q
  | k + 1, q => stp C ag P W (lo + k) (fdR C ag P W lo k q)
theorem fdR_add {a : Nat} : ∀ b q, fdR C ag P W lo (a + b) q = fdR C ag P W (lo + a) b (fdR C ag P W lo a q)
  | 0, q => rfl
  | b + 1, q => by
    show stp C ag P W (lo + (a + b)) (fdR C ag P W lo (a + b) q) = stp C ag P W (lo + a + b) (fdR C ag P W (lo + a) b (fdR C ag P W lo a q))
    rw [fdR_add b q, Nat.add_assoc]
theorem agp_s : agp C ag P (w + 1) pre = match agp C ag P w (pre / (P + 1)) with
    | none => none
    | some q => if pre % (P + 1) = P then some q else if (C w (pre % (P + 1)) && !q.1.testBit (pre % (P + 1))) = true then some (q.1 ||| 2 ^ (pre % (P + 1)), q.2 + ag (pre % (P + 1))) else none := rfl
theorem agp_none : ∀ m w c, agp C ag P w (c / (P + 1) ^ m) = none → agp C ag P (w + m) c = none
  | 0, w, c, h => by
    rw [Nat.pow_zero, Nat.div_one] at h
    exact h
  | m + 1, w, c, h => by
    have e : c / (P + 1) ^ (m + 1) = c / (P + 1) / (P + 1) ^ m := by rw [Nat.div_div_eq_div_mul, Nat.pow_succ, Nat.mul_comm]
    rw [e] at h
    have ih := agp_none m w (c / (P + 1)) h
    show agp C ag P (w + m + 1) c = none
    rw [agp_s, ih]
theorem fdR_id : ∀ k, (∀ j, j < k → agp C ag P W (lo + j) = none) → fdR C ag P W lo k q = q
  | 0, _ => rfl
  | k + 1, h => by
    show stp C ag P W (lo + k) (fdR C ag P W lo k q) = q
    rw [fdR_id k (fun j hj => h j (by omega))]
    unfold stp
    rw [h k (by omega)]
def relq (C : Nat → Nat → Bool) (ag : Nat → Int32) (P W : Nat) (q : Int32 × Int32) (b : Int32 × (Nat → Int32)) : Prop := q.2 = b.1 ∧ m1 ≤ q.2 ∧ (q.2 = m1 ∨ ∃ c, c < (P + 1) ^ W ∧ q.1 = nI c ∧ (∃ U, agp C ag P W c = some (U, q.2)) ∧ b.2 = pkp P W c)
theorem le_of_nle {x y : Int32} (h : ¬ x ≤ y) (g : m1 ≤ y) : m1 ≤ x := by
  rw [fa_le] at h g ⊢
  omega
theorem rel_all : ∀ m w pre U x q b, w + m = W → pre < (P + 1) ^ w → agp C ag P w pre = some (U, x) → (∀ v p, P ≤ p → C v p = false) → P ≤ 9 → relq C ag P W q b → relq C ag P W (fdR C ag P W (pre * (P + 1) ^ m) ((P + 1) ^ m) q) (mfV C ag m w U x (pkp P w pre) b)
  | 0, w, pre, U, x, q, b, hw, hp, ha, hC, h9, hr => by
    rw [Nat.add_zero] at hw
    rw [hw] at hp ha ⊢
    rw [Nat.pow_zero, Nat.mul_one]
    show relq C ag P W (stp C ag P W (pre + 0) q) (if x ≤ b.1 then b else (x, pkp P W pre))
    unfold stp
    rw [Nat.add_zero, ha]
    show relq C ag P W (if x ≤ q.2 then q else (nI pre, x)) (if x ≤ b.1 then b else (x, pkp P W pre))
    rw [← hr.1]
    by_cases g : x ≤ q.2
    · rw [if_pos g, if_pos g]
      exact hr
    · rw [if_neg g, if_neg g]
      exact ⟨rfl, le_of_nle g hr.2.1, Or.inr ⟨pre, hp, rfl, ⟨U, ha⟩, rfl⟩⟩
  | m + 1, w, pre, U, x, q, b, hw, hp, ha, hC, h9, hr => by
    have hpos : 0 < (P + 1) ^ m := Nat.pow_pos (by omega)
    have d1 : ∀ k, k < P + 1 → (pre * (P + 1) + k) / (P + 1) = pre := fun k hk => by
      rw [Nat.mul_comm, Nat.mul_add_div (by omega), Nat.div_eq_of_lt hk, Nat.add_zero]
    have d2 : ∀ k, k < P + 1 → (pre * (P + 1) + k) % (P + 1) = k := fun k hk => by
      rw [Nat.mul_comm, Nat.mul_add_mod, Nat.mod_eq_of_lt hk]
    have hpk : ∀ k, k < P + 1 → pre * (P + 1) + k < (P + 1) ^ (w + 1) := fun k hk => by
      rw [Nat.pow_succ]
      have := Nat.mul_le_mul_right (P + 1) (Nat.succ_le_of_lt hp)
      rw [Nat.succ_mul] at this
      omega
    have agk : ∀ k, k < P + 1 → agp C ag P (w + 1) (pre * (P + 1) + k) = if k = P then some (U, x) else if (C w k && !U.testBit k) = true then some (U ||| 2 ^ k, x + ag k) else none := fun k hk => by
      rw [agp_s, d1 k hk, d2 k hk, ha]
    have pkk : ∀ k, k < P + 1 → pkp P (w + 1) (pre * (P + 1) + k) = upd (pkp P w pre) w (if k = P then m2 else nI k) := fun k hk => by
      show upd (pkp P w ((pre * (P + 1) + k) / (P + 1))) w (if (pre * (P + 1) + k) % (P + 1) = P then m2 else nI ((pre * (P + 1) + k) % (P + 1))) = _
      rw [d1 k hk, d2 k hk]
    have lo_eq : ∀ k, pre * (P + 1) ^ (m + 1) + k * (P + 1) ^ m = (pre * (P + 1) + k) * (P + 1) ^ m := fun k => by
      rw [Nat.pow_succ, Nat.add_mul, Nat.mul_assoc, Nat.mul_comm ((P + 1) ^ m)]
    have chunks : ∀ k, k ≤ P → relq C ag P W (fdR C ag P W (pre * (P + 1) ^ (m + 1)) (k * (P + 1) ^ m) q) (lpF (fun p b => if (C w p && !U.testBit p) = true then mfV C ag m (w + 1) (U ||| 2 ^ p) (x + ag p) (upd (pkp P w pre) w (nI p)) b else b) k b) := by
      intro k
      induction k with
      | zero =>
        intro _
        rw [Nat.zero_mul]
        exact hr
      | succ k ih =>
        intro hk
        have ih := ih (by omega)
        rw [Nat.succ_mul, fdR_add, lo_eq k]
        show relq C ag P W _ (if (C w k && !U.testBit k) = true then mfV C ag m (w + 1) (U ||| 2 ^ k) (x + ag k) (upd (pkp P w pre) w (nI k)) _ else _)
        have ek := agk k (by omega)
        rw [if_neg (show k ≠ P by omega)] at ek
        by_cases g : (C w k && !U.testBit k) = true
        · rw [if_pos g] at ek ⊢
          have pk' := pkk k (by omega)
          rw [if_neg (show k ≠ P by omega)] at pk'
          rw [← pk']
          exact rel_all m (w + 1) (pre * (P + 1) + k) _ _ _ _ (by omega) (hpk k (by omega)) ek hC h9 ih
        · rw [if_neg g] at ek ⊢
          rw [fdR_id]
          · exact ih
          · intro j hj
            have : (pre * (P + 1) + k) * (P + 1) ^ m + j < (P + 1) ^ W ∨ True := Or.inr trivial
            have e : ((pre * (P + 1) + k) * (P + 1) ^ m + j) / (P + 1) ^ m = pre * (P + 1) + k := by
              rw [Nat.mul_comm, Nat.mul_add_div hpos, Nat.div_eq_of_lt hj, Nat.add_zero]
            have := agp_none (C := C) (ag := ag) (P := P) m (w + 1) ((pre * (P + 1) + k) * (P + 1) ^ m + j) (by rw [e]; exact ek)
            rwa [show w + 1 + m = W by omega] at this
    have c := chunks P (Nat.le_refl _)
    have eP := agk P (by omega)
    rw [if_pos rfl] at eP
    have pk' := pkk P (by omega)
    rw [if_pos rfl] at pk'
    have fin := rel_all m (w + 1) (pre * (P + 1) + P) _ _ _ _ (by omega) (hpk P (by omega)) eP hC h9 c
    rw [pk', ← lo_eq P, ← fdR_add, ← Nat.succ_mul, ← Nat.pow_succ'] at fin
    have l9 : lpF (fun p b => if (C w p && !U.testBit p) = true then mfV C ag m (w + 1) (U ||| 2 ^ p) (x + ag p) (upd (pkp P w pre) w (nI p)) b else b) 9 b = lpF (fun p b => if (C w p && !U.testBit p) = true then mfV C ag m (w + 1) (U ||| 2 ^ p) (x + ag p) (upd (pkp P w pre) w (nI p)) b else b) P b := lpF_id h9 (fun k hk _ => by rw [hC w k hk, Bool.false_and, if_neg Bool.false_ne_true])
    show relq C ag P W _ (mfV C ag m (w + 1) U x (upd (pkp P w pre) w m2) _)
    rw [l9]
    exact fin
theorem agp_last : ∀ w, agp C ag P w ((P + 1) ^ w - 1) = some (0, nI 0)
  | 0 => rfl
  | w + 1 => by
    have hpos : 0 < (P + 1) ^ w := Nat.pow_pos (by omega)
    obtain ⟨k, hk⟩ : ∃ k, (P + 1) ^ w = k + 1 := ⟨(P + 1) ^ w - 1, by omega⟩
    have ih := agp_last w
    rw [hk] at ih
    have e : (P + 1) ^ (w + 1) - 1 = k * (P + 1) + P := by
      rw [Nat.pow_succ, hk, Nat.succ_mul]
      omega
    rw [agp_s, e, Nat.mul_comm, Nat.mul_add_div (by omega), Nat.mul_add_mod, Nat.div_eq_of_lt (by omega), Nat.mod_eq_of_lt (by omega), Nat.add_zero]
    rw [show k + 1 - 1 = k by omega] at ih
    rw [ih]
    show (if P = P then some (0, nI 0) else _) = _
    rw [if_pos rfl]
theorem fdR_end (hq : m1 ≤ q.2) : (fdR C ag P W 0 ((P + 1) ^ W) q).2 ≠ m1 := by
  have hpos : 0 < (P + 1) ^ W := Nat.pow_pos (by omega)
  obtain ⟨k, hk⟩ : ∃ k, (P + 1) ^ W = k + 1 := ⟨(P + 1) ^ W - 1, by omega⟩
  have l := agp_last (C := C) (ag := ag) (P := P) W
  rw [hk, show k + 1 - 1 = k by omega] at l
  rw [hk]
  show (stp C ag P W (0 + k) (fdR C ag P W 0 k q)).2 ≠ m1
  unfold stp
  rw [Nat.zero_add, l]
  show (if nI 0 ≤ (fdR C ag P W 0 k q).2 then fdR C ag P W 0 k q else (nI k, nI 0)).2 ≠ m1
  by_cases g : nI 0 ≤ (fdR C ag P W 0 k q).2
  · rw [if_pos g]
    intro e
    rw [e] at g
    exact absurd g (by decide)
  · rw [if_neg g]
    show nI 0 ≠ m1
    decide
/-- a code's digits -/
def dgt (P W c j : Nat) : Nat := c / (P + 1) ^ (W - 1 - j) % (P + 1)
theorem pkp_d : ∀ W c j, j < W → pkp P W c j = if dgt P W c j = P then m2 else nI (dgt P W c j)
  | 0, c, j, h => absurd h (Nat.not_lt_zero j)
  | W + 1, c, j, h => by
    show upd (pkp P W (c / (P + 1))) W (if c % (P + 1) = P then m2 else nI (c % (P + 1))) j = _
    by_cases q : j = W
    · rw [q, upd_at]
      unfold dgt
      rw [show W + 1 - 1 - W = 0 by omega, Nat.pow_zero, Nat.div_one]
    · rw [upd_ne q, pkp_d W (c / (P + 1)) j (by omega)]
      have e : dgt P W (c / (P + 1)) j = dgt P (W + 1) c j := by
        unfold dgt
        rw [Nat.div_div_eq_div_mul, ← Nat.pow_succ', show (W - 1 - j).succ = W + 1 - 1 - j by omega]
      rw [e]
theorem pkp_out : ∀ W c j, W ≤ j → pkp P W c j = m2
  | 0, c, j, h => rfl
  | W + 1, c, j, h => by
    show upd (pkp P W (c / (P + 1))) W _ j = m2
    rw [upd_ne (by omega)]
    exact pkp_out W _ j (by omega)
end Ma
