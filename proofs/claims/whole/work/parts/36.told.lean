/-! ===== what a text told, as numbers (T), in the class's cells ===== -/
def cTd (I : Nat → Nat → Int32) (t : Nat) (T : Nat → Nat → Nat) : Prop :=
  (I (t + 1) 4 = nI (T 0 0) ∧ I (t + 4) 4 = nI (T 0 1) ∧ I (t + 7) 4 = nI (T 0 2) ∧ I (t + 10) 4 = nI (T 0 3) ∧ I (t + 13) 4 = nI (T 0 4)) ∧
  (I (t + 16) 5 = nI (T 0 5) ∧ I t 6 = nI (T 0 6) ∧ I t 7 = nI (T 0 7) ∧ I t 8 = nI (T 0 8)) ∧
  (∀ i, i < T 0 0 → I (t + 2) i = nI (T 1 i)) ∧
  (∀ p, p < T 0 1 → I (t + 5) p = nI (T 2 p) ∧ ∀ c, c < 5 → I (t + 6) (p * 5 + c) = nI (T (3 + c) p)) ∧
  (∀ w, w < T 0 2 → I (t + 8) w = nI (T 8 w) ∧ ∀ c, c < 3 → I (t + 9) (w * 3 + c) = nI (T (9 + c) w)) ∧
  (∀ k, k < T 0 3 → ∀ c, c < 3 → I (t + 12) (k * 3 + c) = nI (T (12 + c) k)) ∧
  (∀ b, b < T 0 4 → ∀ c, c < 3 → I (t + 15) (b * 3 + c) = nI (T (15 + c) b)) ∧
  (∀ w, w < 3 → (T 18 w = 0 → I (t + 17) w = nI 0 ∧ I (t + 18) w = nI 0) ∧ (T 18 w ≠ 0 → I (t + 17) w = nI (T 19 w) ∧ I (t + 18) w = nI (T 20 w) ∧ ∀ i, T 19 w ≤ i → i < T 20 w → I (t + 19) i = nI (T 21 i) ∧ I (t + 20) i = nI (T 22 i)))
/-- one sign of a law, and which values are there ahead of it and behind it -/
def wfS (T : Nat → Nat → Nat) (i : Nat) (l l' : List Nat) : Prop :=
  (((T 21 i = 23 ∧ T 22 i ≤ 9999) ∨ (15 ≤ T 21 i ∧ T 21 i ≤ 21)) ∧ l' = i :: l) ∨ (T 21 i = 14 ∧ ∃ a r, l = a :: r ∧ l' = i :: r) ∨
  ((T 21 i = 12 ∨ T 21 i = 13 ∨ (27 ≤ T 21 i ∧ T 21 i ≤ 36)) ∧ ∃ b a r, l = b :: a :: r ∧ l' = i :: r)
def wfL (T : Nat → Nat → Nat) (a b : Nat) : Prop := a < b ∧ b ≤ 64 ∧ ∃ H : Nat → List Nat, H a = [] ∧ H b = [b - 1] ∧ ∀ i, a ≤ i → i < b → wfS T i (H i) (H (i + 1))
def WT (T : Nat → Nat → Nat) : Prop :=
  (T 0 0 ≤ 7 ∧ T 0 1 ≤ 9 ∧ T 0 2 ≤ 4 ∧ T 0 3 ≤ 12 ∧ T 0 4 ≤ 6) ∧ (T 0 5 ≤ 64 ∧ 1 ≤ T 0 6 ∧ T 0 6 ≤ 400 ∧ T 0 7 ≤ 100 ∧ T 0 8 ≤ 99999) ∧
  (∀ p, p < T 0 1 → T 3 p < T 0 0 ∧ T 4 p < T 0 0 ∧ T 3 p ≠ T 4 p ∧ 1 ≤ T 5 p ∧ T 5 p ≤ 99 ∧ T 6 p ≤ 9 ∧ T 7 p ≤ 399) ∧
  (∀ w, w < T 0 2 → T 9 w < T 0 0 ∧ T 10 w ≤ 9 ∧ 1 ≤ T 11 w ∧ T 11 w ≤ 99) ∧
  (∀ k, k < T 0 3 → T 12 k < T 0 2 ∧ T 13 k < T 0 1 ∧ T 14 k ≤ 99) ∧
  (∀ b, b < T 0 4 → T 15 b < T 0 1 ∧ T 16 b ≤ 99 ∧ T 17 b ≤ 99) ∧
  (∀ w, w < 3 → T 18 w ≠ 0 → wfL T (T 19 w) (T 20 w))
theorem cTd_fr {I I' : Nat → Nat → Int32} {t : Nat} {T : Nat → Nat → Nat} (h : cTd I t T) (e : ∀ a, t ≤ a → a ≤ t + 22 → I' a = I a) : cTd I' t T := by
  unfold cTd
  rw [e (t + 1) (by omega) (by omega), e (t + 4) (by omega) (by omega), e (t + 7) (by omega) (by omega), e (t + 10) (by omega) (by omega), e (t + 13) (by omega) (by omega), e (t + 16) (by omega) (by omega), e t (by omega) (by omega), e (t + 2) (by omega) (by omega), e (t + 5) (by omega) (by omega), e (t + 6) (by omega) (by omega), e (t + 8) (by omega) (by omega), e (t + 9) (by omega) (by omega), e (t + 12) (by omega) (by omega), e (t + 15) (by omega) (by omega), e (t + 17) (by omega) (by omega), e (t + 18) (by omega) (by omega), e (t + 19) (by omega) (by omega), e (t + 20) (by omega) (by omega)]
  exact h
theorem cTd_wI {s : zS} {t a j : Nat} {x : Int32} {T : Nat → Nat → Nat} (e : a < t ∨ t + 22 < a) (h : cTd s.1 t T) : cTd (wI s a j x).1 t T := cTd_fr h (fun b h1 h2 => wI_ne (by omega))
theorem cTd_wA {s : zS} {t a : Nat} {f : Nat → Int32} {T : Nat → Nat → Nat} (e : a < t ∨ t + 22 < a) (h : cTd s.1 t T) : cTd (wA s a f).1 t T := cTd_fr h (fun b h1 h2 => wA_ne (by omega))
section Td
variable {n t : Nat} {s : zS} {T : Nat → Nat → Nat}
theorem c_cell {a r W m p c : Nat} {v : Int32} (k0 : kO n (mk s) a 6 = some ()) (k1 : pI n (mk s) a 6 1 = some (nI W)) (k3 : pR n (mk s) a 6 3 = some r) (k4 : pI n (mk s) a 6 4 = some (nI m)) (hg : gX 1 n (mk s) r (nI (p * W + c)) = some v) (hp : p < m) (hm : m < 2 ^ 31) (hc : c < W) (hW : W < 2 ^ 31) : fX6_cell n (mk s) a (nI p) (nI c) = some (v, mk s) := by
  unfold fX6_cell
  simp (disch := omega) only [LIT, LITm, nI_add, n_mul, fa_and, fa_or, n_shl1, n_le, n_lt, n_eq, Option.bind_some, k0, k1, k3, k4, hg]
  rw [if_neg (by omega), if_neg (by omega), if_neg (by omega), if_pos hc]
theorem c_cell0 {a m p : Nat} {x : Int32} (k0 : kO n (mk s) a 6 = some ()) (k4 : pI n (mk s) a 6 4 = some (nI m)) (hp : m ≤ p) (hm : m < 2 ^ 31) (hp2 : p < 2 ^ 31) : fX6_cell n (mk s) a (nI p) x = some (nI 0, mk s) := by
  unfold fX6_cell
  simp (disch := omega) only [LIT, LITm, nI_add, n_mul, fa_and, fa_or, n_shl1, n_le, n_lt, n_eq, Option.bind_some, k0, k4]
  rw [if_neg (by omega), if_pos (by omega)]
theorem CTc (hn : 239 ≤ n) (ht : t = 6 ∨ t = 29) (hW : WT T) (hT : cTd s.1 t T) :
    (∀ p c, p < T 0 1 → c < 5 → fX6_cell n (mk s) (t + 4) (nI p) (nI c) = some (nI (T (3 + c) p), mk s)) ∧
    (∀ w c, w < T 0 2 → c < 3 → fX6_cell n (mk s) (t + 7) (nI w) (nI c) = some (nI (T (9 + c) w), mk s)) ∧
    (∀ k c, k < T 0 3 → c < 3 → fX6_cell n (mk s) (t + 10) (nI k) (nI c) = some (nI (T (12 + c) k), mk s)) ∧
    (∀ b c, b < T 0 4 → c < 3 → fX6_cell n (mk s) (t + 13) (nI b) (nI c) = some (nI (T (15 + c) b), mk s)) ∧
    (∀ p x, T 0 1 ≤ p → p < 2 ^ 31 → fX6_cell n (mk s) (t + 4) (nI p) x = some (nI 0, mk s)) ∧
    (∀ w x, T 0 2 ≤ w → w < 2 ^ 31 → fX6_cell n (mk s) (t + 7) (nI w) x = some (nI 0, mk s)) := by
  obtain ⟨⟨h0, h1, h2, h3, h4⟩, -, -, hp, hw, hk, hb, -⟩ := hT
  obtain ⟨⟨w0, w1, w2, w3, w4⟩, -⟩ := hW
  have B := B_t hn ht
  refine ⟨?_, ?_, ?_, ?_, ?_, ?_⟩
  · intro p c h5 hc
    refine c_cell (W := 5) (m := T 0 1) (r := t + 6) ?_ ?_ ?_ ?_ ?_ h5 (by omega) hc (by decide) <;> simp (disch := omega) only [B, h1, (hp p h5).2 c hc]
  · intro p c h5 hc
    refine c_cell (W := 3) (m := T 0 2) (r := t + 9) ?_ ?_ ?_ ?_ ?_ h5 (by omega) hc (by decide) <;> simp (disch := omega) only [B, h2, (hw p h5).2 c hc]
  · intro p c h5 hc
    refine c_cell (W := 3) (m := T 0 3) (r := t + 12) ?_ ?_ ?_ ?_ ?_ h5 (by omega) hc (by decide) <;> simp (disch := omega) only [B, h3, hk p h5 c hc]
  · intro p c h5 hc
    refine c_cell (W := 3) (m := T 0 4) (r := t + 15) ?_ ?_ ?_ ?_ ?_ h5 (by omega) hc (by decide) <;> simp (disch := omega) only [B, h4, hb p h5 c hc]
  · intro p x h5 h6
    refine c_cell0 (m := T 0 1) ?_ ?_ h5 (by omega) h6 <;> simp (disch := omega) only [B, h1]
  · intro p x h5 h6
    refine c_cell0 (m := T 0 2) ?_ ?_ h5 (by omega) h6 <;> simp (disch := omega) only [B, h2]
end Td
/-- cells of tables, as rules for every heap in which the class has T -/
theorem CT {n t : Nat} {T : Nat → Nat → Nat} (hn : 239 ≤ n) (ht : t = 6 ∨ t = 29) (hW : WT T) :
    (∀ (s : zS) (p : Nat), cTd s.1 t T → p < T 0 1 → fX6_cell n (mk s) (t + 4) (nI p) (nI 0) = some (nI (T 3 p), mk s)) ∧
    (∀ (s : zS) (p : Nat), cTd s.1 t T → p < T 0 1 → fX6_cell n (mk s) (t + 4) (nI p) (nI 1) = some (nI (T 4 p), mk s)) ∧
    (∀ (s : zS) (p : Nat), cTd s.1 t T → p < T 0 1 → fX6_cell n (mk s) (t + 4) (nI p) (nI 2) = some (nI (T 5 p), mk s)) ∧
    (∀ (s : zS) (p : Nat), cTd s.1 t T → p < T 0 1 → fX6_cell n (mk s) (t + 4) (nI p) (nI 3) = some (nI (T 6 p), mk s)) ∧
    (∀ (s : zS) (p : Nat), cTd s.1 t T → p < T 0 1 → fX6_cell n (mk s) (t + 4) (nI p) (nI 4) = some (nI (T 7 p), mk s)) ∧
    (∀ (s : zS) (p : Nat), cTd s.1 t T → p < T 0 2 → fX6_cell n (mk s) (t + 7) (nI p) (nI 0) = some (nI (T 9 p), mk s)) ∧
    (∀ (s : zS) (p : Nat), cTd s.1 t T → p < T 0 2 → fX6_cell n (mk s) (t + 7) (nI p) (nI 1) = some (nI (T 10 p), mk s)) ∧
    (∀ (s : zS) (p : Nat), cTd s.1 t T → p < T 0 2 → fX6_cell n (mk s) (t + 7) (nI p) (nI 2) = some (nI (T 11 p), mk s)) ∧
    (∀ (s : zS) (p : Nat), cTd s.1 t T → p < T 0 3 → fX6_cell n (mk s) (t + 10) (nI p) (nI 0) = some (nI (T 12 p), mk s)) ∧
    (∀ (s : zS) (p : Nat), cTd s.1 t T → p < T 0 3 → fX6_cell n (mk s) (t + 10) (nI p) (nI 1) = some (nI (T 13 p), mk s)) ∧
    (∀ (s : zS) (p : Nat), cTd s.1 t T → p < T 0 3 → fX6_cell n (mk s) (t + 10) (nI p) (nI 2) = some (nI (T 14 p), mk s)) ∧
    (∀ (s : zS) (p : Nat), cTd s.1 t T → p < T 0 4 → fX6_cell n (mk s) (t + 13) (nI p) (nI 0) = some (nI (T 15 p), mk s)) ∧
    (∀ (s : zS) (p : Nat), cTd s.1 t T → p < T 0 4 → fX6_cell n (mk s) (t + 13) (nI p) (nI 1) = some (nI (T 16 p), mk s)) ∧
    (∀ (s : zS) (p : Nat), cTd s.1 t T → p < T 0 4 → fX6_cell n (mk s) (t + 13) (nI p) (nI 2) = some (nI (T 17 p), mk s)) ∧
    (∀ (s : zS), cTd s.1 t T → pI n (mk s) (t + 1) 6 4 = some (nI (T 0 0))) ∧
    (∀ (s : zS), cTd s.1 t T → pI n (mk s) (t + 4) 6 4 = some (nI (T 0 1))) ∧
    (∀ (s : zS), cTd s.1 t T → pI n (mk s) (t + 7) 6 4 = some (nI (T 0 2))) ∧
    (∀ (s : zS), cTd s.1 t T → pI n (mk s) (t + 10) 6 4 = some (nI (T 0 3))) ∧
    (∀ (s : zS), cTd s.1 t T → pI n (mk s) (t + 13) 6 4 = some (nI (T 0 4))) ∧
    (∀ (s : zS), cTd s.1 t T → pI n (mk s) (t + 16) 2 5 = some (nI (T 0 5))) ∧
    (∀ (s : zS), cTd s.1 t T → pI n (mk s) t 8 6 = some (nI (T 0 6))) ∧
    (∀ (s : zS), cTd s.1 t T → pI n (mk s) t 8 7 = some (nI (T 0 7))) ∧
    (∀ (s : zS), cTd s.1 t T → pI n (mk s) t 8 8 = some (nI (T 0 8))) :=
  ⟨fun s p h hp => (CTc hn ht hW h).1 p 0 hp (by decide), fun s p h hp => (CTc hn ht hW h).1 p 1 hp (by decide), fun s p h hp => (CTc hn ht hW h).1 p 2 hp (by decide), fun s p h hp => (CTc hn ht hW h).1 p 3 hp (by decide), fun s p h hp => (CTc hn ht hW h).1 p 4 hp (by decide),
   fun s p h hp => (CTc hn ht hW h).2.1 p 0 hp (by decide), fun s p h hp => (CTc hn ht hW h).2.1 p 1 hp (by decide), fun s p h hp => (CTc hn ht hW h).2.1 p 2 hp (by decide),
   fun s p h hp => (CTc hn ht hW h).2.2.1 p 0 hp (by decide), fun s p h hp => (CTc hn ht hW h).2.2.1 p 1 hp (by decide), fun s p h hp => (CTc hn ht hW h).2.2.1 p 2 hp (by decide),
   fun s p h hp => (CTc hn ht hW h).2.2.2.1 p 0 hp (by decide), fun s p h hp => (CTc hn ht hW h).2.2.2.1 p 1 hp (by decide), fun s p h hp => (CTc hn ht hW h).2.2.2.1 p 2 hp (by decide),
   fun s h => by simp only [B_t hn ht]; rw [h.1.1],
   fun s h => by simp only [B_t hn ht]; rw [h.1.2.1],
   fun s h => by simp only [B_t hn ht]; rw [h.1.2.2.1],
   fun s h => by simp only [B_t hn ht]; rw [h.1.2.2.2.1],
   fun s h => by simp only [B_t hn ht]; rw [h.1.2.2.2.2],
   fun s h => by simp only [B_t hn ht]; rw [h.2.1.1],
   fun s h => by simp only [B_t hn ht]; rw [h.2.1.2.1],
   fun s h => by simp only [B_t hn ht]; rw [h.2.1.2.2.1],
   fun s h => by simp only [B_t hn ht]; rw [h.2.1.2.2.2]⟩
/-! names in rows -/
def fdS (f : Nat → Nat) (m : Nat) (x : Int32) : Nat → Nat → Int32
  | 0, _ => m1
  | k + 1, i => if nI (f i) = x then nI i else fdS f m x k (i + 1)
theorem c_find {n : Nat} {s : zS} {a r m : Nat} {x : Int32} {f : Nat → Nat} (k0 : kO n (mk s) a 6 = some ()) (k2 : pR n (mk s) a 6 2 = some r) (k4 : pI n (mk s) a 6 4 = some (nI m)) (hm : m < 2 ^ 31) (hg : ∀ i, i < m → gX 1 n (mk s) r (nI i) = some (nI (f i))) : fX6_find n (mk s) a x = some (fdS f m x m 0, mk s) := by
  unfold fX6_find
  simp only [k0, Option.bind_some, LIT]
  refine lp_up (F := fun k (_ : Unit) i => fX6_find_2 n k (mk s) a x (nI i)) (N := m) (P := fun i _ => fdS f m x m 0 = fdS f m x (m - i) i) (Q := fun r => r = some (fdS f m x m 0, mk s)) ?_ ?_ m bi_K () 0 (by omega) (by unfold bi_K; omega) (by rfl)
  · intro k _ i hi hP
    simp (disch := omega) only [fX6_find_2, fX6_find_2b, LIT, LITm, nI_add, n_mul, fa_and, fa_or, n_shl1, n_le, n_lt, n_eq, Option.bind_some, k2, k4, hg]
    rw [if_neg (by omega)]
    obtain ⟨j, hj⟩ : ∃ j, m - i = j + 1 := ⟨m - i - 1, by omega⟩
    rw [hj] at hP
    by_cases h : nI (f i) = x
    · right
      rw [if_neg (by simpa using h), hP, fdS, if_pos h]
    · left
      refine ⟨(), by rw [if_pos h], ?_⟩
      rw [hP, fdS, if_neg h, show m - (i + 1) = j by omega]
  · intro k _ hP
    simp (disch := omega) only [fX6_find_2, fX6_find_2b, LIT, LITm, nI_add, n_mul, fa_and, fa_or, n_shl1, n_le, n_lt, n_eq, Option.bind_some, k4]
    rw [if_pos (by omega), hP, Nat.sub_self, fdS]
