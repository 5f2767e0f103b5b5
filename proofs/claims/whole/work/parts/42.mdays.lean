/-! ===== a law's value and the days, by the reference ===== -/
def frQ (s s' : zS) : Prop := s'.2.2 = s.2.2 ∧ (∀ a j, ¬ (a = 187 ∧ j = 59) → s'.1 a j = s.1 a j) ∧ ∀ a, a ≠ 217 → a ≠ 218 → s'.2.1 a = s.2.1 a
theorem frQ_r {s : zS} : frQ s s := ⟨rfl, fun _ _ _ => rfl, fun _ _ _ => rfl⟩
theorem frQ_t {s s1 s2 : zS} (h : frQ s s1) (g : frQ s1 s2) : frQ s s2 := ⟨g.1.trans h.1, fun a j ha => (g.2.1 a j ha).trans (h.2.1 a j ha), fun a h1 h2 => (g.2.2 a h1 h2).trans (h.2.2 a h1 h2)⟩
theorem frE_Q {s s' : zS} (h : frE s s') : frQ s s' := ⟨by rw [h.1], h.2, fun a _ _ => by rw [h.1]⟩
theorem map_upd {V : Nat → Int64} {i : Nat} {v : Int64} : ∀ {r : List Nat}, (∀ x, x ∈ r → x < i) → r.map (vp_updL V i v) = r.map V
  | [], _ => rfl
  | x :: r, h => by
    rw [List.map_cons, List.map_cons, map_upd (fun y hy => h y (List.mem_cons_of_mem _ hy)), updL_ne (by have := h x List.mem_cons_self; omega)]
section Mv
variable {n i k e w : Nat} {s : zS} {T : zT}
theorem m_val (hn : 239 ≤ n) (hi : i < 64) (he : s.1 187 59 = nI e) (he1 : e ≤ 1) {l l' : List Nat} (hs : wfS T i l l') (hm : mkS s.1 T i l) (hl : ∀ x, x ∈ l → x < i) {nm : Nat → Int64} (hN : ∀ j, j < 7 → s.2.1 217 j = nm j) (hb : e = 0 → bdl (l.map (s.2.1 218))) : ∃ (v : Int64) (s' : zS) (e' : Nat), fX11_valueOf n (mk s) 187 (nI i) = some (v, mk s') ∧ frE s s' ∧ e' ≤ 1 ∧ s'.1 187 59 = nI e' ∧ (e = 1 → e' = 1) ∧ (e = 0 → (e' = 0 ∧ stV T nm i (l.map (s.2.1 218)) = some (l'.map (vp_updL (s.2.1 218) i v))) ∨ (e' = 1 ∧ stV T nm i (l.map (s.2.1 218)) = none)) := by
  obtain ⟨k1, k2, k3, k4⟩ := hm
  rcases hs with ⟨⟨h1, h2⟩ | h1, e1⟩ | ⟨h1, c, r, e1, e2⟩ | ⟨h1, d, c, r, e1, e2⟩
  · obtain ⟨q1, q2⟩ := k1 h1
    refine ⟨lN (T 22 i), s, e, ?_, frE_r, he1, he, fun h => h, fun h0 => Or.inl ⟨h0, ?_⟩⟩
    · unfold fX11_valueOf
      rw [bnd_s (v := ()) (by simp only [B_m hn]), bnd_s (v := 212) (by simp only [B_m hn]), bnd_s (v := nI 0) (by simp (disch := first | omega | assumption | (simp only [wL_1, wL_22, wI_2, wA_2, wQ_1, wQ_21] <;> first | assumption | omega)) only [B_mb hn, q1]), if_neg (by decide)]
      simp (disch := first | omega | assumption | (simp only [wL_1, wL_22, wI_2, wA_2, wQ_1, wQ_21] <;> first | assumption | omega)) only [LIT, LITm, nI_add, n_mul, fa_or, n_31m, n_shl0, n_le, n_lt, n_eq, Option.bind_some, B_m hn, B_mb hn, q2, nI_l]
    · unfold stV
      rw [if_pos h1, e1, List.map_cons, map_upd hl, updL_at]
  · obtain ⟨q1, q2⟩ := k2 h1
    refine ⟨nm (T 21 i - 15), s, e, ?_, frE_r, he1, he, fun h => h, fun h0 => Or.inl ⟨h0, ?_⟩⟩
    · unfold fX11_valueOf
      simp (disch := first | omega | assumption | (simp only [wL_1, wL_22, wI_2, wA_2, wQ_1, wQ_21] <;> first | assumption | omega)) only [LIT, LITm, nI_add, n_mul, fa_or, n_31m, n_shl0, n_le, n_lt, n_eq, Option.bind_some, B_m hn, B_mb hn, q1, q2, hN, Nat.reduceEqDiff, Nat.reduceLeDiff, not_false_eq_true, not_true_eq_false, ↓reduceIte]
    · unfold stV
      rw [if_neg (by omega), if_pos h1, e1, List.map_cons, map_upd hl, updL_at]
  · obtain ⟨q1, q2⟩ := k3 h1
    have q3 := q2 c r e1
    have hc := hl c (by rw [e1]; exact List.mem_cons_self)
    refine ⟨b64 (s.2.1 218 c = 0), s, e, ?_, frE_r, he1, he, fun h => h, fun h0 => Or.inl ⟨h0, ?_⟩⟩
    · unfold fX11_valueOf
      simp (disch := first | omega | assumption | (simp only [wL_1, wL_22, wI_2, wA_2, wQ_1, wQ_21] <;> first | assumption | omega)) only [LIT, LITm, nI_add, n_mul, fa_or, n_31m, n_shl0, n_le, n_lt, n_eq, Option.bind_some, B_m hn, B_mb hn, q1, q3, CMP, Nat.reduceEqDiff, Nat.reduceLeDiff, not_false_eq_true, not_true_eq_false, ↓reduceIte]
      unfold b64
      by_cases h : s.2.1 218 c = 0
      · rw [if_neg (fun g => g h), if_pos h]
      · rw [if_pos h, if_neg h]
    · unfold stV
      rw [if_neg (by omega), if_neg (by omega), if_pos h1, e2, e1, List.map_cons, List.map_cons, map_upd (fun x hx => hl x (by rw [e1]; exact List.mem_cons_of_mem _ hx)), updL_at]
  · obtain ⟨q1, q2⟩ := k4 h1
    obtain ⟨q3, q4⟩ := q2 d c r e1
    have hc := hl c (by rw [e1]; exact List.mem_cons_of_mem _ List.mem_cons_self)
    have hd := hl d (by rw [e1]; exact List.mem_cons_self)
    rw [e1, List.map_cons, List.map_cons] at hb
    obtain ⟨v, s', e', a1, a2, a3, a4, a5, a6⟩ := m_op hn hi he he1 q1 q3 q4 (by omega) (by omega) rfl rfl h1 (fun h0 => ⟨(hb h0).2.1, (hb h0).1⟩)
    refine ⟨v, s', e', a1, a2, a3, a4, a5, fun h0 => ?_⟩
    have hst : stV T nm i (l.map (s.2.1 218)) = (opV (T 21 i) (s.2.1 218 c) (s.2.1 218 d)).map (· :: r.map (s.2.1 218)) := by
      unfold stV
      rw [if_neg (by omega), if_neg (by omega), if_neg (by omega), e1]
      rfl
    rw [hst]
    rcases a6 h0 with ⟨b1, b2⟩ | ⟨b1, b2⟩
    · left
      refine ⟨b1, ?_⟩
      rw [b2, e2, List.map_cons, map_upd (fun x hx => hl x (by rw [e1]; exact List.mem_cons_of_mem _ (List.mem_cons_of_mem _ hx))), updL_at]
      rfl
    · right
      refine ⟨b1, ?_⟩
      rw [b2]
      rfl
theorem m_lawOf (hn : 239 ≤ n) (hW : WT T) (hT : mTd s.1 T) (hw : w < 3) (h18 : T 18 w ≠ 0) {nm : Nat → Int64} (hN : ∀ j, j < 7 → s.2.1 217 j = nm j) (hB : ∀ j, j < 7 → bdd (nm j)) : ∃ s' : zS, fX11_lawOf n (mk s) 187 (nI w) = some ((lawV T w nm).getD 0, mk s') ∧ frQ s s' ∧ s'.1 187 59 = nI (!(lawV T w nm).isSome).toNat := by
  obtain ⟨hab, hb64, -⟩ := hW.2.2.2.2.2.2 w hw h18
  obtain ⟨e0, e1, e2, H, H0, Hb, Hm⟩ := (hT.2.2.2.2.2.2.2 w hw).2 h18
  have Hs : ∀ i, T 19 w ≤ i → i < T 20 w → wfS T i (H i) (H (i + 1)) := fun i h1 h2 => (Hm i h1 h2).1
  have hno : ∀ i, T 19 w ≤ i → i < T 20 w → evV T nm (T 19 w) (i + 1 - T 19 w) = none → lawV T w nm = none := by
    intro i h1 h2 h3
    unfold lawV
    rw [if_neg h18, show T 20 w - T 19 w = (i + 1 - T 19 w) + (T 20 w - i - 1) by omega, evV_none h3]
  unfold fX11_lawOf
  simp (disch := first | omega | assumption | (simp only [wL_1, wL_22, wI_2, wA_2, wQ_1, wQ_21] <;> first | assumption | omega)) only [LIT, LITm, nI_add, n_mul, fa_or, n_31m, n_shl0, n_le, n_lt, n_eq, Option.bind_some, B_m hn, B_mz hn, B_ma hn, wI_ne, e1]
  have f0 : frQ s (wI s 187 59 (nI 0)) := frE_Q frE_w
  refine lp_up (F := fun k (s1 : zS) i => fX11_lawOf_12 n k (mk s1) 187 (nI w) (nI i)) (N := T 20 w)
    (P := fun i s1 => frQ s s1 ∧ T 19 w ≤ i ∧ (∀ j, j < 7 → s1.2.1 217 j = nm j) ∧ ∃ e, e ≤ 1 ∧ s1.1 187 59 = nI e ∧ (e = 0 → evV T nm (T 19 w) (i - T 19 w) = some ((H i).map (s1.2.1 218)) ∧ bdl ((H i).map (s1.2.1 218))) ∧ (e = 1 → evV T nm (T 19 w) (i - T 19 w) = none))
    (Q := fun r => ∃ s' : zS, r = some ((lawV T w nm).getD 0, mk s') ∧ frQ s s' ∧ s'.1 187 59 = nI (!(lawV T w nm).isSome).toNat) ?_ ?_ (T 20 w - T 19 w) bi_K (wI s 187 59 (nI 0)) (T 19 w) (by omega) (by unfold bi_K; omega) ⟨f0, Nat.le_refl _, hN, 0, by omega, by rw [wI_at, upd_at], fun _ => ⟨by rw [Nat.sub_self, H0]; rfl, by rw [H0]; trivial⟩, fun h => by omega⟩
  · intro k s1 i hi hP
    obtain ⟨fr, h4, hN1, e, he1, he, g0, g1⟩ := hP
    have e2' : s1.1 211 w = nI (T 20 w) := by rw [fr.2.1 _ _ (by omega)]; exact e2
    have hmk : mkS s1.1 T i (H i) := by
      have := (Hm i h4 hi).2
      unfold mkS at this ⊢
      rw [fr.2.1 212 i (by omega), fr.2.1 213 i (by omega), fr.2.1 214 i (by omega)]
      exact this
    have hmem := wfL_mem H0 Hs i h4 (by omega)
    obtain ⟨v, s2, e', a1, a2, a3, a4, a5, a6⟩ := m_val hn (by omega : i < 64) he he1 (Hs i h4 hi) hmk (fun x hx => (hmem x hx).2) hN1 (fun h => (g0 h).2)
    left
    have fr2 : frQ s1 (wL s2 218 i v) := ⟨by rw [wL_22, a2.1], a2.2, fun a h1 h2 => by rw [wL_ne h2, a2.1]⟩
    have eV : (wL s2 218 i v).2.1 218 = vp_updL (s1.2.1 218) i v := by rw [wL_at, a2.1]
    refine ⟨wL s2 218 i v, ?_, frQ_t fr fr2, by omega, fun j hj => by rw [wL_ne (by omega), a2.1]; exact hN1 j hj, e', a3, a4, fun h => ?_, fun h => ?_⟩
    · simp (disch := first | omega | assumption | (simp only [wL_1, wL_22, wI_2, wA_2, wQ_1, wQ_21] <;> first | assumption | omega)) only [fX11_lawOf_12, fX11_lawOf_12b, LIT, LITm, nI_add, n_mul, fa_or, n_31m, n_shl0, n_le, n_lt, n_eq, Option.bind_some, B_m hn, B_ma hn, B_mb hn, e2', a1, show ¬ T 20 w ≤ i by omega, ↓reduceIte]
    · rcases (by omega : e = 0 ∨ e = 1) with rfl | rfl
      · rcases a6 rfl with ⟨-, b2⟩ | ⟨b1, -⟩
        · rw [eV, evV_s h4 (g0 rfl).1, b2]
          refine ⟨rfl, ?_⟩
          exact (stV_len (Hs i h4 hi) (List.length_map _) (g0 rfl).2 hB b2).2
        · omega
      · have := a5 rfl
        omega
    · rcases (by omega : e = 0 ∨ e = 1) with rfl | rfl
      · rcases a6 rfl with ⟨b1, -⟩ | ⟨-, b2⟩
        · omega
        · rw [evV_s h4 (g0 rfl).1, b2]
      · rw [show i + 1 - T 19 w = (i - T 19 w) + 1 by omega]
        exact evV_none (g1 rfl) 1
  · intro k s1 hP
    obtain ⟨fr, h4, hN1, e, he1, he, g0, g1⟩ := hP
    have e2' : s1.1 211 w = nI (T 20 w) := by rw [fr.2.1 _ _ (by omega)]; exact e2
    refine ⟨s1, ?_, fr, ?_⟩
    · rcases (by omega : e = 0 ∨ e = 1) with rfl | rfl
      · have hv : lawV T w nm = some (s1.2.1 218 (T 20 w - 1)) := by
          unfold lawV
          rw [if_neg h18, (g0 rfl).1, Hb]
          rfl
        rw [hv]
        simp (disch := first | omega | assumption | (simp only [wL_1, wL_22, wI_2, wA_2, wQ_1, wQ_21] <;> first | assumption | omega)) only [fX11_lawOf_12, fX11_lawOf_12b, LIT, LITm, nI_add, n_mul, fa_or, n_31m, n_shl0, n_le, n_lt, n_eq, Option.bind_some, B_m hn, B_ma hn, B_mb hn, e2', he, n_sub, Nat.le_refl, ↓reduceIte, Option.getD_some]
      · have hv : lawV T w nm = none := by
          unfold lawV
          rw [if_neg h18, g1 rfl]
        rw [hv]
        simp (disch := first | omega | assumption | (simp only [wL_1, wL_22, wI_2, wA_2, wQ_1, wQ_21] <;> first | assumption | omega)) only [fX11_lawOf_12, fX11_lawOf_12b, LIT, LITm, nI_add, n_mul, fa_or, n_31m, n_shl0, n_le, n_lt, n_eq, Option.bind_some, B_m hn, B_ma hn, B_mb hn, e2', he, Nat.reduceEqDiff, Nat.reduceLeDiff, Nat.le_refl, ↓reduceIte, Option.getD_none]
    · rcases (by omega : e = 0 ∨ e = 1) with rfl | rfl
      · have hv : lawV T w nm = some (s1.2.1 218 (T 20 w - 1)) := by
          unfold lawV
          rw [if_neg h18, (g0 rfl).1, Hb]
          rfl
        rw [hv, he]
        rfl
      · have hv : lawV T w nm = none := by
          unfold lawV
          rw [if_neg h18, g1 rfl]
        rw [hv, he]
        rfl
end Mv
theorem mTd_fr {I I' : Nat → Nat → Int32} {T : zT} (h : mTd I T) (e : ∀ a j, (a = 187 ∧ 12 ≤ j ∧ j ≤ 17) ∨ (191 ≤ a ∧ a ≤ 214) → I' a j = I a j) : mTd I' T := by
  obtain ⟨h1, h2, h3, h4, h5, h6, h7, h8⟩ := h
  refine ⟨?_, ?_, fun i hi => ?_, fun p hp => ?_, fun w hw => ?_, fun k hk => ?_, fun b hb => ?_, fun w hw => ⟨fun h => ?_, fun h => ?_⟩⟩
  · rw [e 187 12 (by omega), e 187 13 (by omega), e 187 14 (by omega), e 187 15 (by omega), e 187 16 (by omega), e 187 17 (by omega)]
    exact h1
  · rw [e 191 0 (by omega), e 191 1 (by omega), e 191 2 (by omega)]
    exact h2
  · rw [e 192 i (by omega)]
    exact h3 i hi
  · rw [e 193 p (by omega), e 194 p (by omega), e 195 p (by omega), e 196 p (by omega), e 197 p (by omega), e 198 p (by omega)]
    exact h4 p hp
  · rw [e 199 w (by omega), e 200 w (by omega), e 201 w (by omega), e 202 w (by omega)]
    exact h5 w hw
  · rw [e 203 k (by omega), e 204 k (by omega), e 205 k (by omega)]
    exact h6 k hk
  · rw [e 206 b (by omega), e 207 b (by omega), e 208 b (by omega)]
    exact h7 b hb
  · rw [e 209 w (by omega)]
    exact (h8 w hw).1 h
  · obtain ⟨a1, a2, a3, H, H0, Hb, Hm⟩ := (h8 w hw).2 h
    rw [e 209 w (by omega), e 210 w (by omega), e 211 w (by omega)]
    refine ⟨a1, a2, a3, H, H0, Hb, fun i h1 h2 => ⟨(Hm i h1 h2).1, ?_⟩⟩
    have := (Hm i h1 h2).2
    unfold mkS at this ⊢
    rw [e 212 i (by omega), e 213 i (by omega), e 214 i (by omega)]
    exact this
theorem mTd_Q {s s' : zS} {T : zT} (f : frQ s s') (h : mTd s.1 T) : mTd s'.1 T := mTd_fr h (fun a j ha => f.2.1 a j (by omega))
/-- a standing in the reference's half b -/
def mSd (s : zS) (b : Nat) (T : zT) (O : zO) (S : zD) : Prop :=
  (s.1 226 b = S.1 0 ∧ s.1 224 b = S.1 1 ∧ (O.2.2.2.2.1 = m1 → s.1 225 b = S.1 2) ∧ (O.1 = 0 → s.2.1 187 68 = lN S.2.2.2.2)) ∧
  (∀ p, p < T 0 1 → s.1 221 (9 * b + p) = S.2.1 p ∧ s.1 222 (9 * b + p) = nI (S.2.2.2.1.testBit p).toNat ∧ s.1 223 (9 * b + p) = nI (S.2.2.1 2 p)) ∧
  (∀ w, w < T 0 2 → s.1 219 (4 * b + w) = nI (S.2.2.1 0 w) ∧ s.1 220 (4 * b + w) = nI (S.2.2.1 1 w))
/-- what is tried otherwise, in the reference's fields -/
def mOd (I : Nat → Nat → Int32) (T : zT) (O : zO) : Prop :=
  (I 187 69 = nI (decide (O.1 = 0)).toNat ∧ I 187 70 = nI (decide (O.1 = 2)).toNat ∧ I 187 71 = nI (!O.2.1).toNat ∧ I 187 74 = O.2.2.2.2.1) ∧
  ((I 187 73 = nI 1 ∧ O.2.2.1 = false ∧ O.2.2.2.1 = 400) ∨ (I 187 73 = nI 0 ∧ O.2.2.1 = decide (T 18 0 ≠ 0) ∧ O.2.2.2.1 = T 0 6)) ∧
  ((I 187 72 = nI 1 ∧ ∀ w, w < T 0 2 → O.2.2.2.2.2 w = 9) ∨ (I 187 72 = nI 0 ∧ ∀ w, w < T 0 2 → (nI w = I 187 75 → I 187 76 = nI (O.2.2.2.2.2 w)) ∧ (nI w ≠ I 187 75 → O.2.2.2.2.2 w = T 10 w)))
theorem mOd_fr {I I' : Nat → Nat → Int32} {T : zT} {O : zO} (h : mOd I T O) (e : ∀ j, 69 ≤ j → j ≤ 76 → I' 187 j = I 187 j) : mOd I' T O := by
  unfold mOd
  rw [e 69 (by omega) (by omega), e 70 (by omega) (by omega), e 71 (by omega) (by omega), e 72 (by omega) (by omega), e 73 (by omega) (by omega), e 74 (by omega) (by omega), e 75 (by omega) (by omega), e 76 (by omega) (by omega)]
  exact h
/-- the elements of half b -/
def hfM (b a j : Nat) : Prop := ((a = 219 ∨ a = 220) ∧ 4 * b ≤ j ∧ j < 4 * b + 4) ∨ ((a = 221 ∨ a = 222 ∨ a = 223) ∧ 9 * b ≤ j ∧ j < 9 * b + 9) ∨ ((a = 224 ∨ a = 225 ∨ a = 226) ∧ j = b)
def frY (b : Nat) (O : zO) (s s' : zS) : Prop := s'.2.2 = s.2.2 ∧ (∀ a j, ¬ hfM b a j → ¬ (a = 187 ∧ j = 59) → s'.1 a j = s.1 a j) ∧ (∀ a j, a ≠ 217 → a ≠ 218 → ¬ (a = 187 ∧ j = 68) → s'.2.1 a j = s.2.1 a j) ∧ (O.1 ≠ 0 → s'.2.1 187 68 = s.2.1 187 68)
theorem frY_r {b : Nat} {O : zO} {s : zS} : frY b O s s := ⟨rfl, fun _ _ _ _ => rfl, fun _ _ _ _ _ => rfl, fun _ => rfl⟩
theorem frY_t {b : Nat} {O : zO} {s s1 s2 : zS} (h : frY b O s s1) (g : frY b O s1 s2) : frY b O s s2 := ⟨g.1.trans h.1, fun a j h1 h2 => (g.2.1 a j h1 h2).trans (h.2.1 a j h1 h2), fun a j h1 h2 h3 => (g.2.2.1 a j h1 h2 h3).trans (h.2.2.1 a j h1 h2 h3), fun h0 => (g.2.2.2 h0).trans (h.2.2.2 h0)⟩
theorem frQ_Y {b : Nat} {O : zO} {s s' : zS} (h : frQ s s') : frY b O s s' := ⟨h.1, fun a j _ h2 => h.2.1 a j h2, fun a j h1 h2 _ => by rw [h.2.2 a h1 h2], fun _ => by rw [h.2.2 187 (by omega) (by omega)]⟩
theorem frY_w {b a j : Nat} {O : zO} {s : zS} {x : Int32} (h : hfM b a j) : frY b O s (wI s a j x) := ⟨rfl, fun a' j' h1 _ => by rw [wI_g, if_neg (fun e => h1 (by rw [e.1, e.2]; exact h))], fun _ _ _ _ _ => rfl, fun _ => rfl⟩
theorem mTd_Y {b : Nat} {O : zO} {s s' : zS} {T : zT} (f : frY b O s s') (h : mTd s.1 T) : mTd s'.1 T := mTd_fr h (fun a j ha => f.2.1 a j (by unfold hfM; omega) (by omega))
theorem mOd_Y {b : Nat} {O O' : zO} {s s' : zS} {T : zT} (f : frY b O' s s') (h : mOd s.1 T O) : mOd s'.1 T O := mOd_fr h (fun j h1 h2 => f.2.1 187 j (by unfold hfM; omega) (by omega))
theorem mSd_Q {b : Nat} {s s' : zS} {T : zT} {O : zO} {S : zD} (f : frQ s s') (h : mSd s b T O S) : mSd s' b T O S := by
  obtain ⟨⟨h1, h2, h3, h4⟩, h5, h6⟩ := h
  refine ⟨⟨?_, ?_, fun g => ?_, fun g => ?_⟩, fun p hp => ?_, fun w hw => ?_⟩
  · rw [f.2.1 _ _ (by omega)]; exact h1
  · rw [f.2.1 _ _ (by omega)]; exact h2
  · rw [f.2.1 _ _ (by omega)]; exact h3 g
  · rw [f.2.2 _ (by omega) (by omega)]; exact h4 g
  · rw [f.2.1 221 _ (by omega), f.2.1 222 _ (by omega), f.2.1 223 _ (by omega)]; exact h5 p hp
  · rw [f.2.1 219 _ (by omega), f.2.1 220 _ (by omega)]; exact h6 w hw
/-- the told tables, as rules for every heap in which the reference has T -/
theorem MTp (T : zT) : (∀ s : zS, mTd s.1 T → s.1 187 12 = nI (T 0 0)) ∧ (∀ s : zS, mTd s.1 T → s.1 187 13 = nI (T 0 1)) ∧ (∀ s : zS, mTd s.1 T → s.1 187 14 = nI (T 0 2)) ∧ (∀ s : zS, mTd s.1 T → s.1 187 15 = nI (T 0 3)) ∧ (∀ s : zS, mTd s.1 T → s.1 187 16 = nI (T 0 4)) ∧ (∀ s : zS, mTd s.1 T → s.1 187 17 = nI (T 0 5)) ∧
    (∀ s : zS, mTd s.1 T → s.1 191 0 = nI (T 0 6)) ∧ (∀ s : zS, mTd s.1 T → s.1 191 1 = nI (T 0 7)) ∧ (∀ s : zS, mTd s.1 T → s.1 191 2 = nI (T 0 8)) ∧
    (∀ (s : zS) (p : Nat), mTd s.1 T → p < T 0 1 → s.1 194 p = nI (T 3 p)) ∧ (∀ (s : zS) (p : Nat), mTd s.1 T → p < T 0 1 → s.1 195 p = nI (T 4 p)) ∧ (∀ (s : zS) (p : Nat), mTd s.1 T → p < T 0 1 → s.1 196 p = nI (T 5 p)) ∧ (∀ (s : zS) (p : Nat), mTd s.1 T → p < T 0 1 → s.1 197 p = nI (T 6 p)) ∧ (∀ (s : zS) (p : Nat), mTd s.1 T → p < T 0 1 → s.1 198 p = nI (T 7 p)) ∧
    (∀ (s : zS) (p : Nat), mTd s.1 T → p < T 0 2 → s.1 200 p = nI (T 9 p)) ∧ (∀ (s : zS) (p : Nat), mTd s.1 T → p < T 0 2 → s.1 201 p = nI (T 10 p)) ∧ (∀ (s : zS) (p : Nat), mTd s.1 T → p < T 0 2 → s.1 202 p = nI (T 11 p)) ∧
    (∀ (s : zS) (p : Nat), mTd s.1 T → p < T 0 3 → s.1 203 p = nI (T 12 p)) ∧ (∀ (s : zS) (p : Nat), mTd s.1 T → p < T 0 3 → s.1 204 p = nI (T 13 p)) ∧ (∀ (s : zS) (p : Nat), mTd s.1 T → p < T 0 3 → s.1 205 p = nI (T 14 p)) ∧
    (∀ (s : zS) (p : Nat), mTd s.1 T → p < T 0 4 → s.1 206 p = nI (T 15 p)) ∧ (∀ (s : zS) (p : Nat), mTd s.1 T → p < T 0 4 → s.1 207 p = nI (T 16 p)) ∧ (∀ (s : zS) (p : Nat), mTd s.1 T → p < T 0 4 → s.1 208 p = nI (T 17 p)) :=
  ⟨fun s h => h.1.1, fun s h => h.1.2.1, fun s h => h.1.2.2.1, fun s h => h.1.2.2.2.1, fun s h => h.1.2.2.2.2.1, fun s h => h.1.2.2.2.2.2, fun s h => h.2.1.1, fun s h => h.2.1.2.1, fun s h => h.2.1.2.2,
   fun s p h hp => (h.2.2.2.1 p hp).2.1, fun s p h hp => (h.2.2.2.1 p hp).2.2.1, fun s p h hp => (h.2.2.2.1 p hp).2.2.2.1, fun s p h hp => (h.2.2.2.1 p hp).2.2.2.2.1, fun s p h hp => (h.2.2.2.1 p hp).2.2.2.2.2,
   fun s p h hp => (h.2.2.2.2.1 p hp).2.1, fun s p h hp => (h.2.2.2.2.1 p hp).2.2.1, fun s p h hp => (h.2.2.2.2.1 p hp).2.2.2,
   fun s p h hp => (h.2.2.2.2.2.1 p hp).1, fun s p h hp => (h.2.2.2.2.2.1 p hp).2.1, fun s p h hp => (h.2.2.2.2.2.1 p hp).2.2,
   fun s p h hp => (h.2.2.2.2.2.2.1 p hp).1, fun s p h hp => (h.2.2.2.2.2.2.1 p hp).2.1, fun s p h hp => (h.2.2.2.2.2.2.1 p hp).2.2⟩
