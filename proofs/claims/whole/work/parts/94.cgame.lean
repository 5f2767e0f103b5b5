/-! ===== the squire's game: the class ===== -/
section Cg
variable {n t o a c K g m : Nat} {s : zS} {T : zT} {S : zD} {A : zA} {b0 : Bool} {x y z w : Int32}
/-- whether a set of paths leads from one place to the other one -/
def ledB (T : zT) (a c k : Nat) : Bool := (spS T (fun i => k.testBit i) a).testBit c
theorem led_mon (hW : WT T) (ha : a < 7) : monL (ledB T a c) := by
  intro k k' h h1
  unfold ledB at h1 ⊢
  have h2 := (spS_cn hW ha).mp h1
  exact (spS_cn hW ha).mpr (fun S hS => h2 S (fun p hp hk => hS p hp (h p hk)))
/-- a number of threes stands for what is taken (1) and shut (2) -/
def posC (st t' s' : Nat) : Prop := st < 19683 ∧ t' < 512 ∧ s' < 512 ∧ ∀ p, p < 9 → dg st p = (if t'.testBit p = true then 1 else if s'.testBit p = true then 2 else 0) ∧ ¬ (t'.testBit p = true ∧ s'.testBit p = true)
theorem pos_one {st t1 s1 t2 s2 : Nat} (h : posC st t1 s1) (h' : posC st t2 s2) : t1 = t2 ∧ s1 = s2 := by
  have key : ∀ p, p < 9 → t1.testBit p = t2.testBit p ∧ s1.testBit p = s2.testBit p := fun p hp => by
    have e1 := h.2.2.2 p hp
    have e2 := h'.2.2.2 p hp
    rw [e1.1] at e2
    have d1 := e1.2
    have d2 := e2.2
    have d3 := e2.1
    revert d1 d2 d3
    cases t1.testBit p <;> cases s1.testBit p <;> cases t2.testBit p <;> cases s2.testBit p <;> decide
  have out : ∀ a, a < 512 → ∀ p, ¬ p < 9 → a.testBit p = false := fun a ha p hp => Nat.testBit_lt_two_pow (Nat.lt_of_lt_of_le ha (Nat.pow_le_pow_right (n := 2) (i := 9) (by decide) (by omega)))
  refine ⟨Nat.eq_of_testBit_eq fun p => ?_, Nat.eq_of_testBit_eq fun p => ?_⟩
  · by_cases hp : p < 9
    · exact (key p hp).1
    · rw [out t1 h.2.1 p hp, out t2 h'.2.1 p hp]
  · by_cases hp : p < 9
    · exact (key p hp).2
    · rw [out s1 h.2.2.1 p hp, out s2 h'.2.2.1 p hp]
theorem pos_mv {st t' s' p : Nat} {b : Bool} (h : posC st t' s') (hp : p < 9) (ht : t'.testBit p = false) (hs : s'.testBit p = false) : posC (st + (if b = true then 1 else 2) * 3 ^ p) (mvT b t' p) (mvS b s' p) := by
  obtain ⟨h1, h2, h3, h4⟩ := h
  have d0 : dg st p = 0 := by
    have := (h4 p hp).1
    rw [ht, hs] at this
    simpa using this
  have hk : (if b = true then 1 else 2) < 3 := by split <;> omega
  have p5 : 2 ^ p < 512 := Nat.pow_lt_pow_right (n := 9) (by decide) hp
  refine ⟨dg_lt (n := 9) hk d0 hp h1, ?_, ?_, fun q hq => ?_⟩
  · unfold mvT
    split
    · exact or5 h2 p5
    · exact h2
  · unfold mvS
    split
    · exact h3
    · exact or5 h3 p5
  · have e := h4 q hq
    rw [dg_add hk d0]
    unfold mvT mvS
    by_cases r : q = p
    · rw [if_pos r, r]
      cases b with
      | true =>
        simp only [if_true, tb_p2, ht, hs]
        simp
      | false =>
        simp only [Bool.false_eq_true, if_false, tb_p2, ht, hs]
        simp
    · rw [if_neg r]
      have ne : decide (p = q) = false := decide_eq_false (fun e => r e.symm)
      cases b with
      | true =>
        simp only [if_true, tb_p2, ne, Bool.or_false]
        exact e
      | false =>
        simp only [Bool.false_eq_true, if_false, tb_p2, ne, Bool.or_false]
        exact e
/-- two bits of a row -/
theorem nt_b {x : Int32} {k : Nat} (hk : k < 16) : (x >>> nI (2 * k)) &&& nI 3 = nI ((bb x (2 * k)).toNat + 2 * (bb x (2 * k + 1)).toNat) := by
  have sh : ∀ i, i < 32 → bb (x >>> nI (2 * k)) i = if 2 * k + i < 32 then bb x (2 * k + i) else bb x 31 := fun i hi => by
    have h := b_sshr (2 * k) (by omega) x hi
    rw [n_31, n_31m (by omega)] at h
    exact h
  have hl : (bb x (2 * k)).toNat + 2 * (bb x (2 * k + 1)).toNat < 4 := by
    have h1 := Bool.toNat_le (bb x (2 * k))
    have h2 := Bool.toNat_le (bb x (2 * k + 1))
    omega
  apply b_ext
  intro i hi
  have t3 : ∀ v : Nat, v < 4 → 2 ≤ i → v.testBit i = false := fun v hv h => Nat.testBit_lt_two_pow (Nat.lt_of_lt_of_le hv (Nat.pow_le_pow_right (n := 2) (i := 2) (by decide) h))
  rw [b_and, sh i hi, bb_nI, bb_nI]
  rcases (by omega : i = 0 ∨ i = 1 ∨ 2 ≤ i) with rfl | rfl | h
  · rw [if_pos (by omega), Nat.add_zero]
    cases bb x (2 * k) <;> cases bb x (2 * k + 1) <;> rfl
  · rw [if_pos (by omega)]
    cases bb x (2 * k) <;> cases bb x (2 * k + 1) <;> rfl
  · rw [t3 3 (by omega) h, t3 _ hl h]
    simp
theorem nt_w {x : Int32} {k : Nat} (hk : k < 16) (r : Bool) {i : Nat} (hi : i < 32) (h : bb (x ||| (nI (r.toNat + 1) <<< nI (2 * k))) i = true) : bb x i = true ∨ i = 2 * k + r.toNat := by
  have sh := b_shl (2 * k) (by omega) (nI (r.toNat + 1)) hi
  rw [n_31, n_31m (by omega)] at sh
  rw [b_or, sh, bb_nI] at h
  rcases (Bool.or_eq_true _ _).mp h with h | h
  · exact Or.inl h
  · obtain ⟨h1, h2⟩ := (Bool.and_eq_true _ _).mp h
    have h3 := ((Bool.and_eq_true _ _).mp h2).2
    rw [show r.toNat + 1 = 2 ^ r.toNat by cases r <;> rfl, Nat.testBit_two_pow] at h3
    have h4 := of_decide_eq_true h3
    have h5 := of_decide_eq_true h1
    exact Or.inr (by omega)
/-- what the class knows of the states: a bit stands for who wins -/
def memo (s : zS) (K : Nat) (led : Nat → Bool) (b0 : Bool) : Prop := ∀ st, st < 19683 → ∀ v : Bool, bb (s.1 86 (st / 16)) (2 * (st % 16) + v.toNat) = true → ∀ t' s', posC st t' s' → okP K t' s' → wn K led (fcV K t' s') t' s' (trn b0 t' s') = v
def gH (s : zS) (T : zT) (a c K : Nat) : Prop := s.1 84 2 = nI K ∧ K < 512 ∧ ∀ k, sub k K → s.1 85 k = nI (ledB T a c k).toNat
def frW (s s' : zS) : Prop := s'.2 = s.2 ∧ ∀ b, b ≠ 86 → s'.1 b = s.1 b
theorem frW_t {s1 s2 : zS} (h : frW s s1) (g : frW s1 s2) : frW s s2 := ⟨g.1.trans h.1, fun b hb => (g.2 b hb).trans (h.2 b hb)⟩
theorem gH_W {s' : zS} (h : gH s T a c K) (f : frW s s') : gH s' T a c K := ⟨by rw [f.2 84 (by omega)]; exact h.1, h.2.1, fun k hk => by rw [f.2 85 (by omega)]; exact h.2.2 k hk⟩
theorem sub_lt {k K : Nat} (h : sub k K) (hK : K < 512) : k < 512 := by
  have e : k ||| K = K := by
    apply Nat.eq_of_testBit_eq
    intro i
    rw [Nat.testBit_or]
    have := h i
    revert this
    cases k.testBit i <;> cases K.testBit i <;> decide
  exact Nat.lt_of_le_of_lt (by rw [← e]; exact Nat.left_le_or) hK
theorem nd_sub' {K s' : Nat} : sub (nd K s') K := fun i h => by
  rw [nd_tb] at h
  exact ((Bool.and_eq_true _ _).mp h).1
theorem c_wf (hn : 239 ≤ n) (hW : WT T) (ha : a < 7) : ∀ (m f : Nat) (s : zS) (t' s' st : Nat) (b : Bool), fcV K t' s' = m → 2 * m + 1 ≤ f → okP K t' s' → posC st t' s' → b = trn b0 t' s' → gH s T a c K → memo s K (ledB T a c) b0 → ∃ s1 : zS, (fs0 n f).2 (mk s) 84 (nI t') (nI s') (nI st) (nI b.toNat) = some (nI (wn K (ledB T a c) m t' s' b).toNat, mk s1) ∧ frW s s1 ∧ memo s1 K (ledB T a c) b0 := by
  intro m
  induction m with
  | zero =>
    intro f s t' s' st b hm hf ho hp hb hg hM
    obtain ⟨f, rfl⟩ : ∃ f', f = f' + 1 := ⟨f - 1, by omega⟩
    obtain ⟨g3, g6, g7⟩ := hg
    have tK : sub t' K := fun i h => nd_sub' i (ho.1 i h)
    have e1 := g7 t' tK
    have e2 := g7 (nd K s') nd_sub'
    have tl := sub_lt tK g6
    have e0 := fc_0 ho hm
    rw [← e0] at e2
    refine ⟨s, ?_, ⟨rfl, fun _ _ => rfl⟩, hM⟩
    show fX1_winnerFrom n (fs0 n f).1 (fs0 n f).2 (mk s) 84 (nI t') (nI s') (nI st) (nI b.toNat) = some (nI (ledB T a c t').toNat, mk s)
    unfold fX1_winnerFrom
    have ndl : nd K s' < 512 := nd_lt (k := 9) g6
    cases e : ledB T a c t' with
    | true =>
      rw [e] at e1
      simp (disch := first | omega | assumption | (simp only [wL_1, wL_22, wI_2, wA_2, wQ_1, wQ_21] <;> first | assumption | omega)) only [LIT, LITm, nI_add, n_mul, fa_or, n_31m, n_shl0, n_le, n_lt, n_eq, Option.bind_some, B_g hn, e1, Bool.toNat_true, Nat.reduceEqDiff, Nat.reduceLeDiff, ↓reduceIte]
    | false =>
      rw [e] at e1 e2
      rw [e0] at e1 tl
      simp (disch := first | omega | assumption | (simp only [wL_1, wL_22, wI_2, wA_2, wQ_1, wQ_21] <;> first | assumption | omega)) only [LIT, LITm, nI_add, n_mul, fa_or, n_31m, n_shl0, n_le, n_lt, n_eq, Option.bind_some, B_g hn, e0, e1, g3, n_nd, Bool.toNat_false, not_true_eq_false, ↓reduceIte]
  | succ m ih =>
    intro f s t' s' st b hm hf ho hp hb hg hM
    obtain ⟨f, rfl⟩ : ∃ f', f = f' + 1 + 1 := ⟨f - 2, by omega⟩
    have hg0 := hg
    obtain ⟨g3, g6, g7⟩ := hg
    have tK : sub t' K := fun i h => nd_sub' i (ho.1 i h)
    have e1 := g7 t' tK
    have e2 := g7 (nd K s') nd_sub'
    have tl := sub_lt tK g6
    have sl := sub_lt ho.2.1 g6
    have ndl : nd K s' < 512 := nd_lt (k := 9) g6
    have hstl := hp.1
    have mon := led_mon (c := c) hW ha
    show ∃ s1 : zS, fX1_winnerFrom n (fs0 n (f + 1)).1 (fs0 n (f + 1)).2 (mk s) 84 (nI t') (nI s') (nI st) (nI b.toNat) = _ ∧ _
    unfold fX1_winnerFrom
    cases e : ledB T a c t' with
    | true =>
      rw [e] at e1
      refine ⟨s, ?_, ⟨rfl, fun _ _ => rfl⟩, hM⟩
      rw [wn_led mon _ _ _ _ hm e]
      simp (disch := first | omega | assumption | (simp only [wL_1, wL_22, wI_2, wA_2, wQ_1, wQ_21] <;> first | assumption | omega)) only [LIT, LITm, nI_add, n_mul, fa_or, n_31m, n_shl0, n_le, n_lt, n_eq, Option.bind_some, B_g hn, e1, Bool.toNat_true, Nat.reduceEqDiff, Nat.reduceLeDiff, ↓reduceIte]
    | false =>
      rw [e] at e1
      cases el : ledB T a c (nd K s') with
      | false =>
        rw [el] at e2
        refine ⟨s, ?_, ⟨rfl, fun _ _ => rfl⟩, hM⟩
        rw [wn_not mon _ _ _ _ ho hm el]
        simp (disch := first | omega | assumption | (simp only [wL_1, wL_22, wI_2, wA_2, wQ_1, wQ_21] <;> first | assumption | omega)) only [LIT, LITm, nI_add, n_mul, fa_or, n_31m, n_shl0, n_le, n_lt, n_eq, Option.bind_some, B_g hn, e1, e2, g3, n_nd, Bool.toNat_false, not_true_eq_false, ↓reduceIte]
      | true =>
        rw [el] at e2
        obtain ⟨W, eW⟩ : ∃ W, W = (bb (s.1 86 (st / 16)) (2 * (st % 16))).toNat + 2 * (bb (s.1 86 (st / 16)) (2 * (st % 16) + 1)).toNat := ⟨_, rfl⟩
        have W3 : W ≤ 3 := by
          have h1 := Bool.toNat_le (bb (s.1 86 (st / 16)) (2 * (st % 16)))
          have h2 := Bool.toNat_le (bb (s.1 86 (st / 16)) (2 * (st % 16) + 1))
          omega
        have vr : nI st >>> nI 4 = nI (st / 16) := by rw [n_shr0 (by omega) (by omega), Nat.shiftRight_eq_div_pow]
        have v15 : nI st &&& nI 15 = nI (st % 16) := fa_mask st 4
        have v2k : nI (st % 16) <<< nI 1 = nI (2 * (st % 16)) := by
          have h := n_shl (a := st % 16) (p := 1) (by omega)
          rw [n_31m (by omega)] at h
          rw [h, Nat.shiftLeft_eq, Nat.pow_one, Nat.mul_comm]
        have vn : (s.1 86 (st / 16) >>> nI (2 * (st % 16))) &&& nI 3 = nI W := by rw [eW]; exact nt_b (by omega)
        by_cases hv : ¬ W = 0
        · refine ⟨s, ?_, ⟨rfl, fun _ _ => rfl⟩, hM⟩
          have r0 : bb (s.1 86 (st / 16)) (2 * (st % 16)) = true → wn K (ledB T a c) (m + 1) t' s' b = false := fun h => by
            have := hM st hp.1 false h t' s' hp ho
            rw [hm, ← hb] at this
            exact this
          have r1 : bb (s.1 86 (st / 16)) (2 * (st % 16) + 1) = true → wn K (ledB T a c) (m + 1) t' s' b = true := fun h => by
            have := hM st hp.1 true h t' s' hp ho
            rw [hm, ← hb] at this
            exact this
          have vm : nI W - nI 1 = nI (wn K (ledB T a c) (m + 1) t' s' b).toNat := by
            cases q0 : bb (s.1 86 (st / 16)) (2 * (st % 16)) with
            | true =>
              cases q1 : bb (s.1 86 (st / 16)) (2 * (st % 16) + 1) with
              | true => have := (r0 q0).symm.trans (r1 q1); cases this
              | false => rw [q0, q1] at eW; rw [r0 q0, eW]; rfl
            | false =>
              cases q1 : bb (s.1 86 (st / 16)) (2 * (st % 16) + 1) with
              | true => rw [q0, q1] at eW; rw [r1 q1, eW]; rfl
              | false => rw [q0, q1] at eW; exact absurd eW hv
          simp (disch := first | omega | assumption | (simp only [wL_1, wL_22, wI_2, wA_2, wQ_1, wQ_21] <;> first | assumption | omega)) only [LIT, LITm, nI_add, n_mul, fa_or, n_31m, n_shl0, n_le, n_lt, n_eq, Option.bind_some, B_g hn, e1, e2, g3, n_nd, vr, v15, v2k, vn, hv, vm, Bool.toNat_false, Bool.toNat_true, Nat.reduceEqDiff, Nat.reduceLeDiff, not_true_eq_false, not_false_eq_true, ↓reduceIte]
        · have hv : W = 0 := Classical.not_not.mp hv
          obtain ⟨G, eG⟩ : ∃ G : Nat → Bool, G = fun p => frB' K t' s' p && (wn K (ledB T a c) m (mvT b t' p) (mvS b s' p) (!b) == b) := ⟨_, rfl⟩
          have wv : wn K (ledB T a c) (m + 1) t' s' b = if anB G 9 = true then b else !b := by rw [eG]; rfl
          obtain ⟨FR, eFR⟩ : ∃ FR, FR = nd (nd K t') s' := ⟨_, rfl⟩
          have frl : FR < 512 := by rw [eFR]; exact nd_lt (k := 9) (nd_lt (k := 9) g6)
          have frt : ∀ p, FR.testBit p = frB' K t' s' p := fun p => by
            rw [eFR, nd_tb, nd_tb]
            unfold frB'
            cases K.testBit p <;> cases t'.testBit p <;> cases s'.testBit p <;> rfl
          have b1 : nI 1 - nI b.toNat = nI (!b).toNat := by cases b <;> decide
          have pre : (fX1_winnerFrom n (fs0 n (f + 1)).1 (fs0 n (f + 1)).2 (mk s) 84 (nI t') (nI s') (nI st) (nI b.toNat)) = fX1_winnerFrom_89 n (fs0 n (f + 1)).1 (fs0 n (f + 1)).2 bi_K (mk s) 84 (nI t') (nI s') (nI st) (nI b.toNat) (nI (st / 16)) (nI (2 * (st % 16))) (nI (!b).toNat) (nI FR) (nI 0) := by
            unfold fX1_winnerFrom
            rw [eFR]
            simp (disch := first | omega | assumption | (simp only [wL_1, wL_22, wI_2, wA_2, wQ_1, wQ_21] <;> first | assumption | omega)) only [LIT, LITm, nI_add, n_mul, fa_or, n_31m, n_shl0, n_le, n_lt, n_eq, Option.bind_some, B_g hn, e1, e2, g3, n_nd, vr, v15, v2k, vn, hv, b1, Bool.toNat_false, Bool.toNat_true, Nat.reduceEqDiff, Nat.reduceLeDiff, not_true_eq_false, not_false_eq_true, ↓reduceIte]
          unfold fX1_winnerFrom at pre
          rw [pre, wv]
          have fin : ∀ (s1 : zS) (r : Bool), frW s s1 → memo s1 K (ledB T a c) b0 → r = (if anB G 9 = true then b else !b) → ∃ s2 : zS, fX1_winnerFrom_132 n (fs0 n (f + 1)).1 (fs0 n (f + 1)).2 (mk s1) 84 (nI (st / 16)) (nI (2 * (st % 16))) (nI r.toNat) = some (nI (if anB G 9 = true then b else !b).toNat, mk s2) ∧ frW s s2 ∧ memo s2 K (ledB T a c) b0 := by
            intro s1 r f1 M1 er
            have rb := Bool.toNat_le r
            refine ⟨wI s1 86 (st / 16) (s1.1 86 (st / 16) ||| (nI (r.toNat + 1) <<< nI (2 * (st % 16)))), ?_, frW_t f1 ⟨rfl, fun b hb => wI_ne hb⟩, fun st' hst' v hv' t2 s2 hp2 ho2 => ?_⟩
            · unfold fX1_winnerFrom_132
              rw [← er]
              simp (disch := first | omega | assumption | (simp only [wL_1, wL_22, wI_2, wA_2, wQ_1, wQ_21] <;> first | assumption | omega)) only [LIT, LITm, nI_add, n_mul, fa_or, n_31m, n_shl0, n_le, n_lt, n_eq, Option.bind_some, B_g hn]
            · have vb := Bool.toNat_le v
              by_cases q : st' / 16 = st / 16
              · rw [wI_at, q, upd_at] at hv'
                rcases nt_w (k := st % 16) (by omega) r (by omega) hv' with h | h
                · exact M1 st' hst' v (by rw [q]; exact h) t2 s2 hp2 ho2
                · have e : st' = st := by omega
                  have ev : v.toNat = r.toNat := by omega
                  have ev' : v = r := by
                    revert ev
                    cases v <;> cases r <;> decide
                  rw [e] at hp2
                  obtain ⟨p1, p2⟩ := pos_one hp2 hp
                  rw [p1, p2, hm, ← hb, wv, ← er, ev']
              · rw [wI_at, upd_ne q] at hv'
                exact M1 st' hst' v hv' t2 s2 hp2 ho2
          refine lp_up (F := fun f' (q : zS × Bool) i => fX1_winnerFrom_89 n (fs0 n (f + 1)).1 (fs0 n (f + 1)).2 f' (mk q.1) 84 (nI t') (nI s') (nI st) (nI b.toNat) (nI (st / 16)) (nI (2 * (st % 16))) (nI q.2.toNat) (nI FR) (nI i)) (N := 9) (P := fun i q => frW s q.1 ∧ memo q.1 K (ledB T a c) b0 ∧ q.2 = (if anB G i = true then b else !b)) (Q := fun r => ∃ s1 : zS, r = some (nI (if anB G 9 = true then b else !b).toNat, mk s1) ∧ frW s s1 ∧ memo s1 K (ledB T a c) b0) ?_ ?_ 9 bi_K (s, !b) 0 (by omega) (by unfold bi_K; omega) ⟨⟨rfl, fun _ _ => rfl⟩, hM, rfl⟩
          · rintro f' ⟨s1, r⟩ i hi ⟨f1, M1, er⟩
            have f1 : frW s s1 := f1
            have M1 : memo s1 K (ledB T a c) b0 := M1
            have er : r = (if anB G i = true then b else !b) := er
            have bne : ∀ b : Bool, (nI (!b).toNat = nI b.toNat) = False := fun b => by
              cases b <;> simp only [Bool.not_true, Bool.not_false, Bool.toNat_true, Bool.toNat_false, n_eq (show 1 < 2147483648 by omega) (show 0 < 2147483648 by omega), n_eq (show 0 < 2147483648 by omega) (show 1 < 2147483648 by omega)] <;> simp
            show (∃ q : zS × Bool, fX1_winnerFrom_89b n (fs0 n (f + 1)).1 (fs0 n (f + 1)).2 (fX1_winnerFrom_89 n (fs0 n (f + 1)).1 (fs0 n (f + 1)).2 f') (mk s1) 84 (nI t') (nI s') (nI st) (nI b.toNat) (nI (st / 16)) (nI (2 * (st % 16))) (nI r.toNat) (nI FR) (nI i) = _ ∧ _) ∨ ∃ s1' : zS, fX1_winnerFrom_89b n (fs0 n (f + 1)).1 (fs0 n (f + 1)).2 (fX1_winnerFrom_89 n (fs0 n (f + 1)).1 (fs0 n (f + 1)).2 f') (mk s1) 84 (nI t') (nI s') (nI st) (nI b.toNat) (nI (st / 16)) (nI (2 * (st % 16))) (nI r.toNat) (nI FR) (nI i) = _ ∧ _
            unfold fX1_winnerFrom_89b fX1_winnerFrom_126
            have an1 : anB G (i + 1) = (anB G i || G i) := rfl
            cases ea : anB G i with
            | true =>
              right
              rw [ea, if_pos rfl] at er
              have a9 : anB G 9 = true := by
                obtain ⟨p, h1, h2⟩ := anB_iff.mp ea
                exact anB_iff.mpr ⟨p, by omega, h2⟩
              obtain ⟨s2, e2', r2⟩ := fin s1 r f1 M1 (by rw [er, a9, if_pos rfl])
              refine ⟨s2, ?_, r2⟩
              rw [er] at e2' ⊢
              simp (disch := first | omega | assumption | (simp only [wL_1, wL_22, wI_2, wA_2, wQ_1, wQ_21] <;> first | assumption | omega)) only [LIT, LITm, nI_add, n_mul, fa_or, n_31m, n_shl0, n_le, n_lt, n_eq, Option.bind_some, show ¬ 9 ≤ i by omega, ↓reduceIte]
              exact e2'
            | false =>
              left
              rw [ea, if_neg Bool.false_ne_true] at er
              rw [er]
              cases ef : FR.testBit i with
              | false =>
                refine ⟨(s1, !b), ?_, f1, M1, ?_⟩
                · simp (disch := first | omega | assumption | (simp only [wL_1, wL_22, wI_2, wA_2, wQ_1, wQ_21] <;> first | assumption | omega)) only [LIT, LITm, nI_add, n_mul, fa_or, n_31m, n_shl0, n_le, n_lt, n_eq, Option.bind_some, bne, n_bitz, ef, if_false, show ¬ 9 ≤ i by omega, ↓reduceIte]
                · show (!b) = if anB G (i + 1) = true then b else !b
                  rw [an1, ea, eG]
                  simp only [← frt, ef, Bool.false_and, Bool.or_self, Bool.false_eq_true, if_false]
              | true =>
                have hfr : frB' K t' s' i = true := by rw [← frt]; exact ef
                have fcm := fc_mv (b := b) hi hfr
                have okm := ok_mv (b := b) hi ho hfr
                have trm := trn_mv (b := b) (b0 := b0) hi hfr
                have tf : t'.testBit i = false ∧ s'.testBit i = false := by
                  unfold frB' at hfr
                  revert hfr
                  cases K.testBit i <;> cases t'.testBit i <;> cases s'.testBit i <;> decide
                have pom := pos_mv (b := b) hp hi tf.1 tf.2
                obtain ⟨s2, e3, f3, M3⟩ := ih f s1 (mvT b t' i) (mvS b s' i) _ (!b) (by omega) (by omega) okm pom (by rw [trm, hb]) (gH_W hg0 f1) M1
                obtain ⟨r2, er2⟩ : ∃ r2, r2 = wn K (ledB T a c) m (mvT b t' i) (mvS b s' i) (!b) := ⟨_, rfl⟩
                rw [← er2] at e3
                have pw : pW (nI i) = some (nI (3 ^ i)) := by
                  unfold pW
                  rw [cl_n (by omega), if_pos]
                  exact in_nI hi (by decide)
                have p3 : 3 ^ i ≤ 6561 := Nat.pow_le_pow_right (n := 3) (j := 8) (by decide) (by omega)
                have wb : (fs0 n (f + 1)).1 (mk s1) 84 (nI t') (nI s') (nI st) (nI b.toNat) (nI i) = some (nI r2.toNat, mk s2) := by
                  show fX1_winnerBehind n (fs0 n f).1 (fs0 n f).2 (mk s1) 84 (nI t') (nI s') (nI st) (nI b.toNat) (nI i) = _
                  unfold fX1_winnerBehind
                  cases b with
                  | true =>
                    have e3' : (fs0 n f).2 (mk s1) 84 (nI (t' ||| 2 ^ i)) (nI s') (nI (st + 3 ^ i)) (nI 0) = some (nI r2.toNat, mk s2) := by
                      have := e3
                      unfold mvT mvS at this
                      simp only [if_true, Nat.one_mul, Bool.not_true, Bool.toNat_false] at this
                      exact this
                    simp (disch := first | omega | assumption | (simp only [wL_1, wL_22, wI_2, wA_2, wQ_1, wQ_21] <;> first | assumption | omega)) only [LIT, LITm, nI_add, n_mul, fa_or, n_31m, n_shl0, n_le, n_lt, n_eq, Option.bind_some, B_g hn, pw, e3', Bool.toNat_true, not_true_eq_false, ↓reduceIte]
                  | false =>
                    have e3' : (fs0 n f).2 (mk s1) 84 (nI t') (nI (s' ||| 2 ^ i)) (nI (st + 2 * 3 ^ i)) (nI 1) = some (nI r2.toNat, mk s2) := by
                      have := e3
                      unfold mvT mvS at this
                      simp only [Bool.false_eq_true, if_false, Bool.not_false, Bool.toNat_true] at this
                      exact this
                    simp (disch := first | omega | assumption | (simp only [wL_1, wL_22, wI_2, wA_2, wQ_1, wQ_21] <;> first | assumption | omega)) only [LIT, LITm, nI_add, n_mul, fa_or, n_31m, n_shl0, n_le, n_lt, n_eq, Option.bind_some, B_g hn, pw, e3', Bool.toNat_false, Nat.reduceEqDiff, Nat.reduceLeDiff, not_false_eq_true, ↓reduceIte]
                refine ⟨(s2, r2), ?_, frW_t f1 f3, M3, ?_⟩
                · simp (disch := first | omega | assumption | (simp only [wL_1, wL_22, wI_2, wA_2, wQ_1, wQ_21] <;> first | assumption | omega)) only [LIT, LITm, nI_add, n_mul, fa_or, n_31m, n_shl0, n_le, n_lt, n_eq, Option.bind_some, bne, n_bitz, ef, wb, Bool.true_eq_false, if_false, show ¬ 9 ≤ i by omega, ↓reduceIte]
                · show r2 = if anB G (i + 1) = true then b else !b
                  rw [an1, ea, eG]
                  simp only [hfr, ← er2, Bool.true_and, Bool.false_or]
                  cases r2 <;> cases b <;> rfl
          · rintro f' ⟨s1, r⟩ ⟨f1, M1, er⟩
            obtain ⟨s2, e2', r2⟩ := fin s1 r f1 M1 er
            refine ⟨s2, ?_, r2⟩
            show fX1_winnerFrom_89b n (fs0 n (f + 1)).1 (fs0 n (f + 1)).2 (fX1_winnerFrom_89 n (fs0 n (f + 1)).1 (fs0 n (f + 1)).2 f') (mk s1) 84 (nI t') (nI s') (nI st) (nI b.toNat) (nI (st / 16)) (nI (2 * (st % 16))) (nI r.toNat) (nI FR) (nI 9) = _
            unfold fX1_winnerFrom_89b
            simp (disch := first | omega | assumption | (simp only [wL_1, wL_22, wI_2, wA_2, wQ_1, wQ_21] <;> first | assumption | omega)) only [LIT, LITm, nI_add, n_mul, fa_or, n_31m, n_shl0, n_le, n_lt, n_eq, Option.bind_some, Nat.le_refl, ↓reduceIte]
            exact e2'
end Cg
