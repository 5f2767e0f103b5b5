/-! ===== lines on the class: paths, what comes once, laws, any line ===== -/
section Cq5
variable {n t i N k a m L W τ v M : Nat} {B f : Nat → Nat} {s s' s0 s1 s2 : zS} {q q' : zQ} {T T' : zT} {x : zX} {I I' : Nat → Nat → Int32}
theorem B_r0 (hn : 239 ≤ n) : (∀ s, kO n (mk s) 3 3 = some ()) ∧ (∀ s, pR n (mk s) 3 3 0 = some 4) ∧ (∀ s, pI n (mk s) 4 7 4 = some (s.1 4 4)) ∧ (∀ s, pI n (mk s) 4 7 6 = some (s.1 4 6)) := by
  refine ⟨?_, ?_, ?_, ?_⟩ <;> intros <;> simp only [B_rd hn]
theorem c_pat (hn : 239 ≤ n) (ht : t = 6 ∨ t = 29) (hL : cL B N t s x) (hW : WX x.2.1) : lnC B N t s (fX3_readPath n (mk s) 3) (patV B N x) := by
  obtain ⟨q, T, M⟩ := x
  obtain ⟨X, D, hM⟩ := hL
  have Tb := TB_1 (t := t) hn ht
  have hm : s.1 (t + 4) 4 = nI (T 0 1) := (D.1 1 (by omega)).1
  have hm0 : s.1 (t + 1) 4 = nI (T 0 0) := (D.1 0 (by omega)).1
  have sz : T 0 1 ≤ 9 := hW.1.2.1
  have sz0 : T 0 0 ≤ 7 := hW.1.1
  have r0 := B_31 hn ht X.2.1
  unfold fX3_readPath patV
  simp (disch := first | omega | assumption | (simp only [wL_1, wL_22, wI_2, wA_2, wQ_1, wQ_21] <;> first | assumption | omega)) only [LIT, LITm, nI_add, n_mul, fa_or, n_31m, n_shl0, n_le, n_lt, n_eq, Option.bind_some, r0, B_rd hn, B_t hn ht]
  refine ln_bt ht (o_row hn ht X Tb hm (by omega) sz) frJ_r rfl ?_
  intro a s1 e1 f1 X1
  obtain ⟨ml, rfl⟩ := rw_ok e1
  have P1 : rwP (t + 4) (T 0 1) 5 s s1 none [] := rwP_0 f1 (by omega)
  have hm1 : s1.1 (t + 4) 4 = nI (T 0 1) := by rw [f1.2.1 _ (by omega)]; exact hm
  refine ln_bt ht (o_new (f := T 2) hn ht X1 Tb hm1 (by omega) ml ⟨by omega, by omega⟩ (by rw [f1.2.1 _ (by omega)]; exact nm_1 D hW)) (frJ_w (by omega) (by omega)) (by rw [wI_ne (by omega)]) ?_
  intro b s2 e2 f2 X2
  obtain ⟨-, rfl⟩ := nw_ok e2
  have P2 := rwP_K (rwP_n (v := (adQ B N q).1.2.1) P1 (by omega)) f2 (by omega)
  have r2 := B_31 hn ht X2.2.1
  simp (disch := first | omega | assumption | (simp only [wL_1, wL_22, wI_2, wA_2, wQ_1, wQ_21] <;> first | assumption | omega)) only [LIT, LITm, nI_add, n_mul, fa_or, n_31m, n_shl0, n_le, n_lt, n_eq, Option.bind_some, r2, B_t hn ht]
  have hm2 : s2.1 (t + 1) 4 = nI (T 0 0) := by rw [P2.2.1 _ (by omega) (by omega) (by omega)]; exact hm0
  refine ln_bt ht (o_told (f := T 1) hn ht X2 (TB_0 hn ht) hm2 (by omega) sz0 (by rw [P2.2.1 _ (by omega) (by omega) (by omega)]; exact nm_0 D hW)) frJ_r rfl ?_
  intro c s3 e3 f3 X3
  have c7 : c.1 < T 0 0 := by
    obtain ⟨-, x1, x2⟩ := td_ok e3
    rw [x2]; exact x1
  have P3 := rwP_K P2 f3 (by omega)
  have hm3 : s3.1 (t + 4) 4 = nI (T 0 1) := by rw [P3.2.1 _ (by omega) (by omega) (by omega)]; exact hm
  have pu := c_rput (s := s3) (c := 0) (x := nI c.1) Tb hm3 (by omega) (by omega) ml (by omega)
  have P3' : rwP (t + 4) (T 0 1) 5 s (wI s3 (t + 4 + 2) (T 0 1 * 5 + 0) (nI c.1)) (some (adQ B N q).1.2.1) [c.1] := rwP_p (v := c.1) P3 (by omega)
  have X3' : cX B N t (wI s3 (t + 4 + 2) (T 0 1 * 5 + 0) (nI c.1)) c.2 := cX_w X3 ht (by omega) (by omega) (by omega) (by omega) (by omega) (by omega) (by omega)
  obtain ⟨w1, w2, w3, w4⟩ := X3'.2.2.2.1
  have k4 := X3'.2.2.1.1
  have k6 := X3'.2.2.1.2.1
  have r3 := B_31 hn ht X3'.2.1
  have hm3' : (wI s3 (t + 4 + 2) (T 0 1 * 5 + 0) (nI c.1)).1 (t + 1) 4 = nI (T 0 0) := by rw [P3'.2.1 _ (by omega) (by omega) (by omega)]; exact hm0
  have nm3 : ∀ i, i < T 0 0 → (wI s3 (t + 4 + 2) (T 0 1 * 5 + 0) (nI c.1)).1 (t + 1 + 1) i = nI (T 1 i) ∧ T 1 i < 1073741824 := by rw [P3'.2.1 _ (by omega) (by omega) (by omega)]; exact nm_0 D hW
  have fd := c_tfind (v := c.2.1.2.1) (TB_0 hn ht) hm3' (by omega) (by omega) nm3 w2
  have fl7 := fdN_le (f := T 1) (m := T 0 0) (v := c.2.1.2.1)
  simp (disch := first | omega | assumption | (simp only [wL_1, wL_22, wI_2, wA_2, wQ_1, wQ_21] <;> first | assumption | omega)) only [LIT, LITm, nI_add, n_mul, fa_or, n_31m, n_shl0, n_le, n_lt, n_eq, Option.bind_some, pu]
  refine lnC_t (s1 := wI s3 (t + 4 + 2) (T 0 1 * 5 + 0) (nI c.1)) (frJ_w (by omega) (by omega)) (by rw [wI_ne (by omega)]) ?_
  have rest : lnC B N t (wI s3 (t + 4 + 2) (T 0 1 * 5 + 0) (nI c.1)) (fX3_readPath_74 n (mk (wI s3 (t + 4 + 2) (T 0 1 * 5 + 0) (nI c.1))) 3 (t + 4)) (eB (tdV B N (T 1) (T 0 0) c.2) fun d => eB (nbV B N 1 99 d.2) fun e => eB (nbV B N 0 9 e.2) fun g => eB (nbV B N 0 399 g.2) fun h => .ok (h.2, rowU T 1 2 [(adQ B N q).1.2.1, c.1, d.1, e.1, g.1, h.1], M)) := by
    unfold fX3_readPath_74
    simp (disch := first | omega | assumption | (simp only [wL_1, wL_22, wI_2, wA_2, wQ_1, wQ_21] <;> first | assumption | omega)) only [LIT, LITm, nI_add, n_mul, fa_or, n_31m, n_shl0, n_le, n_lt, n_eq, Option.bind_some, r3, B_t hn ht]
    refine ln_bt ht (o_told (f := T 1) hn ht X3' (TB_0 hn ht) hm3' (by omega) sz0 nm3) frJ_r rfl ?_
    intro d s4 e4 f4 X4
    have P4 := rwP_K P3' f4 (by omega)
    have hm4 : s4.1 (t + 4) 4 = nI (T 0 1) := by rw [P4.2.1 _ (by omega) (by omega) (by omega)]; exact hm
    have pu := c_rput (s := s4) (c := 1) (x := nI d.1) Tb hm4 (by omega) (by omega) ml (by omega)
    simp (disch := first | omega | assumption | (simp only [wL_1, wL_22, wI_2, wA_2, wQ_1, wQ_21] <;> first | assumption | omega)) only [LIT, LITm, nI_add, n_mul, fa_or, n_31m, n_shl0, n_le, n_lt, n_eq, Option.bind_some, pu]
    have P4' := rwP_p (v := d.1) P4 (by omega)
    have X4' : cX B N t (wI s4 (t + 4 + 2) (T 0 1 * 5 + 1) (nI d.1)) d.2 := cX_w X4 ht (by omega) (by omega) (by omega) (by omega) (by omega) (by omega) (by omega)
    refine lnC_t (s1 := wI s4 (t + 4 + 2) (T 0 1 * 5 + 1) (nI d.1)) (frJ_w (by omega) (by omega)) (by rw [wI_ne (by omega)]) ?_
    refine ln_bt ht (o_num (lo := 1) (hi := 99) hn ht X4' (by omega) (by omega)) frJ_r rfl ?_
    intro e s5 e5 f5 X5
    have P5 := rwP_K P4' f5 (by omega)
    have hm5 : s5.1 (t + 4) 4 = nI (T 0 1) := by rw [P5.2.1 _ (by omega) (by omega) (by omega)]; exact hm
    have pu := c_rput (s := s5) (c := 2) (x := nI e.1) Tb hm5 (by omega) (by omega) ml (by omega)
    simp (disch := first | omega | assumption | (simp only [wL_1, wL_22, wI_2, wA_2, wQ_1, wQ_21] <;> first | assumption | omega)) only [LIT, LITm, nI_add, n_mul, fa_or, n_31m, n_shl0, n_le, n_lt, n_eq, Option.bind_some, pu]
    have P5' := rwP_p (v := e.1) P5 (by omega)
    have X5' : cX B N t (wI s5 (t + 4 + 2) (T 0 1 * 5 + 2) (nI e.1)) e.2 := cX_w X5 ht (by omega) (by omega) (by omega) (by omega) (by omega) (by omega) (by omega)
    refine lnC_t (s1 := wI s5 (t + 4 + 2) (T 0 1 * 5 + 2) (nI e.1)) (frJ_w (by omega) (by omega)) (by rw [wI_ne (by omega)]) ?_
    refine ln_bt ht (o_num (lo := 0) (hi := 9) hn ht X5' (by omega) (by omega)) frJ_r rfl ?_
    intro g s6 e6 f6 X6
    have P6 := rwP_K P5' f6 (by omega)
    have hm6 : s6.1 (t + 4) 4 = nI (T 0 1) := by rw [P6.2.1 _ (by omega) (by omega) (by omega)]; exact hm
    have pu := c_rput (s := s6) (c := 3) (x := nI g.1) Tb hm6 (by omega) (by omega) ml (by omega)
    simp (disch := first | omega | assumption | (simp only [wL_1, wL_22, wI_2, wA_2, wQ_1, wQ_21] <;> first | assumption | omega)) only [LIT, LITm, nI_add, n_mul, fa_or, n_31m, n_shl0, n_le, n_lt, n_eq, Option.bind_some, pu]
    have P6' := rwP_p (v := g.1) P6 (by omega)
    have X6' : cX B N t (wI s6 (t + 4 + 2) (T 0 1 * 5 + 3) (nI g.1)) g.2 := cX_w X6 ht (by omega) (by omega) (by omega) (by omega) (by omega) (by omega) (by omega)
    refine lnC_t (s1 := wI s6 (t + 4 + 2) (T 0 1 * 5 + 3) (nI g.1)) (frJ_w (by omega) (by omega)) (by rw [wI_ne (by omega)]) ?_
    refine ln_bt ht (o_num (lo := 0) (hi := 399) hn ht X6' (by omega) (by omega)) frJ_r rfl ?_
    intro h s7 e7 f7 X7
    have P7 := rwP_K P6' f7 (by omega)
    have hm7 : s7.1 (t + 4) 4 = nI (T 0 1) := by rw [P7.2.1 _ (by omega) (by omega) (by omega)]; exact hm
    have pu := c_rput (s := s7) (c := 4) (x := nI h.1) Tb hm7 (by omega) (by omega) ml (by omega)
    have P7' := rwP_p (v := h.1) P7 (by omega)
    have X7' : cX B N t (wI s7 (t + 4 + 2) (T 0 1 * 5 + 4) (nI h.1)) h.2 := cX_w X7 ht (by omega) (by omega) (by omega) (by omega) (by omega) (by omega) (by omega)
    have hm7' : (wI s7 (t + 4 + 2) (T 0 1 * 5 + 4) (nI h.1)).1 (t + 4) 4 = nI (T 0 1) := by rw [wI_ne (by omega)]; exact hm7
    have re := c_rend Tb hm7' (by omega) ml
    simp (disch := first | omega | assumption | (simp only [wL_1, wL_22, wI_2, wA_2, wQ_1, wQ_21] <;> first | assumption | omega)) only [LIT, LITm, nI_add, n_mul, fa_or, n_31m, n_shl0, n_le, n_lt, n_eq, Option.bind_some, pu, re]
    refine lnC_t (s1 := wI s7 (t + 4 + 2) (T 0 1 * 5 + 4) (nI h.1)) (frJ_w (by omega) (by omega)) (by rw [wI_ne (by omega)]) ?_
    have fr := fin_row (τ := 1) (vals := [(adQ B N q).1.2.1, c.1, d.1, e.1, g.1, h.1]) (by omega) ht ⟨X, D, hM⟩ P7' X7' rfl rfl (fun _ => rfl) (fun c h => by
      have h : c < 5 := h
      rcases (by omega : c = 0 ∨ c = 1 ∨ c = 2 ∨ c = 3 ∨ c = 4) with rfl | rfl | rfl | rfl | rfl <;> rfl)
    exact ⟨_, rfl, fr⟩
  by_cases self : c.2.1.1 = 22 ∧ fdN (T 1) (T 0 0) c.2.1.2.1 = c.1
  · have td : tdV B N (T 1) (T 0 0) c.2 = .ok (c.1, adQ B N c.2) := by
      unfold tdV
      rw [if_neg (fun g => g self.1), if_pos (by omega), self.2]
    rw [if_pos (by omega), self.2] at fd
    have pv : (eB (tdV B N (T 1) (T 0 0) c.2) fun d => if d.1 = c.1 then (.error (5, c.2.1.2.2.1) : Except (Nat × Nat) (Nat × zQ)) else .ok d) = .error (5, c.2.1.2.2.1) := by
      rw [td]
      show (if c.1 = c.1 then _ else _) = _
      rw [if_pos rfl]
    rw [pv]
    have fl := bt_er (c_fail (t := t) (k := 5) hn X3'.2.2.1) (f := fun (x19 : Unit) h20 => fX3_readPath_74 n h20 3 (t + 4))
    simp (disch := first | omega | assumption | (simp only [wL_1, wL_22, wI_2, wA_2, wQ_1, wQ_21] <;> first | assumption | omega)) only [LIT, LITm, nI_add, n_mul, fa_or, n_31m, n_shl0, n_le, n_lt, n_eq, Option.bind_some, B_r0 hn, B_t hn ht, r3, k4, k6, self.1, fd, not_true_eq_false, ↓reduceIte]
    exact fl
  · have pv : (eB (tdV B N (T 1) (T 0 0) c.2) fun d => if d.1 = c.1 then (.error (5, c.2.1.2.2.1) : Except (Nat × Nat) (Nat × zQ)) else .ok d) = tdV B N (T 1) (T 0 0) c.2 := by
      cases h : tdV B N (T 1) (T 0 0) c.2 with
      | error e => rfl
      | ok d =>
        obtain ⟨g1, g2, g3⟩ := td_ok h
        show (if d.1 = c.1 then _ else _) = _
        rw [if_neg]
        intro g
        rw [g3] at g
        exact self ⟨g1, g⟩
    rw [pv]
    by_cases c22 : c.2.1.1 = 22
    · have ne : fdN (T 1) (T 0 0) c.2.1.2.1 ≠ c.1 := fun g => self ⟨c22, g⟩
      by_cases g : fdN (T 1) (T 0 0) c.2.1.2.1 < T 0 0
      · rw [if_pos g] at fd
        simp (disch := first | omega | assumption | (simp only [wL_1, wL_22, wI_2, wA_2, wQ_1, wQ_21] <;> first | assumption | omega)) only [LIT, LITm, nI_add, n_mul, fa_or, n_31m, n_shl0, n_le, n_lt, n_eq, Option.bind_some, B_r0 hn, B_t hn ht, r3, k4, k6, c22, fd, ne, not_true_eq_false, not_false_eq_true, ↓reduceIte]
        exact rest
      · rw [if_neg g] at fd
        have nm1 : (m1 = nI c.1) = False := eq_false (fun h => by
          have := n_m1 (a := c.1) (by omega)
          exact (this ▸ h.symm : False))
        simp (disch := first | omega | assumption | (simp only [wL_1, wL_22, wI_2, wA_2, wQ_1, wQ_21] <;> first | assumption | omega)) only [LIT, LITm, nI_add, n_mul, fa_or, n_31m, n_shl0, n_le, n_lt, n_eq, Option.bind_some, B_r0 hn, B_t hn ht, r3, k4, k6, c22, fd, nm1, not_true_eq_false, not_false_eq_true, ↓reduceIte]
        exact rest
    · simp (disch := first | omega | assumption | (simp only [wL_1, wL_22, wI_2, wA_2, wQ_1, wQ_21] <;> first | assumption | omega)) only [LIT, LITm, nI_add, n_mul, fa_or, n_31m, n_shl0, n_le, n_lt, n_eq, Option.bind_some, B_r0 hn, B_t hn ht, r3, k4, c22, not_false_eq_true, ↓reduceIte]
      exact rest
theorem cellU_ne {j b : Nat} (h : a ≠ k ∨ i ≠ j) : cellU T k j b a i = T a i := by
  unfold cellU
  rw [if_neg (by omega)]
theorem cellU_at {j b : Nat} : cellU T k j b k j = b := by
  unfold cellU
  rw [if_pos ⟨rfl, rfl⟩]
theorem tbC_c {j b : Nat} (h : tbC I T a τ) (hτ : τ < 5) (h0 : (k = 0 ∧ 5 ≤ j) ∨ 18 ≤ k) (e1 : I' a = I a) (e2 : I' (a + 1) = I (a + 1)) (e3 : I' (a + 2) = I (a + 2)) : tbC I' (cellU T k j b) a τ := by
  obtain ⟨b1, b2, w5, f3, f4⟩ := tF1 hτ
  obtain ⟨h1, h2⟩ := h
  have sz : cellU T k j b 0 τ = T 0 τ := cellU_ne (by omega)
  unfold tbC
  rw [sz, e1, e2, e3]
  refine ⟨h1, fun i hi => ⟨fun h3 => ?_, fun c hc => ?_⟩⟩
  · have := f3 h3
    rw [cellU_ne (by omega)]
    exact (h2 i hi).1 h3
  · have : cbF τ + c ≠ 0 ∧ cbF τ + c < 18 := by
      by_cases h3 : τ < 3
      · have := f3 h3; omega
      · have := f4 h3; omega
    rw [cellU_ne (by omega)]
    exact (h2 i hi).2 c hc
theorem dT_k {b : Nat} (D : dT s.1 t T) (ht : t = 6 ∨ t = 29) (hk : k = 6 ∨ k = 7 ∨ k = 8) : dT (wI s t k (nI b)).1 t (cellU T 0 k b) := by
  obtain ⟨d1, d2, d3⟩ := D
  refine ⟨fun τ hτ => tbC_c (d1 τ hτ) hτ (by omega) (wI_ne (by omega)) (wI_ne (by omega)) (wI_ne (by omega)), ?_, ?_⟩
  · rw [wI_at]
    rcases hk with rfl | rfl | rfl
    · rw [upd_at, upd_ne (by omega), upd_ne (by omega), cellU_at, cellU_ne (by omega), cellU_ne (by omega)]
      exact ⟨rfl, d2.2⟩
    · rw [upd_at, upd_ne (by omega), upd_ne (by omega), cellU_at, cellU_ne (by omega), cellU_ne (by omega)]
      exact ⟨d2.1, rfl, d2.2.2⟩
    · rw [upd_at, upd_ne (by omega), upd_ne (by omega), cellU_at, cellU_ne (by omega), cellU_ne (by omega)]
      exact ⟨d2.1, d2.2.1, rfl⟩
  · intro w hw
    rw [wI_ne (by omega), wI_ne (by omega), cellU_ne (by omega), cellU_ne (by omega), cellU_ne (by omega)]
    exact d3 w hw
theorem dT_f (D : dT I t T) (e : ∀ a, t ≤ a → a ≤ t + 18 → a ≠ t + 16 → I' a = I a) : dT I' t T := by
  obtain ⟨d1, d2, d3⟩ := D
  refine ⟨fun τ hτ => ?_, ?_, fun w hw => ?_⟩
  · unfold tbC
    rw [e (t + 1 + 3 * τ) (by omega) (by omega) (by omega), e (t + 1 + 3 * τ + 1) (by omega) (by omega) (by omega), e (t + 1 + 3 * τ + 2) (by omega) (by omega) (by omega)]
    exact d1 τ hτ
  · rw [e t (by omega) (by omega) (by omega)]; exact d2
  · rw [e (t + 17) (by omega) (by omega) (by omega), e (t + 18) (by omega) (by omega) (by omega)]; exact d3 w hw
theorem on_ok {b : Nat × zQ} (h : onV B N M q = .ok b) : M.testBit q.1.1 = false ∧ b = (M ||| 2 ^ q.1.1, adQ B N q) := by
  unfold onV at h
  cases c : M.testBit q.1.1 with
  | true => rw [c, if_pos rfl] at h; cases h
  | false => rw [c, if_neg Bool.false_ne_true] at h; cases h; exact ⟨rfl, rfl⟩
/-- year, snow, seed -/
theorem c_onc {lo hi : Nat} (hn : 239 ≤ n) (ht : t = 6 ∨ t = 29) (hL : cL B N t s x) (hM2 : x.2.2 < 4096) (hk : x.1.1.1 < 12) (k3 : k = 6 ∨ k = 7 ∨ k = 8) (hlo : lo ≤ 99999) (hhi : hi ≤ 99999) : lnC B N t s (bt (fX3_beginOnce n (mk s) 3) fun x22 h23 =>
    (pR n h23 3 3 1).bind fun x24 =>
    bt (fX3_readNumber n h23 3 (nI lo) (nI hi)) fun x25 h26 =>
    (sF n h26 x24 8 k (.int) (.int x25)).bind fun h27 =>
    some (.inl (), h27)) (oncV B N k lo hi x) := by
  obtain ⟨q, T, M⟩ := x
  obtain ⟨X, D, hM⟩ := hL
  unfold oncV
  refine ln_bt ht (o_once hn ht X hM.1 hM2 hk) (frJ_w (by omega) (by omega)) (by rw [wI_ne (by omega)]) ?_
  intro a s1 e1 f1 X1
  obtain ⟨-, rfl⟩ := on_ok e1
  have r1 := B_31 hn ht X1.2.1
  simp only [r1, Option.bind_some]
  refine ln_bt ht (o_num (lo := lo) (hi := hi) hn ht X1 hlo hhi) frJ_r rfl ?_
  intro b s2 e2 f2 X2
  have D2 : dT s2.1 t T := dT_f D (fun a h1 h2 h3 => by rw [f2.2.1 _ (by omega), f1.2.1 _ (by omega), wI_ne (by omega)])
  have M2 : s2.1 3 2 = nI (M ||| 2 ^ q.1.1) ∧ s2.1 3 3 = nI 0 ∧ s2.1 3 4 = m1 := by rw [f2.2.1 _ (by omega), f1.2.1 _ (by omega), wI_at, upd_at, upd_ne (by omega), upd_ne (by omega)]; exact ⟨rfl, hM.2⟩
  have wr : sF n (mk s2) t 8 k .int (.int (nI b.1)) = some (mk (wI s2 t k (nI b.1))) := by
    rcases k3 with rfl | rfl | rfl <;> simp only [B_t hn ht]
  refine ⟨wI s2 t k (nI b.1), ?_, frJ_w (by omega) (by omega), ⟨cX_w X2 ht (by omega) (by omega) (by omega) (by omega) (by omega) (by omega) (by omega), dT_k D2 ht k3, ?_⟩, ?_⟩
  · simp only [wr, Option.bind_some]
  · rw [wI_ne (by omega)]; exact M2
  · rw [wI_at, upd_ne (by omega)]
end Cq5
