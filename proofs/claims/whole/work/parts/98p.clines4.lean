/-! ===== lines on the class: walkers, walks, bulls ===== -/
section Cp
variable {n t i N k a m L W τ v M : Nat} {B f : Nat → Nat} {s s' s0 s1 s2 : zS} {q q' : zQ} {T T' : zT} {x : zX}
theorem c_wkr (hn : 239 ≤ n) (ht : t = 6 ∨ t = 29) (hL : cL B N t s x) (hW : WX x.2.1) : lnC B N t s (fX3_readWalker n (mk s) 3) (wkrV B N x) := by
  obtain ⟨q, T, M⟩ := x
  obtain ⟨X, D, hM⟩ := hL
  have Tb := TB_2 (t := t) hn ht
  have hm : s.1 (t + 7) 4 = nI (T 0 2) := (D.1 2 (by omega)).1
  have hm0 : s.1 (t + 1) 4 = nI (T 0 0) := (D.1 0 (by omega)).1
  have sz : T 0 2 ≤ 4 := hW.1.2.2.1
  have sz0 : T 0 0 ≤ 7 := hW.1.1
  have r0 := B_31 hn ht X.2.1
  unfold fX3_readWalker wkrV
  simp (disch := first | omega | assumption | (simp only [wL_1, wL_22, wI_2, wA_2, wQ_1, wQ_21] <;> first | assumption | omega)) only [LIT, LITm, nI_add, n_mul, fa_or, n_31m, n_shl0, n_le, n_lt, n_eq, Option.bind_some, r0, B_rd hn, B_t hn ht]
  refine ln_bt ht (o_row hn ht X Tb hm (by omega) sz) frJ_r rfl ?_
  intro a s1 e1 f1 X1
  obtain ⟨ml, rfl⟩ := rw_ok e1
  have P1 : rwP (t + 7) (T 0 2) 3 s s1 none [] := rwP_0 f1 (by omega)
  have hm1 : s1.1 (t + 7) 4 = nI (T 0 2) := by rw [f1.2.1 _ (by omega)]; exact hm
  refine ln_bt ht (o_new (f := T 8) hn ht X1 Tb hm1 (by omega) ml ⟨by omega, by omega⟩ (by rw [f1.2.1 _ (by omega)]; exact nm_2 D hW)) (frJ_w (by omega) (by omega)) (by rw [wI_ne (by omega)]) ?_
  intro b s2 e2 f2 X2
  obtain ⟨-, rfl⟩ := nw_ok e2
  have P2 := rwP_K (rwP_n (v := (adQ B N q).1.2.1) P1 (by omega)) f2 (by omega)
  have r2 := B_31 hn ht X2.2.1
  simp (disch := first | omega | assumption | (simp only [wL_1, wL_22, wI_2, wA_2, wQ_1, wQ_21] <;> first | assumption | omega)) only [LIT, LITm, nI_add, n_mul, fa_or, n_31m, n_shl0, n_le, n_lt, n_eq, Option.bind_some, r2, B_t hn ht]
  have hm2 : s2.1 (t + 1) 4 = nI (T 0 0) := by rw [P2.2.1 _ (by omega) (by omega) (by omega)]; exact hm0
  refine ln_bt ht (o_told (f := T 1) hn ht X2 (TB_0 hn ht) hm2 (by omega) sz0 (by rw [P2.2.1 _ (by omega) (by omega) (by omega)]; exact nm_0 D hW)) frJ_r rfl ?_
  intro c s3 e3 f3 X3
  have P3 := rwP_K P2 f3 (by omega)
  have hm3 : s3.1 (t + 7) 4 = nI (T 0 2) := by rw [P3.2.1 _ (by omega) (by omega) (by omega)]; exact hm
  have pu := c_rput (s := s3) (c := 0) (x := nI c.1) Tb hm3 (by omega) (by omega) ml (by omega)
  simp (disch := first | omega | assumption | (simp only [wL_1, wL_22, wI_2, wA_2, wQ_1, wQ_21] <;> first | assumption | omega)) only [LIT, LITm, nI_add, n_mul, fa_or, n_31m, n_shl0, n_le, n_lt, n_eq, Option.bind_some, pu]
  have P3' := rwP_p (v := c.1) P3 (by omega)
  have X3' : cX B N t (wI s3 (t + 7 + 2) (T 0 2 * 3 + 0) (nI c.1)) c.2 := cX_w X3 ht (by omega) (by omega) (by omega) (by omega) (by omega) (by omega) (by omega)
  refine lnC_t (s1 := wI s3 (t + 7 + 2) (T 0 2 * 3 + 0) (nI c.1)) (frJ_w (by omega) (by omega)) (by rw [wI_ne (by omega)]) ?_
  refine ln_bt ht (o_num (lo := 0) (hi := 9) hn ht X3' (by omega) (by omega)) frJ_r rfl ?_
  intro d s4 e4 f4 X4
  have P4 := rwP_K P3' f4 (by omega)
  have hm4 : s4.1 (t + 7) 4 = nI (T 0 2) := by rw [P4.2.1 _ (by omega) (by omega) (by omega)]; exact hm
  have pu := c_rput (s := s4) (c := 1) (x := nI d.1) Tb hm4 (by omega) (by omega) ml (by omega)
  simp (disch := first | omega | assumption | (simp only [wL_1, wL_22, wI_2, wA_2, wQ_1, wQ_21] <;> first | assumption | omega)) only [LIT, LITm, nI_add, n_mul, fa_or, n_31m, n_shl0, n_le, n_lt, n_eq, Option.bind_some, pu]
  have P4' := rwP_p (v := d.1) P4 (by omega)
  have X4' : cX B N t (wI s4 (t + 7 + 2) (T 0 2 * 3 + 1) (nI d.1)) d.2 := cX_w X4 ht (by omega) (by omega) (by omega) (by omega) (by omega) (by omega) (by omega)
  refine lnC_t (s1 := wI s4 (t + 7 + 2) (T 0 2 * 3 + 1) (nI d.1)) (frJ_w (by omega) (by omega)) (by rw [wI_ne (by omega)]) ?_
  refine ln_bt ht (o_num (lo := 1) (hi := 99) hn ht X4' (by omega) (by omega)) frJ_r rfl ?_
  intro e s5 e5 f5 X5
  have P5 := rwP_K P4' f5 (by omega)
  have hm5 : s5.1 (t + 7) 4 = nI (T 0 2) := by rw [P5.2.1 _ (by omega) (by omega) (by omega)]; exact hm
  have pu := c_rput (s := s5) (c := 2) (x := nI e.1) Tb hm5 (by omega) (by omega) ml (by omega)
  have P5' := rwP_p (v := e.1) P5 (by omega)
  have X5' : cX B N t (wI s5 (t + 7 + 2) (T 0 2 * 3 + 2) (nI e.1)) e.2 := cX_w X5 ht (by omega) (by omega) (by omega) (by omega) (by omega) (by omega) (by omega)
  have hm5' : (wI s5 (t + 7 + 2) (T 0 2 * 3 + 2) (nI e.1)).1 (t + 7) 4 = nI (T 0 2) := by rw [wI_ne (by omega)]; exact hm5
  have re := c_rend Tb hm5' (by omega) ml
  simp (disch := first | omega | assumption | (simp only [wL_1, wL_22, wI_2, wA_2, wQ_1, wQ_21] <;> first | assumption | omega)) only [LIT, LITm, nI_add, n_mul, fa_or, n_31m, n_shl0, n_le, n_lt, n_eq, Option.bind_some, pu, re]
  refine lnC_t (s1 := wI s5 (t + 7 + 2) (T 0 2 * 3 + 2) (nI e.1)) (frJ_w (by omega) (by omega)) (by rw [wI_ne (by omega)]) ?_
  have fr := fin_row (τ := 2) (vals := [(adQ B N q).1.2.1, c.1, d.1, e.1]) (by omega) ht ⟨X, D, hM⟩ P5' X5' rfl rfl (fun _ => rfl) (fun c h => by
    have h : c < 3 := h
    rcases (by omega : c = 0 ∨ c = 1 ∨ c = 2) with rfl | rfl | rfl <;> rfl)
  exact ⟨_, rfl, fr⟩
theorem c_wlk (hn : 239 ≤ n) (ht : t = 6 ∨ t = 29) (hL : cL B N t s x) (hW : WX x.2.1) : lnC B N t s (fX3_readWalk n (mk s) 3) (wlkV B N x) := by
  obtain ⟨q, T, M⟩ := x
  obtain ⟨X, D, hM⟩ := hL
  have Tb := TB_3 (t := t) hn ht
  have hm : s.1 (t + 10) 4 = nI (T 0 3) := (D.1 3 (by omega)).1
  have hmw : s.1 (t + 7) 4 = nI (T 0 2) := (D.1 2 (by omega)).1
  have hmp : s.1 (t + 4) 4 = nI (T 0 1) := (D.1 1 (by omega)).1
  have sz : T 0 3 ≤ 12 := hW.1.2.2.2.1
  have szw : T 0 2 ≤ 4 := hW.1.2.2.1
  have szp : T 0 1 ≤ 9 := hW.1.2.1
  have r0 := B_31 hn ht X.2.1
  unfold fX3_readWalk wlkV
  simp (disch := first | omega | assumption | (simp only [wL_1, wL_22, wI_2, wA_2, wQ_1, wQ_21] <;> first | assumption | omega)) only [LIT, LITm, nI_add, n_mul, fa_or, n_31m, n_shl0, n_le, n_lt, n_eq, Option.bind_some, r0, B_rd hn, B_t hn ht]
  refine ln_bt ht (o_row hn ht X Tb hm (by omega) sz) frJ_r rfl ?_
  intro a s2 e1 f1 X2
  obtain ⟨ml, rfl⟩ := rw_ok e1
  have P2 : rwP (t + 10) (T 0 3) 3 s s2 none [] := rwP_0 f1 (by omega)
  have r2 := B_31 hn ht X2.2.1
  simp (disch := first | omega | assumption | (simp only [wL_1, wL_22, wI_2, wA_2, wQ_1, wQ_21] <;> first | assumption | omega)) only [LIT, LITm, nI_add, n_mul, fa_or, n_31m, n_shl0, n_le, n_lt, n_eq, Option.bind_some, r2, B_t hn ht]
  have hm2 : s2.1 (t + 7) 4 = nI (T 0 2) := by rw [P2.2.1 _ (by omega) (by omega) (by omega)]; exact hmw
  refine ln_bt ht (o_told (f := T 8) hn ht X2 (TB_2 hn ht) hm2 (by omega) szw (by rw [P2.2.1 _ (by omega) (by omega) (by omega)]; exact nm_2 D hW)) frJ_r rfl ?_
  intro c s3 e3 f3 X3
  have P3 := rwP_K P2 f3 (by omega)
  have hm3 : s3.1 (t + 10) 4 = nI (T 0 3) := by rw [P3.2.1 _ (by omega) (by omega) (by omega)]; exact hm
  have pu := c_rput (s := s3) (c := 0) (x := nI c.1) Tb hm3 (by omega) (by omega) ml (by omega)
  have P3' : rwP (t + 10) (T 0 3) 3 s (wI s3 (t + 10 + 2) (T 0 3 * 3 + 0) (nI c.1)) none [c.1] := rwP_p (v := c.1) P3 (by omega)
  have X3' : cX B N t (wI s3 (t + 10 + 2) (T 0 3 * 3 + 0) (nI c.1)) c.2 := cX_w X3 ht (by omega) (by omega) (by omega) (by omega) (by omega) (by omega) (by omega)
  have r3 := B_31 hn ht X3'.2.1
  simp (disch := first | omega | assumption | (simp only [wL_1, wL_22, wI_2, wA_2, wQ_1, wQ_21] <;> first | assumption | omega)) only [LIT, LITm, nI_add, n_mul, fa_or, n_31m, n_shl0, n_le, n_lt, n_eq, Option.bind_some, pu, r3, B_t hn ht]
  refine lnC_t (s1 := wI s3 (t + 10 + 2) (T 0 3 * 3 + 0) (nI c.1)) (frJ_w (by omega) (by omega)) (by rw [wI_ne (by omega)]) ?_
  have hm3' : (wI s3 (t + 10 + 2) (T 0 3 * 3 + 0) (nI c.1)).1 (t + 4) 4 = nI (T 0 1) := by rw [P3'.2.1 _ (by omega) (by omega) (by omega)]; exact hmp
  refine ln_bt ht (o_told (f := T 2) hn ht X3' (TB_1 hn ht) hm3' (by omega) szp (by rw [P3'.2.1 _ (by omega) (by omega) (by omega)]; exact nm_1 D hW)) frJ_r rfl ?_
  intro d s4 e4 f4 X4
  have P4 := rwP_K P3' f4 (by omega)
  have hm4 : s4.1 (t + 10) 4 = nI (T 0 3) := by rw [P4.2.1 _ (by omega) (by omega) (by omega)]; exact hm
  have pu := c_rput (s := s4) (c := 1) (x := nI d.1) Tb hm4 (by omega) (by omega) ml (by omega)
  simp (disch := first | omega | assumption | (simp only [wL_1, wL_22, wI_2, wA_2, wQ_1, wQ_21] <;> first | assumption | omega)) only [LIT, LITm, nI_add, n_mul, fa_or, n_31m, n_shl0, n_le, n_lt, n_eq, Option.bind_some, pu]
  have P4' := rwP_p (v := d.1) P4 (by omega)
  have X4' : cX B N t (wI s4 (t + 10 + 2) (T 0 3 * 3 + 1) (nI d.1)) d.2 := cX_w X4 ht (by omega) (by omega) (by omega) (by omega) (by omega) (by omega) (by omega)
  refine lnC_t (s1 := wI s4 (t + 10 + 2) (T 0 3 * 3 + 1) (nI d.1)) (frJ_w (by omega) (by omega)) (by rw [wI_ne (by omega)]) ?_
  refine ln_bt ht (o_num (lo := 0) (hi := 99) hn ht X4' (by omega) (by omega)) frJ_r rfl ?_
  intro e s5 e5 f5 X5
  have P5 := rwP_K P4' f5 (by omega)
  have hm5 : s5.1 (t + 10) 4 = nI (T 0 3) := by rw [P5.2.1 _ (by omega) (by omega) (by omega)]; exact hm
  have pu := c_rput (s := s5) (c := 2) (x := nI e.1) Tb hm5 (by omega) (by omega) ml (by omega)
  have P5' := rwP_p (v := e.1) P5 (by omega)
  have X5' : cX B N t (wI s5 (t + 10 + 2) (T 0 3 * 3 + 2) (nI e.1)) e.2 := cX_w X5 ht (by omega) (by omega) (by omega) (by omega) (by omega) (by omega) (by omega)
  have hm5' : (wI s5 (t + 10 + 2) (T 0 3 * 3 + 2) (nI e.1)).1 (t + 10) 4 = nI (T 0 3) := by rw [wI_ne (by omega)]; exact hm5
  have re := c_rend Tb hm5' (by omega) ml
  simp (disch := first | omega | assumption | (simp only [wL_1, wL_22, wI_2, wA_2, wQ_1, wQ_21] <;> first | assumption | omega)) only [LIT, LITm, nI_add, n_mul, fa_or, n_31m, n_shl0, n_le, n_lt, n_eq, Option.bind_some, pu, re]
  refine lnC_t (s1 := wI s5 (t + 10 + 2) (T 0 3 * 3 + 2) (nI e.1)) (frJ_w (by omega) (by omega)) (by rw [wI_ne (by omega)]) ?_
  have fr := fin_row (τ := 3) (vals := [c.1, d.1, e.1]) (by omega) ht ⟨X, D, hM⟩ P5' X5' rfl rfl (fun h => by omega) (fun c h => by
    have h : c < 3 := h
    rcases (by omega : c = 0 ∨ c = 1 ∨ c = 2) with rfl | rfl | rfl <;> rfl)
  exact ⟨_, rfl, fr⟩
theorem c_bul (hn : 239 ≤ n) (ht : t = 6 ∨ t = 29) (hL : cL B N t s x) (hW : WX x.2.1) : lnC B N t s (fX3_readBull n (mk s) 3) (bulV B N x) := by
  obtain ⟨q, T, M⟩ := x
  obtain ⟨X, D, hM⟩ := hL
  have Tb := TB_4 (t := t) hn ht
  have hm : s.1 (t + 13) 4 = nI (T 0 4) := (D.1 4 (by omega)).1
  have hmp : s.1 (t + 4) 4 = nI (T 0 1) := (D.1 1 (by omega)).1
  have sz : T 0 4 ≤ 6 := hW.1.2.2.2.2
  have szp : T 0 1 ≤ 9 := hW.1.2.1
  have r0 := B_31 hn ht X.2.1
  unfold fX3_readBull bulV
  simp (disch := first | omega | assumption | (simp only [wL_1, wL_22, wI_2, wA_2, wQ_1, wQ_21] <;> first | assumption | omega)) only [LIT, LITm, nI_add, n_mul, fa_or, n_31m, n_shl0, n_le, n_lt, n_eq, Option.bind_some, r0, B_rd hn, B_t hn ht]
  refine ln_bt ht (o_row hn ht X Tb hm (by omega) sz) frJ_r rfl ?_
  intro a s2 e1 f1 X2
  obtain ⟨ml, rfl⟩ := rw_ok e1
  have P2 : rwP (t + 13) (T 0 4) 3 s s2 none [] := rwP_0 f1 (by omega)
  have r2 := B_31 hn ht X2.2.1
  simp (disch := first | omega | assumption | (simp only [wL_1, wL_22, wI_2, wA_2, wQ_1, wQ_21] <;> first | assumption | omega)) only [LIT, LITm, nI_add, n_mul, fa_or, n_31m, n_shl0, n_le, n_lt, n_eq, Option.bind_some, r2, B_t hn ht]
  have hm2 : s2.1 (t + 4) 4 = nI (T 0 1) := by rw [P2.2.1 _ (by omega) (by omega) (by omega)]; exact hmp
  refine ln_bt ht (o_told (f := T 2) hn ht X2 (TB_1 hn ht) hm2 (by omega) szp (by rw [P2.2.1 _ (by omega) (by omega) (by omega)]; exact nm_1 D hW)) frJ_r rfl ?_
  intro c s3 e3 f3 X3
  have P3 := rwP_K P2 f3 (by omega)
  have hm3 : s3.1 (t + 13) 4 = nI (T 0 4) := by rw [P3.2.1 _ (by omega) (by omega) (by omega)]; exact hm
  have pu := c_rput (s := s3) (c := 0) (x := nI c.1) Tb hm3 (by omega) (by omega) ml (by omega)
  have P3' := rwP_p (v := c.1) P3 (by omega)
  have X3' : cX B N t (wI s3 (t + 13 + 2) (T 0 4 * 3 + 0) (nI c.1)) c.2 := cX_w X3 ht (by omega) (by omega) (by omega) (by omega) (by omega) (by omega) (by omega)
  simp (disch := first | omega | assumption | (simp only [wL_1, wL_22, wI_2, wA_2, wQ_1, wQ_21] <;> first | assumption | omega)) only [LIT, LITm, nI_add, n_mul, fa_or, n_31m, n_shl0, n_le, n_lt, n_eq, Option.bind_some, pu]
  refine lnC_t (s1 := wI s3 (t + 13 + 2) (T 0 4 * 3 + 0) (nI c.1)) (frJ_w (by omega) (by omega)) (by rw [wI_ne (by omega)]) ?_
  refine ln_bt ht (o_num (lo := 0) (hi := 99) hn ht X3' (by omega) (by omega)) frJ_r rfl ?_
  intro d s4 e4 f4 X4
  have P4 := rwP_K P3' f4 (by omega)
  have hm4 : s4.1 (t + 13) 4 = nI (T 0 4) := by rw [P4.2.1 _ (by omega) (by omega) (by omega)]; exact hm
  have pu := c_rput (s := s4) (c := 1) (x := nI d.1) Tb hm4 (by omega) (by omega) ml (by omega)
  simp (disch := first | omega | assumption | (simp only [wL_1, wL_22, wI_2, wA_2, wQ_1, wQ_21] <;> first | assumption | omega)) only [LIT, LITm, nI_add, n_mul, fa_or, n_31m, n_shl0, n_le, n_lt, n_eq, Option.bind_some, pu]
  have P4' := rwP_p (v := d.1) P4 (by omega)
  have X4' : cX B N t (wI s4 (t + 13 + 2) (T 0 4 * 3 + 1) (nI d.1)) d.2 := cX_w X4 ht (by omega) (by omega) (by omega) (by omega) (by omega) (by omega) (by omega)
  refine lnC_t (s1 := wI s4 (t + 13 + 2) (T 0 4 * 3 + 1) (nI d.1)) (frJ_w (by omega) (by omega)) (by rw [wI_ne (by omega)]) ?_
  refine ln_bt ht (o_num (lo := 0) (hi := 99) hn ht X4' (by omega) (by omega)) frJ_r rfl ?_
  intro e s5 e5 f5 X5
  have P5 := rwP_K P4' f5 (by omega)
  have hm5 : s5.1 (t + 13) 4 = nI (T 0 4) := by rw [P5.2.1 _ (by omega) (by omega) (by omega)]; exact hm
  have pu := c_rput (s := s5) (c := 2) (x := nI e.1) Tb hm5 (by omega) (by omega) ml (by omega)
  have P5' := rwP_p (v := e.1) P5 (by omega)
  have X5' : cX B N t (wI s5 (t + 13 + 2) (T 0 4 * 3 + 2) (nI e.1)) e.2 := cX_w X5 ht (by omega) (by omega) (by omega) (by omega) (by omega) (by omega) (by omega)
  have hm5' : (wI s5 (t + 13 + 2) (T 0 4 * 3 + 2) (nI e.1)).1 (t + 13) 4 = nI (T 0 4) := by rw [wI_ne (by omega)]; exact hm5
  have re := c_rend Tb hm5' (by omega) ml
  simp (disch := first | omega | assumption | (simp only [wL_1, wL_22, wI_2, wA_2, wQ_1, wQ_21] <;> first | assumption | omega)) only [LIT, LITm, nI_add, n_mul, fa_or, n_31m, n_shl0, n_le, n_lt, n_eq, Option.bind_some, pu, re]
  refine lnC_t (s1 := wI s5 (t + 13 + 2) (T 0 4 * 3 + 2) (nI e.1)) (frJ_w (by omega) (by omega)) (by rw [wI_ne (by omega)]) ?_
  have fr := fin_row (τ := 4) (vals := [c.1, d.1, e.1]) (by omega) ht ⟨X, D, hM⟩ P5' X5' rfl rfl (fun h => by omega) (fun c h => by
    have h : c < 3 := h
    rcases (by omega : c = 0 ∨ c = 1 ∨ c = 2) with rfl | rfl | rfl <;> rfl)
  exact ⟨_, rfl, fr⟩
end Cp
