/-! ===== expressions on the reference: leaves ===== -/
section My
variable {n N k a r : Nat} {B : Nat → Nat} {s s' s1 s2 : zS} {q : zQ} {y : zY} {W : List Nat} {o : List (Nat × Nat)} {kc br : Nat} {wa may : Bool} {tok : zK}
def mR (a : Nat) (s : zS) (o : List (Nat × Nat)) (kc : Nat) (W : List Nat) (br : Nat) (wa may : Bool) : Prop := (s.1 187 23 = nI o.length ∧ s.1 187 54 = nI kc ∧ s.1 187 51 = nI W.length ∧ s.1 187 52 = nI (hdK a o).length ∧ s.1 187 53 = nI br ∧ s.1 187 55 = nI wa.toNat ∧ s.1 187 56 = nI may.toNat) ∧ wsM s.1 W ∧ hsM s.1 (hdK a o) ∧ knM s.1 a o
def mHd (B : Nat → Nat) (N : Nat) (s : zS) (tok : zK) : Prop := mtT s B N ∧ mTk s tok ∧ zkW N tok
/-- what holds of what waits, in numbers alone -/
def jY (a : Nat) (y : zY) : Prop := (∀ h, h ∈ y.2.1 → okW h ∧ h ≤ 38) ∧ (hdK a y.1.2.1).length + y.2.2.2.1.toNat = bnW y.2.1 + 1 ∧ a ≤ y.1.2.1.length ∧ y.1.2.1.length + nnW y.2.1 = y.1.2.2 ∧ y.1.2.2 ≤ 64 ∧ y.2.1.length = nnW y.2.1 + y.2.2.1 ∧ y.2.2.1 ≤ 8
def erM (a : Nat) (s : zS) (c : Option (Int32 × ai_H)) (e : Nat × Nat) : Prop := ∃ s' : zS, c = some (nI 0, mk s') ∧ frE3 a s s' ∧ s'.1 187 4 = nI e.1 ∧ s'.1 187 5 = nI e.2
theorem erM_t {c : Option (Int32 × ai_H)} {e : Nat × Nat} (h : frE2 a s s1) (g : erM a s1 c e) : erM a s c e := by
  obtain ⟨s', b, d, f⟩ := g
  exact ⟨s', b, frE3_t (frE2_3 h) d, f⟩
theorem mR_f (h : mR a s o kc W br wa may) (e0 : ∀ j, j = 23 ∨ (51 ≤ j ∧ j ≤ 56) → s1.1 187 j = s.1 187 j) (e1 : ∀ b, 212 ≤ b → b ≤ 216 → s1.1 b = s.1 b) : mR a s1 o kc W br wa may := by
  obtain ⟨⟨h1, h2, h3, h4, h5, h6, h7⟩, h8, h9, h10⟩ := h
  refine ⟨⟨?_, ?_, ?_, ?_, ?_, ?_, ?_⟩, ws_f W (fun j _ => by rw [e1 215 (by omega) (by omega)]) h8, hs_f _ (fun j _ => by rw [e1 216 (by omega) (by omega)]) h9, kn_f o (fun j _ => by rw [e1 212 (by omega) (by omega), e1 213 (by omega) (by omega), e1 214 (by omega) (by omega)]; exact ⟨rfl, rfl, rfl⟩) h10⟩
  · rw [e0 23 (by omega)]; exact h1
  · rw [e0 54 (by omega)]; exact h2
  · rw [e0 51 (by omega)]; exact h3
  · rw [e0 52 (by omega)]; exact h4
  · rw [e0 53 (by omega)]; exact h5
  · rw [e0 55 (by omega)]; exact h6
  · rw [e0 56 (by omega)]; exact h7
theorem mHd_f (h : mHd B N s tok) (e0 : ∀ j, 6 ≤ j → j ≤ 10 → s1.1 187 j = s.1 187 j) (e1 : s1.1 188 = s.1 188) (e2 : s1.1 189 = s.1 189) : mHd B N s1 tok := by
  obtain ⟨⟨t1, t2, t3, t4, t5⟩, ⟨k1, k2, k3⟩, z⟩ := h
  refine ⟨⟨by rw [e0 6 (by omega) (by omega)]; exact t1, t2, by rw [e1]; exact t3, t4, by rw [e2]; exact t5⟩, ⟨?_, ?_, ?_⟩, z⟩
  · rw [e0 8 (by omega) (by omega), e0 9 (by omega) (by omega)]; exact k1
  · rw [e0 10 (by omega) (by omega)]; exact k2
  · rw [e0 7 (by omega) (by omega)]; exact k3
/-- the next token is met -/
theorem m_adv (hn : 239 ≤ n) (hH : mHd B N s tok) (hR : mR a s o kc W br wa may) : ∃ s', fX11_token n (mk s) 187 = some ((), mk s') ∧ frE2 a s s' ∧ mY B N a s' ((lxV B N tok.2.2.2, o, kc), W, br, wa, may) := by
  obtain ⟨s', b, c, d⟩ := m_tok hn hH.1 hH.2.1.2.2 hH.2.2.2.2.2
  exact ⟨s', b, frR_E2 c, ⟨mtT_R hH.1 c, d, lx_w hH.2.2.2.2.2⟩, mR_f hR (fun j hj => c.2.2 j (by omega) (by omega) (by omega) (by omega)) (fun b h1 h2 => c.2.1 b (by omega))⟩
theorem gz_0 : gZ (nI 0) = some () := by decide
theorem m_wr (hn : 239 ≤ n) (hH : mHd B N s tok) : erM a s ((fX11_wrong n (mk s) 187 (nI k)).bind fun q => (gZ q.1).bind fun _ => some (q.1, q.2)) (k, tok.2.2.1) := by
  refine ⟨wI (wI s 187 4 (nI k)) 187 5 (s.1 187 10), ?_, frE3_t (frE3_w (by omega)) (frE3_w (by omega)), ?_, ?_⟩
  · unfold fX11_wrong
    simp (disch := first | omega | assumption | (simp only [wL_1, wL_22, wI_2, wA_2, wQ_1, wQ_21] <;> first | assumption | omega)) only [LIT, LITm, nI_add, n_mul, fa_or, n_31m, n_shl0, n_le, n_lt, n_eq, Option.bind_some, B_m hn, wI_at, upd_ne, ne_eq, gz_0]
  · rw [wI_at, upd_ne (by omega), wI_at, upd_at]
  · rw [wI_at, upd_at]; exact hH.2.1.2.1
theorem m_cnt (hn : 239 ≤ n) (hH : mHd B N s tok) (h54 : s.1 187 54 = nI kc) (h64 : kc ≤ 64) : (64 ≤ kc → erM a s (fX11_isCounted n (mk s) 187) (2, tok.2.2.1)) ∧ (¬ 64 ≤ kc → fX11_isCounted n (mk s) 187 = some (nI 1, mk (wI s 187 54 (nI (kc + 1))))) := by
  unfold fX11_isCounted
  constructor
  · intro h
    have w := m_wr (a := a) (k := 2) hn hH
    have e : kc = 64 := by omega
    simp (disch := first | omega | assumption | (simp only [wL_1, wL_22, wI_2, wA_2, wQ_1, wQ_21] <;> first | assumption | omega)) only [LIT, LITm, nI_add, n_mul, fa_or, n_31m, n_shl0, n_le, n_lt, n_eq, Option.bind_some, B_m hn, h54, e, not_true_eq_false, ↓reduceIte]
    exact w
  · intro h
    have ne : ¬ kc = 64 := by omega
    simp (disch := first | omega | assumption | (simp only [wL_1, wL_22, wI_2, wA_2, wQ_1, wQ_21] <;> first | assumption | omega)) only [LIT, LITm, nI_add, n_mul, fa_or, n_31m, n_shl0, n_le, n_lt, n_eq, Option.bind_some, B_m hn, h54, ne, not_false_eq_true, ↓reduceIte]
theorem m_wts {h : Nat} {c : Int32} (hn : 239 ≤ n) (hc : c = nI (wcd h)) (h51 : s.1 187 51 = nI W.length) (hl : W.length < 96) : fX11_waitsFor n (mk s) 187 c = some ((), mk (wI (wI s 215 W.length (nI (wcd h))) 187 51 (nI (W.length + 1)))) := by
  rw [hc]
  unfold fX11_waitsFor
  simp (disch := first | omega | assumption | (simp only [wL_1, wL_22, wI_2, wA_2, wQ_1, wQ_21] <;> first | assumption | omega)) only [LIT, LITm, nI_add, n_mul, fa_or, n_31m, n_shl0, n_le, n_lt, n_eq, Option.bind_some, B_m hn, B_mb hn, h51, wI_ne, ne_eq]
/-- one step, as it waits -/
def stM (B : Nat → Nat) (N a : Nat) (s : zS) (c : Option (Int32 × ai_H)) (y : zY) : Prop := ∃ s', c = some (nI 1, mk s') ∧ frE2 a s s' ∧ mY B N a s' y
theorem m_leafA (hn : 239 ≤ n) (hy : mY B N a s y) (hj : jY a y) (hw : y.2.2.2.1 = true) (h25 : y.1.1.1 = 25) : (y.2.2.1 = 8 → erM a s (fX11_leafRead n (mk s) 187) (2, y.1.1.2.2.1)) ∧ (y.2.2.1 ≠ 8 → stM B N a s (fX11_leafRead n (mk s) 187) (adQ B N y.1, 25 :: y.2.1, y.2.2.1 + 1, true, true)) := by
  obtain ⟨⟨tok, o, kc⟩, W, br, wa, may⟩ := y
  obtain ⟨hH, ⟨h1, h2, h3, h4, h5, h6, h7⟩, h8, h9, h10⟩ := hy
  have hw : wa = true := hw
  subst hw
  have j6 : W.length = nnW W + br := hj.2.2.2.2.2.1
  have j5 : o.length + nnW W = kc := hj.2.2.2.1
  have j7 : kc ≤ 64 := hj.2.2.2.2.1
  have j8 : br ≤ 8 := hj.2.2.2.2.2.2
  have h3 : s.1 187 51 = nI W.length := h3
  have h5 : s.1 187 53 = nI br := h5
  have sg := m_isSign (n := n) (k := 25) (q := (tok, o, kc)) hn hH.2.1 hH.2.2.1 (by decide) (by omega)
  rw [decide_eq_true h25] at sg
  have sg' : fX11_isSign n (mk s) 187 (nI 40) = some (nI 1, mk s) := sg
  unfold fX11_leafRead
  constructor
  · intro e
    have e : br = 8 := e
    have w := m_wr (a := a) (k := 2) hn hH
    rw [e] at h5
    simp (disch := first | omega | assumption | (simp only [wL_1, wL_22, wI_2, wA_2, wQ_1, wQ_21] <;> first | assumption | omega)) only [LIT, LITm, nI_add, n_mul, fa_or, n_31m, n_shl0, n_le, n_lt, n_eq, Option.bind_some, B_m hn, sg', h5, Nat.reduceEqDiff, not_true_eq_false, ↓reduceIte]
    exact w
  · intro e
    have e : br ≠ 8 := e
    have wt := m_wts (n := n) (s := wI s 187 53 (nI (br + 1))) (h := 25) (c := nI 0) (W := W) hn rfl (by rw [wI_at, upd_ne (by omega)]; exact h3) (by omega)
    obtain ⟨sb, eb⟩ : ∃ sb : zS, sb = wI (wI (wI (wI s 187 53 (nI (br + 1))) 215 W.length (nI (wcd 25))) 187 51 (nI (W.length + 1))) 187 56 (nI 1) := ⟨_, rfl⟩
    have Hb : mHd B N sb tok := mHd_f hH (fun j h1 h2 => by rw [eb, wI_at, upd_ne (by omega), wI_at, upd_ne (by omega), wI_ne (by omega), wI_at, upd_ne (by omega)]) (by rw [eb, wI_ne (by omega), wI_ne (by omega), wI_ne (by omega), wI_ne (by omega)]) (by rw [eb, wI_ne (by omega), wI_ne (by omega), wI_ne (by omega), wI_ne (by omega)])
    have Rb : mR a sb o kc (25 :: W) (br + 1) true true := by
      have o184 : ∀ j, j ≠ 51 → j ≠ 53 → j ≠ 56 → sb.1 187 j = s.1 187 j := fun j g1 g2 g3 => by rw [eb, wI_at, upd_ne g3, wI_at, upd_ne g1, wI_ne (by omega), wI_at, upd_ne g2]
      have oth : ∀ b, b ≠ 187 → b ≠ 215 → sb.1 b = s.1 b := fun b g1 g2 => by rw [eb, wI_ne g1, wI_ne g1, wI_ne g2, wI_ne g1]
      have w12 : sb.1 215 = upd (s.1 215) W.length (nI (wcd 25)) := by rw [eb, wI_ne (by omega), wI_ne (by omega), wI_at, wI_ne (by omega)]
      refine ⟨⟨by rw [o184 23 (by omega) (by omega) (by omega)]; exact h1, by rw [o184 54 (by omega) (by omega) (by omega)]; exact h2, ?_, by rw [o184 52 (by omega) (by omega) (by omega)]; exact h4, ?_, by rw [o184 55 (by omega) (by omega) (by omega)]; exact h6, ?_⟩, ⟨by rw [w12, upd_at], ws_f W (fun j hj => by rw [w12, upd_ne (by omega)]) h8⟩, hs_f _ (fun j _ => by rw [oth 216 (by omega) (by omega)]) h9, kn_f o (fun j _ => by rw [oth 212 (by omega) (by omega), oth 213 (by omega) (by omega), oth 214 (by omega) (by omega)]; exact ⟨rfl, rfl, rfl⟩) h10⟩
      · rw [eb, wI_at, upd_ne (by omega), wI_at, upd_at]; rfl
      · rw [eb, wI_at, upd_ne (by omega), wI_at, upd_ne (by omega), wI_ne (by omega), wI_at, upd_at]
      · rw [eb, wI_at, upd_at]; rfl
    obtain ⟨s', b, c, d⟩ := m_adv hn Hb Rb
    refine ⟨s', ?_, frE2_t ?_ c, d⟩
    · have w56 : ∀ s : zS, sF n (mk s) 187 11 56 .boolean (.int (nI 1)) = some (mk (wI s 187 56 (nI 1))) := fun s => (B_mz hn).2.1 s 1 (by omega)
      rw [eb] at b
      simp (disch := first | omega | assumption | (simp only [wL_1, wL_22, wI_2, wA_2, wQ_1, wQ_21] <;> first | assumption | omega)) only [LIT, LITm, nI_add, n_mul, fa_or, n_31m, n_shl0, n_le, n_lt, n_eq, Option.bind_some, B_m hn, sg', h5, e, Nat.reduceEqDiff, not_false_eq_true, ↓reduceIte, wt, w56, b]
    · rw [eb]
      exact frE2_t (frE2_w (by omega)) (frE2_t (frE2_a (by omega)) (frE2_t (frE2_w (by omega)) (frE2_w (by omega))))
end My
