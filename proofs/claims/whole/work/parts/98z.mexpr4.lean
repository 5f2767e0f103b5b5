/-! ===== expressions on the reference: nots, numbers and names ===== -/
section Mz4
variable {n N k a r : Nat} {B : Nat → Nat} {s s' s1 s2 : zS} {q : zQ} {y : zY} {W : List Nat} {o : List (Nat × Nat)} {kc br : Nat} {wa may : Bool} {tok : zK}
theorem m_leafB (hn : 239 ≤ n) (hy : mY B N a s y) (hj : jY a y) (hw : y.2.2.2.1 = true) (h14 : y.1.1.1 = 14) (hm : y.2.2.2.2 = true) : (64 ≤ y.1.2.2 → erM a s (fX11_leafRead n (mk s) 187) (2, y.1.1.2.2.1)) ∧ (¬ 64 ≤ y.1.2.2 → stM B N a s (fX11_leafRead n (mk s) 187) (kcQ B N y.1, 14 :: y.2.1, y.2.2.1, true, true)) := by
  obtain ⟨⟨tok, o, kc⟩, W, br, wa, may⟩ := y
  obtain ⟨hH, ⟨h1, h2, h3, h4, h5, h6, h7⟩, h8, h9, h10⟩ := hy
  have hw : wa = true := hw
  subst hw
  have hm : may = true := hm
  subst hm
  have h14 : tok.1 = 14 := h14
  have j6 : W.length = nnW W + br := hj.2.2.2.2.2.1
  have j5 : o.length + nnW W = kc := hj.2.2.2.1
  have j7 : kc ≤ 64 := hj.2.2.2.2.1
  have j8 : br ≤ 8 := hj.2.2.2.2.2.2
  have h2 : s.1 187 54 = nI kc := h2
  have h3 : s.1 187 51 = nI W.length := h3
  have h7 : s.1 187 56 = nI 1 := h7
  have sg : fX11_isSign n (mk s) 187 (nI 40) = some (nI (decide (tok.1 = 25)).toNat, mk s) := m_isSign (n := n) (k := 25) (q := (tok, o, kc)) hn hH.2.1 hH.2.2.1 (by decide) (by omega)
  rw [decide_eq_false (by omega)] at sg
  have ky : fX11_isKey n (mk s) 187 (nI 14) = some (nI (decide (tok.1 = 14)).toNat, mk s) := m_isKey (n := n) (k := 14) (q := (tok, o, kc)) hn hH.2.1 ⟨hH.2.2.1, hH.2.2.2.1⟩ (by omega)
  rw [decide_eq_true h14] at ky
  have cn := m_cnt (a := a) (kc := kc) hn hH h2 j7
  unfold fX11_leafRead
  constructor
  · intro g
    obtain ⟨s', c1, c2, c3⟩ := cn.1 g
    refine ⟨s', ?_, c2, c3⟩
    simp (disch := first | omega | assumption | (simp only [wL_1, wL_22, wI_2, wA_2, wQ_1, wQ_21] <;> first | assumption | omega)) only [LIT, LITm, nI_add, n_mul, fa_or, n_31m, n_shl0, n_le, n_lt, n_eq, Option.bind_some, B_m hn, sg, ky, h7, c1, Bool.toNat_false, Bool.toNat_true, Nat.reduceEqDiff, not_true_eq_false, ↓reduceIte]
  · intro g
    have c1 := cn.2 g
    have wt := m_wts (n := n) (s := wI s 187 54 (nI (kc + 1))) (h := 14) (c := nI 2) (W := W) hn rfl (by rw [wI_at, upd_ne (by omega)]; exact h3) (by omega)
    obtain ⟨sb, eb⟩ : ∃ sb : zS, sb = wI (wI (wI s 187 54 (nI (kc + 1))) 215 W.length (nI (wcd 14))) 187 51 (nI (W.length + 1)) := ⟨_, rfl⟩
    have o184 : ∀ j, j ≠ 51 → j ≠ 54 → sb.1 187 j = s.1 187 j := fun j g1 g2 => by rw [eb, wI_at, upd_ne g1, wI_ne (by omega), wI_at, upd_ne g2]
    have oth : ∀ b, b ≠ 187 → b ≠ 215 → sb.1 b = s.1 b := fun b g1 g2 => by rw [eb, wI_ne g1, wI_ne g2, wI_ne g1]
    have w12 : sb.1 215 = upd (s.1 215) W.length (nI (wcd 14)) := by rw [eb, wI_ne (by omega), wI_at, wI_ne (by omega)]
    have Hb : mHd B N sb tok := mHd_f hH (fun j h1 h2 => o184 j (by omega) (by omega)) (oth 188 (by omega) (by omega)) (oth 189 (by omega) (by omega))
    have Rb : mR a sb o (kc + 1) (14 :: W) br true true := by
      refine ⟨⟨by rw [o184 23 (by omega) (by omega)]; exact h1, ?_, ?_, by rw [o184 52 (by omega) (by omega)]; exact h4, by rw [o184 53 (by omega) (by omega)]; exact h5, by rw [o184 55 (by omega) (by omega)]; exact h6, by rw [o184 56 (by omega) (by omega)]; exact h7⟩, ⟨by rw [w12, upd_at], ws_f W (fun j hj => by rw [w12, upd_ne (by omega)]) h8⟩, hs_f _ (fun j _ => by rw [oth 216 (by omega) (by omega)]) h9, kn_f o (fun j _ => by rw [oth 212 (by omega) (by omega), oth 213 (by omega) (by omega), oth 214 (by omega) (by omega)]; exact ⟨rfl, rfl, rfl⟩) h10⟩
      · rw [eb, wI_at, upd_ne (by omega), wI_ne (by omega), wI_at, upd_at]
      · rw [eb, wI_at, upd_at]; rfl
    obtain ⟨s', b, c, d⟩ := m_adv hn Hb Rb
    refine ⟨s', ?_, frE2_t ?_ c, d⟩
    · rw [eb] at b
      simp (disch := first | omega | assumption | (simp only [wL_1, wL_22, wI_2, wA_2, wQ_1, wQ_21] <;> first | assumption | omega)) only [LIT, LITm, nI_add, n_mul, fa_or, n_31m, n_shl0, n_le, n_lt, n_eq, Option.bind_some, B_m hn, sg, ky, h7, c1, wt, b, Bool.toNat_false, Bool.toNat_true, Nat.reduceEqDiff, not_false_eq_true, ↓reduceIte]
    · rw [eb]
      exact frE2_t (frE2_w (by omega)) (frE2_t (frE2_a (by omega)) (frE2_w (by omega)))
theorem m_name (hn : 239 ≤ n) (hT : mTk s tok) (hz : tok.1 ≤ 38) : fX11_nameMet n (mk s) 187 = some (if 15 ≤ tok.1 ∧ tok.1 ≤ 21 then nI (tok.1 - 15) else m1, mk s) := by
  unfold fX11_nameMet
  have p8 : ∀ s, pI n (mk s) 187 11 8 = some (s.1 187 8) := fun s => by simp only [B_m hn]
  have p9 : ∀ s, pI n (mk s) 187 11 9 = some (s.1 187 9) := fun s => by simp only [B_m hn]
  rw [(B_m hn).1, Option.bind_some, p8, Option.bind_some]
  have no : ∀ v, v ≠ 1 → v < 100 → s.1 187 8 = nI v → ¬ (15 ≤ tok.1 ∧ tok.1 ≤ 21) → (if ¬ s.1 187 8 = (1 : Int32) then some ((-1 : Int32), mk s) else (pI n (mk s) 187 11 9).bind fun x2 => if x2 < (15 : Int32) then some ((-1 : Int32), mk s) else (pI n (mk s) 187 11 9).bind fun x3 => some (x3 - (15 : Int32), mk s)) = some (if 15 ≤ tok.1 ∧ tok.1 ≤ 21 then nI (tok.1 - 15) else m1, mk s) := by
    intro v h1 h2 h3 h4
    rw [if_neg h4, h3, if_pos (show ¬ nI v = (1 : Int32) by
      show ¬ nI v = nI 1
      rw [n_eq (by omega) (by omega)]; exact h1)]
    rfl
  rcases hT.1 with ⟨e, b⟩ | ⟨e, b, c⟩ | ⟨e, b, c⟩ | ⟨e, b, c⟩ | ⟨e, e', b, c⟩ | ⟨e, b, c⟩ | ⟨e, b⟩
  · exact no 0 (by omega) (by omega) b (by omega)
  · have tab : ∀ k : Fin 22, (if nI (sw k.1) < (15 : Int32) then (-1 : Int32) else nI (sw k.1) - (15 : Int32)) = (if 15 ≤ k.1 ∧ k.1 ≤ 21 then nI (k.1 - 15) else m1) := by decide +kernel
    have tb : (if nI (sw tok.1) < (15 : Int32) then (-1 : Int32) else nI (sw tok.1) - (15 : Int32)) = (if 15 ≤ tok.1 ∧ tok.1 ≤ 21 then nI (tok.1 - 15) else m1) := tab ⟨tok.1, e⟩
    rw [b, if_neg (show ¬ ¬ nI 1 = (1 : Int32) from fun g => g rfl), p9, Option.bind_some, c, ← tb]
    by_cases g : nI (sw tok.1) < (15 : Int32)
    · rw [if_pos g, if_pos g]
    · rw [if_neg g, if_neg g, Option.bind_some]
  · exact no 2 (by omega) (by omega) b (by omega)
  · exact no 3 (by omega) (by omega) b (by omega)
  · exact no 5 (by omega) (by omega) b (by omega)
  · have sl : ∀ k : Fin 39, sgC k.1 ≠ 0 → 24 ≤ k.1 := by decide +kernel
    have : 24 ≤ tok.1 := sl ⟨tok.1, by omega⟩ e
    exact no 4 (by omega) (by omega) b (by omega)
  · rcases b with b | ⟨b, _⟩
    · exact no 6 (by omega) (by omega) b (by omega)
    · exact no 4 (by omega) (by omega) b (by omega)
/-- a number or a name is told -/
theorem m_leaf160 {x1 x2 : Int32} {v : Nat} (hn : 239 ≤ n) (hH : mHd B N s tok) (hR : mR a s o kc W br true may) (hl : o.length < 64) (ha : a ≤ o.length) (lf : isLf tok.1 = true) (he : ∀ I : Nat → Nat → Int32, I 212 (64 + o.length) = x1 → I 213 (64 + o.length) = x2 → kE I (64 + o.length) (tok.1, v) (hdK a o)) : stM B N a s (fX11_leafRead_160 n (mk s) 187 x2 x1 187) ((lxV B N tok.2.2.2, (tok.1, v) :: o, kc), W, br, false, may) := by
  obtain ⟨⟨h1, h2, h3, h4, h5, h6, h7⟩, h8, h9, h10⟩ := hR
  have hd := hd_le a o
  have gr := m_grown (n := n) (s := s) (L := o.length) (H := (hdK a o).length) (x1 := x1) (x2 := x2) (x3 := nI 0) hn h1 h4 hl (by omega)
  have hd' : hdK a ((tok.1, v) :: o) = o.length :: hdK a o := by
    show (if o.length < a then [] else if isLf tok.1 = true then o.length :: hdK a o else _) = _
    rw [if_neg (by omega), if_pos lf]
  have nz := mZ_g (s := s) (W := W) (o := o) (a := a) (x := (tok.1, v)) (l' := hdK a o) (x1 := x1) (x2 := x2) (x3 := nI 0) h8 h3 h9 h10 ha hd' (fun I i1 i2 _ => he I i1 i2)
  have gv := gr_V (s := s) (a := a) (L := o.length) (H := (hdK a o).length) (x1 := x1) (x2 := x2) (x3 := nI 0) ha
  obtain ⟨sg, eg⟩ : ∃ sg : zS, sg = grS s o.length (hdK a o).length x1 x2 (nI 0) := ⟨_, rfl⟩
  rw [← eg] at gr nz gv
  obtain ⟨⟨z1, z2, z3⟩, z4, z5, z6⟩ := nz
  have Hb : mHd B N (wI sg 187 55 (nI 0)) tok := mHd_f hH (fun j g1 g2 => by rw [wI_at, upd_ne (by omega)]; exact gv.2.2.1 j (by omega) (by omega) (by omega)) (by rw [wI_ne (by omega)]; exact gv.2.1 188 (by omega) (by omega) (by omega) (by omega) (by omega) (by omega)) (by rw [wI_ne (by omega)]; exact gv.2.1 189 (by omega) (by omega) (by omega) (by omega) (by omega) (by omega))
  have Rb : mR a (wI sg 187 55 (nI 0)) ((tok.1, v) :: o) kc W br false may := by
    refine ⟨⟨?_, ?_, ?_, ?_, ?_, ?_, ?_⟩, ws_f W (fun j _ => by rw [wI_ne (by omega)]) z4, hs_f _ (fun j _ => by rw [wI_ne (by omega)]) z5, kn_f _ (fun j _ => by rw [wI_ne (by omega), wI_ne (by omega), wI_ne (by omega)]; exact ⟨rfl, rfl, rfl⟩) z6⟩
    · rw [wI_at, upd_ne (by omega)]; exact z1
    · rw [wI_at, upd_ne (by omega), gv.2.2.1 54 (by omega) (by omega) (by omega)]; exact h2
    · rw [wI_at, upd_ne (by omega)]; exact z2
    · rw [wI_at, upd_ne (by omega)]; exact z3
    · rw [wI_at, upd_ne (by omega), gv.2.2.1 53 (by omega) (by omega) (by omega)]; exact h5
    · rw [wI_at, upd_at]; rfl
    · rw [wI_at, upd_ne (by omega), gv.2.2.1 56 (by omega) (by omega) (by omega)]; exact h7
  obtain ⟨s', b, c, d⟩ := m_adv hn Hb Rb
  refine ⟨s', ?_, frE2_t (frBd_E gv) (frE2_t (frE2_w (by omega)) c), d⟩
  unfold fX11_leafRead_160
  have w55 : ∀ s : zS, sF n (mk s) 187 11 55 .boolean (.int (nI 0)) = some (mk (wI s 187 55 (nI 0))) := fun s => (B_mz hn).1 s 0 (by omega)
  have z0 : (0 : Int32) = nI 0 := rfl
  rw [z0, gr, Option.bind_some, w55, Option.bind_some, b, Option.bind_some]
  rfl
end Mz4
