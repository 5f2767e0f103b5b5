/-! ===== expressions on the reference: any leaf ===== -/
section Ma5
variable {n N k a r : Nat} {B : Nat → Nat} {s s' s1 s2 : zS} {q : zQ} {y : zY} {W : List Nat} {o : List (Nat × Nat)} {kc br : Nat} {wa may : Bool} {tok : zK}
theorem tk_3 (hT : mTk s tok) (hz : tok.1 ≤ 38) : (s.1 187 8 = nI 3) = (tok.1 = 23) := by
  apply propext
  have ne : ∀ v, v < 100 → v ≠ 3 → s.1 187 8 = nI v → tok.1 ≠ 23 → (s.1 187 8 = nI 3 ↔ tok.1 = 23) := fun v h1 h2 h3 h4 => by
    rw [h3, n_eq (by omega) (by omega)]
    exact ⟨fun g => absurd g h2, fun g => absurd g h4⟩
  rcases hT.1 with ⟨e, b⟩ | ⟨e, b, c⟩ | ⟨e, b, c⟩ | ⟨e, b, c⟩ | ⟨e, e', b, c⟩ | ⟨e, b, c⟩ | ⟨e, b⟩
  · exact ne 0 (by omega) (by omega) b (by omega)
  · exact ne 1 (by omega) (by omega) b (by omega)
  · exact ne 2 (by omega) (by omega) b (by omega)
  · exact ⟨fun _ => e, fun _ => b⟩
  · exact ne 5 (by omega) (by omega) b (by omega)
  · have sl : ∀ k : Fin 39, sgC k.1 ≠ 0 → 24 ≤ k.1 := by decide +kernel
    have : 24 ≤ tok.1 := sl ⟨tok.1, by omega⟩ e
    exact ne 4 (by omega) (by omega) b (by omega)
  · rcases b with b | ⟨b, _⟩
    · exact ne 6 (by omega) (by omega) b (by omega)
    · exact ne 4 (by omega) (by omega) b (by omega)
theorem tk_v (hT : mTk s tok) (h : tok.1 = 23) : s.1 187 9 = nI tok.2.1 := by
  rcases hT.1 with ⟨e, b⟩ | ⟨e, b, c⟩ | ⟨e, b, c⟩ | ⟨e, b, c⟩ | ⟨e, e', b, c⟩ | ⟨e, b, c⟩ | ⟨e, b⟩
  · omega
  · omega
  · omega
  · exact c
  · omega
  · rw [h] at e; exact absurd rfl e
  · omega
theorem m_leafC (hn : 239 ≤ n) (hy : mY B N a s y) (hj : jY a y) (hw : y.2.2.2.1 = true) (h25 : y.1.1.1 ≠ 25) (h14 : ¬ (y.1.1.1 = 14 ∧ y.2.2.2.2 = true)) :
    (isLf y.1.1.1 = true → (y.1.1.1 = 23 ∧ 9999 < y.1.1.2.1) → erM a s (fX11_leafRead n (mk s) 187) (2, y.1.1.2.2.1)) ∧
    (isLf y.1.1.1 = true → ¬ (y.1.1.1 = 23 ∧ 9999 < y.1.1.2.1) → 64 ≤ y.1.2.2 → erM a s (fX11_leafRead n (mk s) 187) (2, y.1.1.2.2.1)) ∧
    (isLf y.1.1.1 = true → ¬ (y.1.1.1 = 23 ∧ 9999 < y.1.1.2.1) → ¬ 64 ≤ y.1.2.2 → stM B N a s (fX11_leafRead n (mk s) 187) (emQ (y.1.1.1, y.1.1.2.1) (kcQ B N y.1), y.2.1, y.2.2.1, false, y.2.2.2.2)) ∧
    (isLf y.1.1.1 ≠ true → erM a s (fX11_leafRead n (mk s) 187) (1, y.1.1.2.2.1)) := by
  obtain ⟨⟨tok, o, kc⟩, W, br, wa, may⟩ := y
  obtain ⟨hH, hR⟩ := hy
  have hH : mHd B N s tok := hH
  have hw : wa = true := hw
  subst hw
  have hR : mR a s o kc W br true may := hR
  have h25 : tok.1 ≠ 25 := h25
  have h14 : ¬ (tok.1 = 14 ∧ may = true) := h14
  have j5 : o.length + nnW W = kc := hj.2.2.2.1
  have j7 : kc ≤ 64 := hj.2.2.2.2.1
  have ja : a ≤ o.length := hj.2.2.1
  have z38 : tok.1 ≤ 38 := hH.2.2.1
  have h2 : s.1 187 54 = nI kc := hR.1.2.1
  have h7 : s.1 187 56 = nI may.toNat := hR.1.2.2.2.2.2.2
  have sg : fX11_isSign n (mk s) 187 (nI 40) = some (nI (decide (tok.1 = 25)).toNat, mk s) := m_isSign (n := n) (k := 25) (q := (tok, o, kc)) hn hH.2.1 hH.2.2.1 (by decide) (by omega)
  rw [decide_eq_false h25] at sg
  have ky : fX11_isKey n (mk s) 187 (nI 14) = some (nI (decide (tok.1 = 14)).toNat, mk s) := m_isKey (n := n) (k := 14) (q := (tok, o, kc)) hn hH.2.1 ⟨hH.2.2.1, hH.2.2.2.1⟩ (by omega)
  have p56 : pI n (mk s) 187 11 56 = some (s.1 187 56) := by simp only [B_m hn]
  have p8 : pI n (mk s) 187 11 8 = some (s.1 187 8) := by simp only [B_m hn]
  have p9 : ∀ s, pI n (mk s) 187 11 9 = some (s.1 187 9) := fun s => by simp only [B_m hn]
  have z0 : (0 : Int32) = nI 0 := rfl
  have l86 : fX11_leafRead n (mk s) 187 = fX11_leafRead_86 n (mk s) 187 := by
    unfold fX11_leafRead
    have l40 : (40 : Int32) = nI 40 := rfl
    have l14 : (14 : Int32) = nI 14 := rfl
    rw [(B_m hn).1, Option.bind_some, l40, sg, Option.bind_some, if_pos (show nI (false.toNat) = (0 : Int32) from rfl), l14, ky, Option.bind_some]
    by_cases e : tok.1 = 14
    · have mf : may = false := by
        cases may with
        | false => rfl
        | true => exact absurd ⟨e, rfl⟩ h14
      rw [decide_eq_true e, if_neg (show ¬ nI (true.toNat) = (0 : Int32) by decide), p56, Option.bind_some, h7, mf, if_pos (show nI (false.toNat) = (0 : Int32) from rfl)]
    · rw [decide_eq_false e, if_pos (show nI (false.toNat) = (0 : Int32) from rfl)]
  have nm := m_name (n := n) (s := s) hn hH.2.1 z38
  have cn := m_cnt (a := a) (kc := kc) hn hH h2 j7
  -- counted
  have Hc : mHd B N (wI s 187 54 (nI (kc + 1))) tok := mHd_f hH (fun j g1 g2 => by rw [wI_at, upd_ne (by omega)]) (wI_ne (by omega)) (wI_ne (by omega))
  have Rc : mR a (wI s 187 54 (nI (kc + 1))) o (kc + 1) W br true may := by
    obtain ⟨⟨h1, h2, h3, h4, h5, h6, h7⟩, h8, h9, h10⟩ := hR
    refine ⟨⟨?_, ?_, ?_, ?_, ?_, ?_, ?_⟩, ws_f W (fun j _ => by rw [wI_ne (by omega)]) h8, hs_f _ (fun j _ => by rw [wI_ne (by omega)]) h9, kn_f _ (fun j _ => by rw [wI_ne (by omega), wI_ne (by omega), wI_ne (by omega)]; exact ⟨rfl, rfl, rfl⟩) h10⟩
    · rw [wI_at, upd_ne (by omega)]; exact h1
    · rw [wI_at, upd_at]
    · rw [wI_at, upd_ne (by omega)]; exact h3
    · rw [wI_at, upd_ne (by omega)]; exact h4
    · rw [wI_at, upd_ne (by omega)]; exact h5
    · rw [wI_at, upd_ne (by omega)]; exact h6
    · rw [wI_at, upd_ne (by omega)]; exact h7
  have l129e : ∀ v : Int32, 64 ≤ kc → erM a s (fX11_leafRead_129 n (mk s) 187 v) (2, tok.2.2.1) := fun v g => by
    obtain ⟨s', c1, c2, c3⟩ := cn.1 g
    refine ⟨s', ?_, c2, c3⟩
    unfold fX11_leafRead_129
    rw [c1, Option.bind_some, if_neg (show ¬ ¬ nI 0 = (0 : Int32) from fun g => g rfl)]
    rfl
  rw [l86]
  have l9999 : (9999 : Int32) = nI 9999 := rfl
  by_cases nme : 15 ≤ tok.1 ∧ tok.1 ≤ 21
  · rw [if_pos nme] at nm
    have lf : isLf tok.1 = true := decide_eq_true (Or.inr nme)
    have nn : (0 : Int32) ≤ nI (tok.1 - 15) := by
      show nI 0 ≤ nI (tok.1 - 15)
      rw [n_le (by omega) (by omega)]; omega
    have nl : ¬ nI (tok.1 - 15) < (0 : Int32) := by
      show ¬ nI (tok.1 - 15) < nI 0
      rw [n_lt (by omega) (by omega)]; omega
    have r86 : fX11_leafRead_86 n (mk s) 187 = fX11_leafRead_129 n (mk s) 187 (nI (tok.1 - 15)) := by
      unfold fX11_leafRead_86 fX11_leafRead_109
      rw [nm, Option.bind_some, if_pos nn, if_pos nn]
    rw [r86]
    refine ⟨fun _ g => absurd g.1 (by show tok.1 ≠ 23; omega), fun _ _ g => l129e _ g, fun _ _ g => ?_, fun g => absurd lf g⟩
    have c1 := cn.2 g
    have g : ¬ 64 ≤ kc := g
    have l160 := m_leaf160 (v := tok.2.1) (x1 := nI 1) (x2 := nI (tok.1 - 15)) hn Hc Rc (by omega) ja lf (fun I i1 i2 => ⟨fun e => absurd e (by show tok.1 ≠ 23; omega), fun _ => ⟨i1, i2⟩, fun e => absurd e (by show tok.1 ≠ 14; omega), fun e => absurd (by
      have tab : ∀ k : Fin 39, 15 ≤ k.1 ∧ k.1 ≤ 21 → lvO k.1 = 9 := by decide +kernel
      exact tab ⟨tok.1, by omega⟩ nme) e, Or.inl lf⟩)
    obtain ⟨s', b, c, d⟩ := l160
    refine ⟨s', ?_, frE2_t (frE2_w (by omega)) c, d⟩
    unfold fX11_leafRead_129 fX11_leafRead_148
    rw [c1, Option.bind_some, if_pos (show ¬ nI 1 = (0 : Int32) by decide), if_neg nl, if_neg nl]
    exact b
  · rw [if_neg nme] at nm
    have n0 : ¬ (0 : Int32) ≤ m1 := by decide
    have neg : m1 < (0 : Int32) := by decide
    by_cases c23 : tok.1 = 23
    · have lf : isLf tok.1 = true := decide_eq_true (Or.inl c23)
      have t3 : s.1 187 8 = (3 : Int32) := by
        have := tk_3 hH.2.1 z38
        exact this.symm ▸ c23
      have v9 := tk_v hH.2.1 c23
      have vlt : tok.2.1 < 1073741824 := hH.2.2.2.1
      have r86 : fX11_leafRead_86 n (mk s) 187 = fX11_leafRead_109 n (mk s) 187 m1 := by
        unfold fX11_leafRead_86
        rw [nm, Option.bind_some, if_neg n0, p8, Option.bind_some, if_pos t3]
      rw [r86]
      unfold fX11_leafRead_109
      rw [if_neg n0, p9, Option.bind_some, v9, l9999]
      refine ⟨fun _ g => ?_, fun _ g1 g => ?_, fun _ g1 g => ?_, fun g => absurd lf g⟩
      · have g : tok.1 = 23 ∧ 9999 < tok.2.1 := g
        rw [if_neg (show ¬ nI tok.2.1 ≤ nI 9999 by rw [n_le (by omega) (by omega)]; omega)]
        exact m_wr (k := 2) hn hH
      · have g1 : ¬ (tok.1 = 23 ∧ 9999 < tok.2.1) := g1
        rw [if_pos (show nI tok.2.1 ≤ nI 9999 by rw [n_le (by omega) (by omega)]; omega)]
        exact l129e _ g
      · have g1 : ¬ (tok.1 = 23 ∧ 9999 < tok.2.1) := g1
        have g : ¬ 64 ≤ kc := g
        rw [if_pos (show nI tok.2.1 ≤ nI 9999 by rw [n_le (by omega) (by omega)]; omega)]
        have c1 := cn.2 g
        have l160 := m_leaf160 (v := tok.2.1) (x1 := nI 0) (x2 := nI tok.2.1) hn Hc Rc (by omega) ja lf (fun I i1 i2 => ⟨fun _ => ⟨by show tok.2.1 ≤ 9999; omega, i1, i2⟩, fun e => absurd e nme, fun e => absurd e (by show tok.1 ≠ 14; omega), fun e => absurd (by show lvO tok.1 = 9; rw [c23]; rfl) e, Or.inl lf⟩)
        obtain ⟨s', b, c, d⟩ := l160
        refine ⟨s', ?_, frE2_t (frE2_w (by omega)) c, d⟩
        unfold fX11_leafRead_129 fX11_leafRead_148
        have v9' : (wI s 187 54 (nI (kc + 1))).1 187 9 = nI tok.2.1 := by rw [wI_at, upd_ne (by omega)]; exact v9
        rw [c1, Option.bind_some, if_pos (show ¬ nI 1 = (0 : Int32) by decide), if_pos neg, if_pos neg, p9, Option.bind_some, v9']
        exact b
    · have nlf : ¬ isLf tok.1 = true := fun g => by
        rcases of_decide_eq_true g with x | x
        · exact c23 x
        · exact nme x
      have t3 : ¬ s.1 187 8 = (3 : Int32) := by
        have := tk_3 hH.2.1 z38
        exact fun g => c23 (this ▸ g)
      have r86 : fX11_leafRead_86 n (mk s) 187 = (fX11_wrong n (mk s) 187 (nI 1)).bind fun q => (gZ q.1).bind fun _ => some (q.1, q.2) := by
        unfold fX11_leafRead_86
        rw [nm, Option.bind_some, if_neg n0, p8, Option.bind_some, if_neg t3]
        rfl
      rw [r86]
      exact ⟨fun g => absurd g nlf, fun g => absurd g nlf, fun g => absurd g nlf, fun _ => m_wr (k := 1) hn hH⟩
end Ma5
