/-! ===== expressions on the reference: signs go on ===== -/
section Mc7
variable {n N k a r : Nat} {B : Nat → Nat} {s s' s1 s2 : zS} {q : zQ} {y : zY} {W : List Nat} {o : List (Nat × Nat)} {kc br : Nat} {wa may : Bool} {tok : zK}
theorem tk_5 (hT : mTk s tok) (hz : tok.1 ≤ 38) : (s.1 187 8 = nI 5 ↔ 27 ≤ tok.1 ∧ tok.1 ≤ 32) ∧ (27 ≤ tok.1 ∧ tok.1 ≤ 32 → s.1 187 9 = nI (tok.1 - 27)) := by
  have ne : ∀ v, v < 100 → v ≠ 5 → s.1 187 8 = nI v → ¬ (27 ≤ tok.1 ∧ tok.1 ≤ 32) → (s.1 187 8 = nI 5 ↔ 27 ≤ tok.1 ∧ tok.1 ≤ 32) ∧ (27 ≤ tok.1 ∧ tok.1 ≤ 32 → s.1 187 9 = nI (tok.1 - 27)) := fun v h1 h2 h3 h4 => by
    rw [h3, n_eq (by omega) (by omega)]
    exact ⟨⟨fun g => absurd g h2, fun g => absurd g h4⟩, fun g => absurd g h4⟩
  rcases hT.1 with ⟨e, b⟩ | ⟨e, b, c⟩ | ⟨e, b, c⟩ | ⟨e, b, c⟩ | ⟨e, e', b, c⟩ | ⟨e, b, c⟩ | ⟨e, b⟩
  · exact ne 0 (by omega) (by omega) b (by omega)
  · exact ne 1 (by omega) (by omega) b (by omega)
  · exact ne 2 (by omega) (by omega) b (by omega)
  · exact ne 3 (by omega) (by omega) b (by omega)
  · exact ⟨⟨fun _ => ⟨e, e'⟩, fun _ => b⟩, fun _ => c⟩
  · have sl : ∀ k : Fin 39, sgC k.1 ≠ 0 → ¬ (27 ≤ k.1 ∧ k.1 ≤ 32) := by decide +kernel
    exact ne 4 (by omega) (by omega) b (sl ⟨tok.1, by omega⟩ e)
  · rcases b with b | ⟨b, _⟩
    · exact ne 6 (by omega) (by omega) b (by omega)
    · exact ne 4 (by omega) (by omega) b (by omega)
theorem m_s47 (hn : 239 ≤ n) (hT : mTk s tok) (hz : tok.1 ≤ 38) (hv : tok.2.1 < 1073741824) : fX11_signs_47 n (mk s) 187 = fX11_signs_147 n (mk s) 187 (if lvO tok.1 = 9 then nI 0 else nI (wcd tok.1)) := by
  have k13 : fX11_isKey n (mk s) 187 (12 : Int32) = some (nI (decide (tok.1 = 13)).toNat, mk s) := m_isKey (n := n) (k := 13) (q := (tok, [], 0)) hn hT ⟨hz, hv⟩ (by omega)
  have k12 : fX11_isKey n (mk s) 187 (13 : Int32) = some (nI (decide (tok.1 = 12)).toNat, mk s) := m_isKey (n := n) (k := 12) (q := (tok, [], 0)) hn hT ⟨hz, hv⟩ (by omega)
  have s33 : fX11_isSign n (mk s) 187 (43 : Int32) = some (nI (decide (tok.1 = 33)).toNat, mk s) := m_isSign (n := n) (k := 33) (q := (tok, [], 0)) hn hT hz (by decide) (by omega)
  have s34 : fX11_isSign n (mk s) 187 (45 : Int32) = some (nI (decide (tok.1 = 34)).toNat, mk s) := m_isSign (n := n) (k := 34) (q := (tok, [], 0)) hn hT hz (by decide) (by omega)
  have s35 : fX11_isSign n (mk s) 187 (42 : Int32) = some (nI (decide (tok.1 = 35)).toNat, mk s) := m_isSign (n := n) (k := 35) (q := (tok, [], 0)) hn hT hz (by decide) (by omega)
  have s36 : fX11_isSign n (mk s) 187 (47 : Int32) = some (nI (decide (tok.1 = 36)).toNat, mk s) := m_isSign (n := n) (k := 36) (q := (tok, [], 0)) hn hT hz (by decide) (by omega)
  obtain ⟨t5, t5v⟩ := tk_5 hT hz
  have p8 : pI n (mk s) 187 11 8 = some (s.1 187 8) := by simp only [B_m hn]
  have p9 : pI n (mk s) 187 11 9 = some (s.1 187 9) := by simp only [B_m hn]
  have tt : ¬ nI (true.toNat) = (0 : Int32) := by decide
  have ff : nI (false.toNat) = (0 : Int32) := rfl
  unfold fX11_signs_47
  rw [k13, Option.bind_some]
  by_cases c13 : tok.1 = 13
  · rw [decide_eq_true c13, if_neg tt, c13]; rfl
  rw [decide_eq_false c13, if_pos ff, k12, Option.bind_some]
  by_cases c12 : tok.1 = 12
  · rw [decide_eq_true c12, if_neg tt, c12]; rfl
  rw [decide_eq_false c12, if_pos ff, p8, Option.bind_some]
  by_cases c5 : 27 ≤ tok.1 ∧ tok.1 ≤ 32
  · rw [if_neg (show ¬ ¬ s.1 187 8 = (5 : Int32) from fun g => g (t5.2 c5)), p9, Option.bind_some, t5v c5]
    have tab : ∀ k : Fin 39, 27 ≤ k.1 ∧ k.1 ≤ 32 → (5 : Int32) + nI (k.1 - 27) = (if lvO k.1 = 9 then nI 0 else nI (wcd k.1)) := by decide +kernel
    have tb : (5 : Int32) + nI (tok.1 - 27) = (if lvO tok.1 = 9 then nI 0 else nI (wcd tok.1)) := tab ⟨tok.1, by omega⟩ c5
    rw [tb]
  rw [if_pos (show ¬ s.1 187 8 = (5 : Int32) from fun g => c5 (t5.1 g)), s33, Option.bind_some]
  by_cases c33 : tok.1 = 33
  · rw [decide_eq_true c33, if_neg tt, c33]; rfl
  rw [decide_eq_false c33, if_pos ff, s34, Option.bind_some]
  by_cases c34 : tok.1 = 34
  · rw [decide_eq_true c34, if_neg tt, c34]; rfl
  rw [decide_eq_false c34, if_pos ff, s35, Option.bind_some]
  by_cases c35 : tok.1 = 35
  · rw [decide_eq_true c35, if_neg tt, c35]; rfl
  rw [decide_eq_false c35, if_pos ff, s36, Option.bind_some]
  by_cases c36 : tok.1 = 36
  · rw [decide_eq_true c36, if_neg tt, c36]; rfl
  rw [decide_eq_false c36, if_pos ff]
  have lv : lvO tok.1 = 9 := by
    unfold lvO
    rw [if_neg c12, if_neg c13, if_neg c5, if_neg (by omega), if_neg (by omega)]
  rw [if_pos lv]
  rfl
/-- a sign waits -/
theorem m_s217 (hn : 239 ≤ n) (hH : mHd B N s tok) (hR : mR a s o kc W br false may) (hl : W.length < 96) (h64 : kc ≤ 64) (hv : lvO tok.1 ≠ 9) : (64 ≤ kc → erM a s (fX11_signs_217 n (mk s) 187 (nI (wcd tok.1))) (2, tok.2.2.1)) ∧ (¬ 64 ≤ kc → stM B N a s (fX11_signs_217 n (mk s) 187 (nI (wcd tok.1))) ((lxV B N tok.2.2.2, o, kc + 1), tok.1 :: W, br, true, decide (lvO tok.1 + 1 < 3))) := by
  obtain ⟨⟨h1, h2, h3, h4, h5, h6, h7⟩, h8, h9, h10⟩ := hR
  have z38 : tok.1 ≤ 38 := hH.2.2.1
  have cn := m_cnt (a := a) (kc := kc) hn hH h2 h64
  unfold fX11_signs_217
  constructor
  · intro g
    obtain ⟨s', c1, c2, c3⟩ := cn.1 g
    refine ⟨s', ?_, c2, c3⟩
    rw [c1, Option.bind_some, if_neg (show ¬ ¬ nI 0 = (0 : Int32) from fun g => g rfl)]
    rfl
  · intro g
    have c1 := cn.2 g
    have wt := m_wts (n := n) (s := wI s 187 54 (nI (kc + 1))) (h := tok.1) (c := nI (wcd tok.1)) (W := W) hn rfl (by rw [wI_at, upd_ne (by omega)]; exact h3) hl
    obtain ⟨sb, eb⟩ : ∃ sb : zS, sb = wI (wI (wI (wI (wI s 187 54 (nI (kc + 1))) 215 W.length (nI (wcd tok.1))) 187 51 (nI (W.length + 1))) 187 55 (nI 1)) 187 56 (nI (decide (lvO tok.1 + 1 < 3)).toNat) := ⟨_, rfl⟩
    have o184 : ∀ j, j ≠ 51 → j ≠ 54 → j ≠ 55 → j ≠ 56 → sb.1 187 j = s.1 187 j := fun j g1 g2 g3 g4 => by rw [eb, wI_at, upd_ne g4, wI_at, upd_ne g3, wI_at, upd_ne g1, wI_ne (by omega), wI_at, upd_ne g2]
    have oth : ∀ b, b ≠ 187 → b ≠ 215 → sb.1 b = s.1 b := fun b g1 g2 => by rw [eb, wI_ne g1, wI_ne g1, wI_ne g1, wI_ne g2, wI_ne g1]
    have w12 : sb.1 215 = upd (s.1 215) W.length (nI (wcd tok.1)) := by rw [eb, wI_ne (by omega), wI_ne (by omega), wI_ne (by omega), wI_at, wI_ne (by omega)]
    have Hb : mHd B N sb tok := mHd_f hH (fun j h1 h2 => o184 j (by omega) (by omega) (by omega) (by omega)) (oth 188 (by omega) (by omega)) (oth 189 (by omega) (by omega))
    have Rb : mR a sb o (kc + 1) (tok.1 :: W) br true (decide (lvO tok.1 + 1 < 3)) := by
      refine ⟨⟨by rw [o184 23 (by omega) (by omega) (by omega) (by omega)]; exact h1, ?_, ?_, by rw [o184 52 (by omega) (by omega) (by omega) (by omega)]; exact h4, by rw [o184 53 (by omega) (by omega) (by omega) (by omega)]; exact h5, ?_, ?_⟩, ⟨by rw [w12, upd_at], ws_f W (fun j hj => by rw [w12, upd_ne (by omega)]) h8⟩, hs_f _ (fun j _ => by rw [oth 216 (by omega) (by omega)]) h9, kn_f o (fun j _ => by rw [oth 212 (by omega) (by omega), oth 213 (by omega) (by omega), oth 214 (by omega) (by omega)]; exact ⟨rfl, rfl, rfl⟩) h10⟩
      · rw [eb, wI_at, upd_ne (by omega), wI_at, upd_ne (by omega), wI_at, upd_ne (by omega), wI_ne (by omega), wI_at, upd_at]
      · rw [eb, wI_at, upd_ne (by omega), wI_at, upd_ne (by omega), wI_at, upd_at]; rfl
      · rw [eb, wI_at, upd_ne (by omega), wI_at, upd_at]; rfl
      · rw [eb, wI_at, upd_at]
    obtain ⟨s', b, c, d⟩ := m_adv hn Hb Rb
    refine ⟨s', ?_, frE2_t ?_ c, d⟩
    · have w55 : ∀ s : zS, sF n (mk s) 187 11 55 .boolean (.int (1 : Int32)) = some (mk (wI s 187 55 (nI 1))) := fun s => (B_mz hn).1 s 1 (by omega)
      have w56 : ∀ (s : zS) (b : Nat), b ≤ 1 → sF n (mk s) 187 11 56 .boolean (.int (nI b)) = some (mk (wI s 187 56 (nI b))) := (B_mz hn).2.1
      have rk := m_rank (n := n) (s := wI (wI (wI (wI s 187 54 (nI (kc + 1))) 215 W.length (nI (wcd tok.1))) 187 51 (nI (W.length + 1))) 187 55 (nI 1)) (Or.inr (Or.inr hv)) z38
      have ro := rkO_o hv
      have l9 := lvO_c tok.1
      rw [c1, Option.bind_some, if_pos (show ¬ nI 1 = (0 : Int32) by decide), wt, Option.bind_some, w55, Option.bind_some, rk, Option.bind_some]
      unfold fX11_signs_250
      rw [ro]
      by_cases g3 : lvO tok.1 + 1 < 3
      · rw [decide_eq_true g3] at eb
        rw [if_neg (show ¬ (3 : Int32) ≤ nI (lvO tok.1 + 1) by
          show ¬ nI 3 ≤ nI (lvO tok.1 + 1)
          rw [n_le (by omega) (by omega)]; omega)]
        show ((sF n _ 187 11 56 .boolean (.int (nI 1))).bind _) = _
        rw [w56 _ 1 (by omega), Option.bind_some]
        have eb' : wI (wI (wI (wI (wI s 187 54 (nI (kc + 1))) 215 W.length (nI (wcd tok.1))) 187 51 (nI (W.length + 1))) 187 55 (nI 1)) 187 56 (nI 1) = sb := eb.symm
        rw [eb', b]
        rfl
      · rw [decide_eq_false g3] at eb
        rw [if_pos (show (3 : Int32) ≤ nI (lvO tok.1 + 1) by
          show nI 3 ≤ nI (lvO tok.1 + 1)
          rw [n_le (by omega) (by omega)]; omega)]
        show ((sF n _ 187 11 56 .boolean (.int (nI 0))).bind _) = _
        rw [w56 _ 0 (by omega), Option.bind_some]
        have eb' : wI (wI (wI (wI (wI s 187 54 (nI (kc + 1))) 215 W.length (nI (wcd tok.1))) 187 51 (nI (W.length + 1))) 187 55 (nI 1)) 187 56 (nI 0) = sb := eb.symm
        rw [eb', b]
        rfl
    · rw [eb]
      exact frE2_t (frE2_w (by omega)) (frE2_t (frE2_a (by omega)) (frE2_t (frE2_w (by omega)) (frE2_t (frE2_w (by omega)) (frE2_w (by omega)))))
end Mc7
