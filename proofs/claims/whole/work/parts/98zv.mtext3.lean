/-! ===== the text on the reference: the call ===== -/
section Mv16
variable {n N k l op a r p m L v b τ i c : Nat} {B f : Nat → Nat} {s s' s0 s1 s2 : zS} {q q' : zQ} {tok : zK} {T : zT} {I I' : Nat → Nat → Int32} {x y : zX} {o o' : List (Nat × Nat)} {M : zS → ai_H} {A : zA}
theorem m_keptM (hM : bM M n) (hI : IV N c x) (hG : mG s.1 x.2.1 x.2.2) (h23 : s.1 187 23 = nI x.1.2.1.length) (hk : ∀ w, w < 3 → x.2.1 18 w ≠ 0 → lkM s.1 (x.2.1 19 w) (x.2.1 20 w) x.1.2.1) (hb : ∀ j, j < 3 → ∃ b, b ≤ 1 ∧ s.1 209 j = nI b) : ∃ s' : zS, fX11_keepText n (M s) 187 = some ((), M s') ∧ s'.2.2 = s.2.2 ∧ (∀ a, a ≠ 187 → s'.2.1 a = s.2.1 a) ∧ (∀ a, a ≠ 187 → a < 191 ∨ 226 < a → s'.1 a = s.1 a) ∧ (∀ j, j < 12 → s'.1 187 j = s.1 187 j) ∧ mTd s'.1 (fnT x) ∧ WT (fnT x) ∧ mSd s' 0 (fnT x) O00 (S0 (fnT x)) ∧ s'.1 187 84 = nI 0 ∧ s'.1 187 85 = m1 ∧ s'.1 187 89 = nI 0 ∧ s'.1 187 91 = nI 0 := by
  have hb6 : ∀ j, j < 6 → ∃ b, b ≤ 1 ∧ s.1 209 j = nI b := fun j hj => by
    by_cases h : j < 3
    · exact hb j h
    · refine ⟨(x.2.2.testBit (9 + (j - 3))).toNat, Bool.toNat_le _, ?_⟩
      have := (hG.2.2.2 (j - 3) (by omega)).1
      rw [show 3 + (j - 3) = j by omega] at this
      exact this
  obtain ⟨s1, s2, e1, e2, hK⟩ := m_keepTx (s := s) hM hb6
  have hT := kp_mTd hI hG h23 hk e1 hK
  have hW := fn_WT hI hk
  obtain ⟨s3, b1, b2, b3, b4, b5, b6, b7, b8, b9, b10, b11⟩ := m_beginM hM hW hT
  refine ⟨s3, ?_, ?_, ?_, ?_, ?_, b6, hW, b7, b8, b9, b10, b11⟩
  · rw [e2, b1]; rfl
  · rw [b2, hK.1, e1]; rfl
  · intro a ha
    rw [b3 a ha, hK.1, e1]; rfl
  · intro a ha h
    funext j
    rw [b4 a j (by unfold hfM; omega) ha, hK.2.2 a ha j, if_neg (by omega), e1, wI_ne ha, wI_ne ha, wI_ne ha, wI_ne ha, wI_ne ha, wI_ne ha]
  · intro j hj
    rw [b5 j (by omega) (by omega) (by omega) (by omega) (by omega), hK.2.1, e1]
    simp (disch := omega) only [wI_at, upd_ne]
/-- the state behind a text, and its answer -/
def txN (A : zA) (N : Nat) : Int32 × zA := match txA (aB A).2 N with
  | .error e => (m1, (aT A, aS A, aI A, aP A, (0, (aB A).2), (e.1, nI e.2), aE A))
  | .ok z => (nI z.1, (fnT z.2, S0 (fnT z.2), (false, aS A), (0, (aP A).2), (0, (aB A).2), (0, m1), (0, m1, (aE A).2.2)))
theorem mTd_Dt (hW : WT T) (h : mTd s.1 T) (f : frDt s s') : mTd s'.1 T := by
  obtain ⟨h1, h2, h3, h4, h5, h6, h7, h8⟩ := h
  obtain ⟨f1, f2, f3, f4, f5, f6⟩ := f
  have t0 := hW.1
  have fb : ∀ τ c, τ < 5 → c < lnF τ → ∀ j, j < lmF τ → s'.1 (arF τ + c) j = s.1 (arF τ + c) j := fun τ c h1 h2 j hj => f5 τ h1 c h2 j hj
  refine ⟨?_, ?_, fun i hi => ?_, fun p hp => ?_, fun w hw => ?_, fun k hk => ?_, fun b hb => ?_, fun w hw => ⟨fun g => ?_, fun g => ?_⟩⟩
  · rw [f3 12 (by omega) (by omega) (by omega), f3 13 (by omega) (by omega) (by omega), f3 14 (by omega) (by omega) (by omega), f3 15 (by omega) (by omega) (by omega), f3 16 (by omega) (by omega) (by omega), f3 17 (by omega) (by omega) (by omega)]
    exact h1
  · rw [(f4 0 (by omega)).1, (f4 1 (by omega)).1, (f4 2 (by omega)).1]; exact h2
  · have e := fb 0 0 (by omega) (by decide) i (show i < 7 by omega)
    rw [show s'.1 192 i = s.1 192 i from e]; exact h3 i hi
  · have e : ∀ c, c < 6 → s'.1 (193 + c) p = s.1 (193 + c) p := fun c hc => fb 1 c (by omega) hc p (show p < 9 by omega)
    rw [e 0 (by omega), show s'.1 194 p = s.1 194 p from e 1 (by omega), show s'.1 195 p = s.1 195 p from e 2 (by omega), show s'.1 196 p = s.1 196 p from e 3 (by omega), show s'.1 197 p = s.1 197 p from e 4 (by omega), show s'.1 198 p = s.1 198 p from e 5 (by omega)]
    exact h4 p hp
  · have e : ∀ c, c < 4 → s'.1 (199 + c) w = s.1 (199 + c) w := fun c hc => fb 2 c (by omega) hc w (show w < 4 by omega)
    rw [e 0 (by omega), show s'.1 200 w = s.1 200 w from e 1 (by omega), show s'.1 201 w = s.1 201 w from e 2 (by omega), show s'.1 202 w = s.1 202 w from e 3 (by omega)]
    exact h5 w hw
  · have e : ∀ c, c < 3 → s'.1 (203 + c) k = s.1 (203 + c) k := fun c hc => fb 3 c (by omega) hc k (show k < 12 by omega)
    rw [e 0 (by omega), show s'.1 204 k = s.1 204 k from e 1 (by omega), show s'.1 205 k = s.1 205 k from e 2 (by omega)]
    exact h6 k hk
  · have e : ∀ c, c < 3 → s'.1 (206 + c) b = s.1 (206 + c) b := fun c hc => fb 4 c (by omega) hc b (show b < 6 by omega)
    rw [e 0 (by omega), show s'.1 207 b = s.1 207 b from e 1 (by omega), show s'.1 208 b = s.1 208 b from e 2 (by omega)]
    exact h7 b hb
  · rw [(f4 w hw).2.1]; exact (h8 w hw).1 g
  · rw [(f4 w hw).2.1, (f4 w hw).2.2.1, (f4 w hw).2.2.2]
    obtain ⟨a1, a2, a3, H, a4, a5, a6⟩ := (h8 w hw).2 g
    have l64 := (hW.2.2.2.2.2.2 w hw g).2.1
    refine ⟨a1, a2, a3, H, a4, a5, fun i g1 g2 => ⟨(a6 i g1 g2).1, ?_⟩⟩
    have := (a6 i g1 g2).2
    unfold mkS at this ⊢
    obtain ⟨k1, k2, k3⟩ := f6 i (by omega)
    rw [k1, k2, k3]
    exact this
theorem m_textC (hn : 239 ≤ n) (hw : ∀ i, i < 108 → s.1 189 i = nI (WC i)) (hK : mK s A) (hwf : wfA A) (hN : N ≤ (aB A).1) : ∃ s' : zS, fX11_text n (mk s) 187 (nI N) = some ((txN A N).1, mk s') ∧ frM s s' ∧ mK s' (txN A N).2 ∧ wfA (txN A N).2 := by
  obtain ⟨hW, hD, hIm, hP, ⟨hB7, hB⟩, hE⟩ := hwf
  obtain ⟨k1, k2, k3, k4, k5, k6, k7⟩ := hK
  have w2 : ∀ (s : zS) (x : Int32), sF n (mk s) 187 11 2 .int (.int x) = some (mk (wI s 187 2 x)) := fun s x => by simp only [B_m hn]
  have p1 : ∀ s, pI n (mk s) 187 11 1 = some (s.1 187 1) := fun s => by simp only [B_m hn]
  obtain ⟨sx, ex⟩ : ∃ sx : zS, sx = wI s 187 2 (nI 0) := ⟨_, rfl⟩
  have ox : ∀ b, b ≠ 187 → sx.1 b = s.1 b := fun b h => by rw [ex, wI_ne h]
  have ox1 : ∀ j, j ≠ 2 → sx.1 187 j = s.1 187 j := fun j h => by rw [ex, wI_at, upd_ne h]
  have b1 : sx.1 187 1 = nI (aB A).1 := by rw [ox1 1 (by omega)]; exact k5.1
  obtain ⟨sy, y1, y2, y3, y4, y5⟩ := m_tx0 (s := sx) (B := (aB A).2) (N := N) hn (fun i hi => by rw [ox 189 (by omega)]; exact hw i hi) (by omega) (fun i hi => by rw [ox 188 (by omega)]; exact k5.2 i (by omega)) hB
  have tx := n_txt (B := (aB A).2) hn (show N ≤ 700 by omega) 701 0 bi_K (x00 (aB A).2 N) sy (by omega) (by unfold bi_K; omega) iv_00 y5
  have run : fX11_text n (mk s) 187 (nI N) = fX11_text_55 n bi_K (mk sy) 187 (nI 0) := by
    unfold fX11_text
    rw [(B_m hn).1, Option.bind_some]
    show ((sF n (mk s) 187 11 2 .int (.int (nI 0))).bind _) = _
    rw [w2, Option.bind_some, ← ex, if_neg (show ¬ nI N < (0 : Int32) by
      show ¬ nI N < nI 0
      rw [n_lt (by omega) (by omega)]; omega), p1, Option.bind_some, b1, if_pos (show nI N ≤ nI (aB A).1 by rw [n_le (by omega) (by omega)]; exact hN)]
    exact y1
  rw [run]
  have frx : ∀ s', frDt sy s' → s'.2 = s.2 ∧ (∀ b, b < 187 ∨ 216 < b ∨ b = 188 ∨ b = 189 → s'.1 b = s.1 b) ∧ (∀ j, ¬ (1 ≤ j ∧ j ≤ 2) → ¬ (4 ≤ j ∧ j ≤ 11) → ¬ (18 ≤ j ∧ j ≤ 23) → ¬ (51 ≤ j ∧ j ≤ 56) → s'.1 187 j = s.1 187 j) ∧ s'.1 187 1 = nI 0 := fun s' f => by
    have g := frDt_t y2 f
    refine ⟨?_, fun b hb => ?_, fun j h1 h2 h3 h4 => ?_, ?_⟩
    · rw [g.1, ex]; rfl
    · rw [g.2.1 b hb, wI_ne (by omega), ox b (by omega)]
    · rw [g.2.2.1 j h2 h3 h4, wI_at, upd_ne (by omega), ox1 j (by omega)]
    · rw [g.2.2.1 1 (by omega) (by omega) (by omega), wI_at, upd_at]
  have fmx : ∀ s', frDt sy s' → frM s s' := fun s' f => by
    obtain ⟨g1, g2, g3, g4⟩ := frx s' f
    exact ⟨by rw [g1], fun a ha => ⟨g2 a (by omega), by rw [g1]⟩⟩
  have mT1 : ∀ s', frDt sy s' → mTd s'.1 (aT A) := fun s' f => by
    refine mTd_Dt hW ?_ (frDt_t y2 f)
    refine mTd_fr k1 (fun a j h => ?_)
    rcases h with ⟨rfl, h1, h2⟩ | h
    · rw [wI_at, upd_ne (by omega), ox1 j (by omega)]
    · rw [wI_ne (by omega), ox a (by omega)]
  have tA : txA (aB A).2 N = txV (aB A).2 N 701 0 (x00 (aB A).2 N) := rfl
  unfold txN
  rw [tA]
  cases hr : txV (aB A).2 N 701 0 (x00 (aB A).2 N) with
  | error e =>
    rw [hr] at tx
    obtain ⟨s', g1, g2, g3, g4⟩ := tx
    obtain ⟨f1, f2, f3, f4⟩ := frx s' g2
    refine ⟨s', g1, fmx s' g2, ⟨mT1 s' g2, ?_, ?_, ?_, ⟨f4, fun i hi => absurd hi (Nat.not_lt_zero _)⟩, ⟨g3, g4⟩, ?_⟩, hW, hD, hIm, hP, ⟨Nat.zero_le _, hB⟩, hE⟩
    · show mSd s' 0 (aT A) O00 (aS A)
      unfold mSd
      rw [f2 219 (by omega), f2 220 (by omega), f2 221 (by omega), f2 222 (by omega), f2 223 (by omega), f2 224 (by omega), f2 225 (by omega), f2 226 (by omega), f1]
      exact k2
    · show mIm s' (aT A) (aI A)
      unfold mIm
      rw [f3 91 (by omega) (by omega) (by omega) (by omega), f3 93 (by omega) (by omega) (by omega) (by omega), f3 94 (by omega) (by omega) (by omega) (by omega), f2 237 (by omega), f1]
      exact k3
    · show mPs s' (aT A) (aP A)
      unfold mPs
      rw [f3 89 (by omega) (by omega) (by omega) (by omega), f2 236 (by omega)]
      exact k4
    · show mSn s' (aE A)
      unfold mSn
      rw [f3 84 (by omega) (by omega) (by omega) (by omega), f3 85 (by omega) (by omega) (by omega) (by omega), f2 233 (by omega)]
      exact k7
  | ok z =>
    rw [hr] at tx
    obtain ⟨s1, g1, g2, g3, g4⟩ := tx
    obtain ⟨f1, f2, f3, f4⟩ := frx s1 g1
    have mT := mT1 s1 g1
    obtain ⟨s', c1, c2, c3, c4, c5, c6, c7, c8, c9, c10, c11, c12⟩ := m_keptM (s := s1) (x := z.2) (bM_mk hn) g3 g2.2.1 g2.2.2.1.1 g2.2.2.2 (fun j hj => by
      by_cases h : aT A 18 j = 0
      · exact ⟨0, by omega, (mT.2.2.2.2.2.2.2 j hj).1 h⟩
      · exact ⟨1, by omega, ((mT.2.2.2.2.2.2.2 j hj).2 h).1⟩)
    refine ⟨s', by rw [g4, c1]; rfl, ⟨by rw [c2, f1], fun a ha => ⟨by rw [c4 a (by omega) (by omega)]; exact f2 a (by omega), by rw [c3 a (by omega), f1]⟩⟩, ⟨c6, c8, ⟨c12, (fun h => by cases h)⟩, ⟨c11, fun i hi => absurd hi (Nat.not_lt_zero _)⟩, ⟨by rw [c5 1 (by omega)]; exact f4, fun i hi => absurd hi (Nat.not_lt_zero _)⟩, ?_, ⟨c9, c10, fun i hi => absurd hi (Nat.not_lt_zero _)⟩⟩, c7, S0_w c7, (fun h => by cases h), ⟨Nat.zero_le _, fun i hi => absurd hi (Nat.not_lt_zero _)⟩, ⟨Nat.zero_le _, hB⟩, Nat.zero_le _, Or.inl rfl, fun i hi => absurd hi (Nat.not_lt_zero _)⟩
    show s'.1 187 4 = nI 0 ∧ s'.1 187 5 = m1
    rw [c5 4 (by omega), c5 5 (by omega)]
    exact g2.2.2.1.2.2
end Mv16
