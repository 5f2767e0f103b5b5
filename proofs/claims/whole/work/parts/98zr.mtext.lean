/-! ===== the text on the reference: all lines; what is there at first ===== -/
section Mr12
variable {n N k l op a r p m L v b τ i c : Nat} {B f : Nat → Nat} {s s' s0 s1 s2 : zS} {q q' : zQ} {tok : zK} {T : zT} {I I' : Nat → Nat → Int32} {cs : List Nat} {x y : zX} {o o' : List (Nat × Nat)} {M : zS → ai_H}
theorem tk_0 (hT : mTk s tok) (hz : tok.1 ≤ 38) : s.1 187 8 = nI 0 ↔ tok.1 = 37 := by
  have ne : ∀ v, v < 100 → v ≠ 0 → s.1 187 8 = nI v → tok.1 ≠ 37 → (s.1 187 8 = nI 0 ↔ tok.1 = 37) := fun v h1 h2 h3 h4 => by
    rw [h3, n_eq (by omega) (by omega)]
    exact ⟨fun g => absurd g h2, fun g => absurd g h4⟩
  rcases hT.1 with ⟨e, b⟩ | ⟨e, b, c⟩ | ⟨e, b, c⟩ | ⟨e, b, c⟩ | ⟨e, e', b, c⟩ | ⟨e, b, c⟩ | ⟨e, b⟩
  · exact ⟨fun _ => e, fun _ => b⟩
  · exact ne 1 (by omega) (by omega) b (by omega)
  · exact ne 2 (by omega) (by omega) b (by omega)
  · exact ne 3 (by omega) (by omega) b (by omega)
  · exact ne 5 (by omega) (by omega) b (by omega)
  · have sl : ∀ k : Fin 39, sgC k.1 ≠ 0 → k.1 ≠ 37 := by decide +kernel
    have : tok.1 ≠ 37 := sl ⟨tok.1, by omega⟩ e
    exact ne 4 (by omega) (by omega) b this
  · rcases b with b | ⟨b, _⟩
    · exact ne 6 (by omega) (by omega) b (by omega)
    · exact ne 4 (by omega) (by omega) b (by omega)
/-- how a text's reading goes out -/
def tmR (n : Nat) (B : Nat → Nat) (N : Nat) (s : zS) (c : Option (Int32 × ai_H)) : Except (Nat × Nat) (Nat × zX) → Prop
  | .error e => ∃ s', c = some (m1, mk s') ∧ frDt s s' ∧ s'.1 187 4 = nI e.1 ∧ s'.1 187 5 = nI e.2
  | .ok z => ∃ s1, frDt s s1 ∧ mL B N s1 z.2 ∧ IV N z.1 z.2 ∧ c = (fX11_keepText n (mk s1) 187).bind fun q => some (nI z.1, q.2)
theorem tmR_t {c : Option (Int32 × ai_H)} {r : Except (Nat × Nat) (Nat × zX)} (f : frDt s s1) (h : tmR n B N s1 c r) : tmR n B N s c r := by
  cases r with
  | error e =>
    obtain ⟨s', g1, g2, g3⟩ := h
    exact ⟨s', g1, frDt_t f g2, g3⟩
  | ok y =>
    obtain ⟨s', g1, g2⟩ := h
    exact ⟨s', frDt_t f g1, g2⟩
theorem n_txt (hn : 239 ≤ n) (N7 : N ≤ 700) : ∀ (k c F : Nat) (x : zX) (s : zS), 701 ≤ k + c → k < F → IV N c x → mL B N s x → tmR n B N s (fX11_text_55 n F (mk s) 187 (nI c)) (txV B N k c x) := by
  intro k
  induction k with
  | zero =>
    intro c F x s hk hF hI hL
    exfalso
    have h1 := hI.2.2.2.1
    have h2 : c ≤ x.1.1.2.2.1 := h1.2.1
    have h3 : x.1.1.2.2.1 ≤ x.1.1.2.2.2 := h1.2.2.1
    have h4 : x.1.1.2.2.2 ≤ N := h1.1.2.2.2
    omega
  | succ k ih =>
    intro c F x s hk hF hI hL
    obtain ⟨F', rfl⟩ : ∃ F', F = F' + 1 := ⟨F - 1, by omega⟩
    have hH : mHd B N s x.1.1 := hL.1
    have t0 := tk_0 hH.2.1 hH.2.2.1
    have p8 : pI n (mk s) 187 11 8 = some (s.1 187 8) := by simp only [B_m hn]
    show tmR n B N s (fX11_text_55b n (fX11_text_55 n F') (mk s) 187 (nI c)) (if x.1.1.1 = 37 then .ok (c, x) else eB (lnV B N x) (txV B N k (c + 1)))
    unfold fX11_text_55b
    rw [p8, Option.bind_some]
    by_cases e37 : x.1.1.1 = 37
    · rw [if_pos e37, if_pos (show s.1 187 8 = (0 : Int32) from t0.2 e37)]
      exact ⟨s, frDt_r, hL, hI, rfl⟩
    · rw [if_neg e37, if_neg (show ¬ s.1 187 8 = (0 : Int32) from fun g => e37 (t0.1 g))]
      have ln := n_line hn hL hI
      cases hr : lnV B N x with
      | error e =>
        rw [hr] at ln
        obtain ⟨s', g1, g2, g3⟩ := ln
        refine ⟨s', ?_, g2, g3⟩
        rw [g1, Option.bind_some, if_neg (show ¬ ¬ nI 0 = (0 : Int32) from fun g => g rfl)]
        rfl
      | ok x' =>
        rw [hr] at ln
        obtain ⟨s', g1, g2, g3⟩ := ln
        rw [g1, Option.bind_some, if_pos (show ¬ nI 1 = (0 : Int32) by decide)]
        show tmR n B N s (fX11_text_55 n F' (mk s') 187 (nI c + nI 1)) (txV B N k (c + 1) x')
        rw [nI_add]
        exact tmR_t g2 (ih (c + 1) F' x' s' (by omega) (by omega) (iv_ln hI hr) g3)
theorem m_p80 (hM : bM M n) : ∀ (m i F : Nat) (s : zS), m + i = 6 → m < F → ∃ s' : zS, fX11_plain_80 n F (M s) 187 (nI i) = some ((), M s') ∧ s'.2 = s.2 ∧ (∀ b, b ≠ 209 → s'.1 b = s.1 b) ∧ (∀ j, j < i → s'.1 209 j = s.1 209 j) ∧ ∀ j, i ≤ j → j < 6 → s'.1 209 j = nI 0 := by
  have hM0 := hM
  obtain ⟨h1m, h2m, h3m, h4m, h5m⟩ := hM
  unfold bMm at h1m
  unfold bMma at h2m
  have r43 : ∀ s, pR n (M s) 187 11 43 = some 209 := fun s => by simp only [h1m]
  have w206 : ∀ (s : zS) (j : Nat) (x : Int32), j < 6 → wB n (M s) 209 (nI j) x = some (M (wI s 209 j (vp_nar .boolean x))) := fun s j x hj => by simp (disch := omega) only [h2m]
  intro m
  induction m with
  | zero =>
    intro i F s e hF
    obtain ⟨F', rfl⟩ : ∃ F', F = F' + 1 := ⟨F - 1, by omega⟩
    refine ⟨s, ?_, rfl, fun _ _ => rfl, fun _ _ => rfl, fun j h1 h2 => by omega⟩
    show fX11_plain_80b n (fX11_plain_80 n F') (M s) 187 (nI i) = _
    unfold fX11_plain_80b
    rw [show i = 6 by omega]
    rfl
  | succ m ih =>
    intro i F s e hF
    obtain ⟨F', rfl⟩ : ∃ F', F = F' + 1 := ⟨F - 1, by omega⟩
    obtain ⟨s', g1, g2, g3, g4, g5⟩ := ih (i + 1) F' (wI s 209 i (nI 0)) (by omega) (by omega)
    refine ⟨s', ?_, g2, fun b hb => by rw [g3 b hb, wI_ne hb], fun j hj => by rw [g4 j (by omega), wI_at, upd_ne (by omega)], fun j h1 h2 => ?_⟩
    · show fX11_plain_80b n (fX11_plain_80 n F') (M s) 187 (nI i) = _
      unfold fX11_plain_80b
      rw [if_neg (show ¬ (6 : Int32) ≤ nI i by
        show ¬ nI 6 ≤ nI i
        rw [n_le (by omega) (by omega)]; omega), r43, Option.bind_some, w206 _ _ _ (by omega), Option.bind_some, show vp_nar .boolean (0 : Int32) = nI 0 from rfl]
      show fX11_plain_80 n F' (M (wI s 209 i (nI 0))) 187 (nI i + nI 1) = _
      rw [nI_add]
      exact g1
    · by_cases e : j = i
      · rw [e, g4 i (by omega), wI_at, upd_at]
      · exact g5 j (by omega) h2
theorem m_p37 (hM : bM M n) : ∀ (m i F : Nat) (s : zS), m + i = 3 → m < F → ∃ s' : zS, fX11_plain_37 n F (M s) 187 (nI i) = some ((), M s') ∧ s'.2 = s.2 ∧ (∀ b, b ≠ 190 → b ≠ 191 → b ≠ 209 → s'.1 b = s.1 b) ∧ (∀ j, j < 3 → s'.1 209 j = s.1 209 j ∧ s'.1 191 j = s.1 191 j) ∧ (∀ j, j < i → s'.1 190 j = s.1 190 j) ∧ (∀ j, i ≤ j → j < 3 → s'.1 190 j = nI 0) ∧ (s'.1 191 3 = nI 366 ∧ s'.1 191 4 = nI 0 ∧ s'.1 191 5 = nI 0) ∧ ∀ w, w < 3 → s'.1 209 (3 + w) = nI 0 := by
  have hM0 := hM
  obtain ⟨h1m, h2m, h3m, h4m, h5m⟩ := hM
  unfold bMm at h1m
  unfold bMma at h2m
  have r24 : ∀ s, pR n (M s) 187 11 24 = some 190 := fun s => by simp only [h1m]
  have r25 : ∀ s, pR n (M s) 187 11 25 = some 191 := fun s => by simp only [h1m]
  have w187 : ∀ (s : zS) (j : Nat) (x : Int32), j < 3 → wB n (M s) 190 (nI j) x = some (M (wI s 190 j (vp_nar .boolean x))) := fun s j x hj => by simp (disch := omega) only [h2m]
  have w188 : ∀ (s : zS) (j : Nat) (x : Int32), j < 6 → wX 1 (fun x => x) n (M s) 191 (nI j) x = some (M (wI s 191 j x)) := fun s j x hj => by simp (disch := omega) only [h2m]
  intro m
  induction m with
  | zero =>
    intro i F s e hF
    obtain ⟨F', rfl⟩ : ∃ F', F = F' + 1 := ⟨F - 1, by omega⟩
    obtain ⟨s3, e3⟩ : ∃ s3 : zS, s3 = wI (wI (wI s 191 3 (nI 366)) 191 4 (nI 0)) 191 5 (nI 0) := ⟨_, rfl⟩
    obtain ⟨s', g1, g2, g3, g4, g5⟩ := m_p80 hM0 3 3 bi_K s3 (by omega) (by unfold bi_K; omega)
    have o3 : ∀ b, b ≠ 191 → s3.1 b = s.1 b := fun b h => by rw [e3, wI_ne h, wI_ne h, wI_ne h]
    refine ⟨s', ?_, by rw [g2, e3]; rfl, fun b h1 h2 h3 => by rw [g3 b h3, o3 b h2], fun j hj => ⟨by rw [g4 j hj, o3 209 (by omega)], by rw [g3 191 (by omega), e3, wI_at, upd_ne (by omega), wI_at, upd_ne (by omega), wI_at, upd_ne (by omega)]⟩, fun j _ => by rw [g3 190 (by omega), o3 190 (by omega)], fun j h1 h2 => by omega, ?_, fun w hw => g5 (3 + w) (by omega) (by omega)⟩
    · show fX11_plain_37b n (fX11_plain_37 n F') (M s) 187 (nI i) = _
      unfold fX11_plain_37b
      rw [show i = 3 by omega, if_pos (show (3 : Int32) ≤ nI 3 by decide), r25, Option.bind_some]
      show ((wX 1 (fun x => x) n (M s) 191 (nI 3) (nI 366)).bind _) = _
      rw [w188 _ _ _ (by omega), Option.bind_some, r25, Option.bind_some]
      show ((wX 1 (fun x => x) n (M _) 191 (nI 4) (nI 0)).bind _) = _
      rw [w188 _ _ _ (by omega), Option.bind_some, r25, Option.bind_some]
      show ((wX 1 (fun x => x) n (M _) 191 (nI 5) (nI 0)).bind _) = _
      rw [w188 _ _ _ (by omega), Option.bind_some, ← e3]
      exact g1
    · rw [g3 191 (by omega), e3]
      refine ⟨?_, ?_, ?_⟩
      · rw [wI_at, upd_ne (by omega), wI_at, upd_ne (by omega), wI_at, upd_at]
      · rw [wI_at, upd_ne (by omega), wI_at, upd_at]
      · rw [wI_at, upd_at]
  | succ m ih =>
    intro i F s e hF
    obtain ⟨F', rfl⟩ : ∃ F', F = F' + 1 := ⟨F - 1, by omega⟩
    obtain ⟨s', g1, g2, g3, g4, g5, g6, g7, g8⟩ := ih (i + 1) F' (wI s 190 i (nI 0)) (by omega) (by omega)
    refine ⟨s', ?_, g2, fun b h1 h2 h3 => by rw [g3 b h1 h2 h3, wI_ne h1], fun j hj => by rw [(g4 j hj).1, (g4 j hj).2, wI_ne (by omega), wI_ne (by omega)]; exact ⟨rfl, rfl⟩, fun j hj => by rw [g5 j (by omega), wI_at, upd_ne (by omega)], fun j h1 h2 => ?_, g7, g8⟩
    · show fX11_plain_37b n (fX11_plain_37 n F') (M s) 187 (nI i) = _
      unfold fX11_plain_37b
      rw [if_neg (show ¬ (3 : Int32) ≤ nI i by
        show ¬ nI 3 ≤ nI i
        rw [n_le (by omega) (by omega)]; omega), r24, Option.bind_some, w187 _ _ _ (by omega), Option.bind_some, show vp_nar .boolean (0 : Int32) = nI 0 from rfl]
      show fX11_plain_37 n F' (M (wI s 190 i (nI 0))) 187 (nI i + nI 1) = _
      rw [nI_add]
      exact g1
    · by_cases e : j = i
      · rw [e, g5 i (by omega), wI_at, upd_at]
      · exact g6 j (by omega) h2
/-- nothing told, in the draft -/
theorem m_plainM (hM : bM M n) : ∃ s' : zS, fX11_plain n (M s) 187 = some ((), M s') ∧ s'.2 = s.2 ∧ (∀ b, b ≠ 187 → b ≠ 190 → b ≠ 191 → b ≠ 209 → s'.1 b = s.1 b) ∧ (∀ j, (18 ≤ j ∧ j ≤ 23) ∨ j = 54 → s'.1 187 j = nI 0) ∧ (∀ j, ¬ ((18 ≤ j ∧ j ≤ 23) ∨ j = 54) → s'.1 187 j = s.1 187 j) ∧ (∀ j, j < 3 → s'.1 209 j = s.1 209 j ∧ s'.1 191 j = s.1 191 j) ∧ (∀ j, j < 3 → s'.1 190 j = nI 0) ∧ (s'.1 191 3 = nI 366 ∧ s'.1 191 4 = nI 0 ∧ s'.1 191 5 = nI 0) ∧ ∀ w, w < 3 → s'.1 209 (3 + w) = nI 0 := by
  have hM0 := hM
  obtain ⟨h1m, h2m, h3m, h4m, h5m⟩ := hM
  unfold bMm at h1m
  have w18 : ∀ (s : zS) (x : Int32), sF n (M s) 187 11 18 .int (.int x) = some (M (wI s 187 18 x)) := fun s x => by simp only [h1m]
  have w19 : ∀ (s : zS) (x : Int32), sF n (M s) 187 11 19 .int (.int x) = some (M (wI s 187 19 x)) := fun s x => by simp only [h1m]
  have w20 : ∀ (s : zS) (x : Int32), sF n (M s) 187 11 20 .int (.int x) = some (M (wI s 187 20 x)) := fun s x => by simp only [h1m]
  have w21 : ∀ (s : zS) (x : Int32), sF n (M s) 187 11 21 .int (.int x) = some (M (wI s 187 21 x)) := fun s x => by simp only [h1m]
  have w22 : ∀ (s : zS) (x : Int32), sF n (M s) 187 11 22 .int (.int x) = some (M (wI s 187 22 x)) := fun s x => by simp only [h1m]
  have w23 : ∀ (s : zS) (x : Int32), sF n (M s) 187 11 23 .int (.int x) = some (M (wI s 187 23 x)) := fun s x => by simp only [h1m]
  have w54 : ∀ (s : zS) (x : Int32), sF n (M s) 187 11 54 .int (.int x) = some (M (wI s 187 54 x)) := fun s x => by simp only [h1m]
  have k0 : ∀ s, kO n (M s) 187 11 = some () := h1m.1
  obtain ⟨sb, eb⟩ : ∃ sb : zS, sb = wI (wI (wI (wI (wI (wI (wI s 187 18 (nI 0)) 187 19 (nI 0)) 187 20 (nI 0)) 187 21 (nI 0)) 187 22 (nI 0)) 187 23 (nI 0)) 187 54 (nI 0) := ⟨_, rfl⟩
  obtain ⟨sc, c1, c2, c3, c4, -, c6, c7, c8⟩ := m_p37 hM0 3 0 bi_K sb (by omega) (by unfold bi_K; omega)
  have ob : ∀ b, b ≠ 187 → sb.1 b = s.1 b := fun b h => by rw [eb, wI_ne h, wI_ne h, wI_ne h, wI_ne h, wI_ne h, wI_ne h, wI_ne h]
  refine ⟨sc, ?_, by rw [c2, eb]; rfl, fun b h1 h2 h3 h4 => by rw [c3 b h2 h3 h4, ob b h1], fun j hj => ?_, fun j hj => ?_, fun j hj => by rw [(c4 j hj).1, (c4 j hj).2, ob 209 (by omega), ob 191 (by omega)]; exact ⟨rfl, rfl⟩, fun j hj => c6 j (Nat.zero_le _) hj, c7, c8⟩
  · have z0 : (0 : Int32) = nI 0 := rfl
    unfold fX11_plain
    rw [k0, Option.bind_some, z0, w18, Option.bind_some, w19, Option.bind_some, w20, Option.bind_some, w21, Option.bind_some, w22, Option.bind_some, w23, Option.bind_some, w54, Option.bind_some, ← eb, c1]
  · rw [c3 187 (by omega) (by omega) (by omega), eb]
    rcases (by omega : j = 18 ∨ j = 19 ∨ j = 20 ∨ j = 21 ∨ j = 22 ∨ j = 23 ∨ j = 54) with e | e | e | e | e | e | e <;> rw [e] <;> simp (disch := omega) only [wI_at, upd_at, upd_ne]
  · rw [c3 187 (by omega) (by omega) (by omega), eb, wI_at, upd_ne (by omega), wI_at, upd_ne (by omega), wI_at, upd_ne (by omega), wI_at, upd_ne (by omega), wI_at, upd_ne (by omega), wI_at, upd_ne (by omega), wI_at, upd_ne (by omega)]
/-- the reference, at a text's beginning: what is written before the first token -/
theorem m_tx0 (hn : 239 ≤ n) (hw : ∀ i, i < 108 → s.1 189 i = nI (WC i)) (N7 : N ≤ 700) (hb : ∀ i, i < N → s.1 188 i = nI (B i)) (hB : ∀ i, B i < 256) : ∃ s' : zS, ((sF n (mk s) 187 11 6 .int (.int (nI N))).bind fun h3 => (sF n h3 187 11 1 .int (.int (0 : Int32))).bind fun h4 => (sF n h4 187 11 4 .int (.int (0 : Int32))).bind fun h5 => (sF n h5 187 11 5 .int (.int (-1 : Int32))).bind fun h6 => (sF n h6 187 11 7 .int (.int (0 : Int32))).bind fun h7 => (fX11_plain n h7 187).bind fun q8 => (fX11_token n q8.2 187).bind fun q9 => fX11_text_55 n bi_K q9.2 187 (0 : Int32)) = fX11_text_55 n bi_K (mk s') 187 (nI 0) ∧ frDt (wI s 187 1 (nI 0)) s' ∧ s'.1 187 4 = nI 0 ∧ s'.1 187 5 = m1 ∧ mL B N s' (x00 B N) := by
  have w1 : ∀ (s : zS) (x : Int32), sF n (mk s) 187 11 1 .int (.int x) = some (mk (wI s 187 1 x)) := fun s x => by simp only [B_m hn]
  have w4 : ∀ (s : zS) (x : Int32), sF n (mk s) 187 11 4 .int (.int x) = some (mk (wI s 187 4 x)) := fun s x => by simp only [B_m hn]
  have w5 : ∀ (s : zS) (x : Int32), sF n (mk s) 187 11 5 .int (.int x) = some (mk (wI s 187 5 x)) := fun s x => by simp only [B_m hn]
  have w6 : ∀ (s : zS) (x : Int32), sF n (mk s) 187 11 6 .int (.int x) = some (mk (wI s 187 6 x)) := fun s x => by simp only [B_m hn]
  have w7 : ∀ (s : zS) (x : Int32), sF n (mk s) 187 11 7 .int (.int x) = some (mk (wI s 187 7 x)) := fun s x => by simp only [B_m hn]
  obtain ⟨sa, ea⟩ : ∃ sa : zS, sa = wI (wI (wI (wI (wI s 187 6 (nI N)) 187 1 (nI 0)) 187 4 (nI 0)) 187 5 m1) 187 7 (nI 0) := ⟨_, rfl⟩
  obtain ⟨sc, c1, c2, c3, b18, bo, c4, c6, c7, c8⟩ := m_plainM (s := sa) (bM_mk hn)
  have oa : ∀ b, b ≠ 187 → sa.1 b = s.1 b := fun b h => by rw [ea, wI_ne h, wI_ne h, wI_ne h, wI_ne h, wI_ne h]
  have a7 : sa.1 187 7 = nI 0 := by rw [ea, wI_at, upd_at]
  have a6 : sa.1 187 6 = nI N := by rw [ea, wI_at, upd_ne (by omega), wI_at, upd_ne (by omega), wI_at, upd_ne (by omega), wI_at, upd_ne (by omega), wI_at, upd_at]
  have a4 : sa.1 187 4 = nI 0 := by rw [ea, wI_at, upd_ne (by omega), wI_at, upd_ne (by omega), wI_at, upd_at]
  have a5 : sa.1 187 5 = m1 := by rw [ea, wI_at, upd_ne (by omega), wI_at, upd_at]
  have hT : mtT sc B N := by
    refine ⟨by rw [bo 6 (by omega)]; exact a6, N7, fun i hi => ?_, hB, fun i hi => ?_⟩
    · rw [c3 188 (by omega) (by omega) (by omega) (by omega), oa 188 (by omega)]; exact hb i hi
    · rw [c3 189 (by omega) (by omega) (by omega) (by omega), oa 189 (by omega)]; exact hw i hi
  obtain ⟨sd, d1, d2, d3⟩ := m_tok hn hT (by rw [bo 7 (by omega)]; exact a7) (Nat.zero_le _)
  have od : ∀ b, b ≠ 187 → b ≠ 190 → b ≠ 191 → b ≠ 209 → sd.1 b = s.1 b := fun b h1 h2 h3 h4 => by rw [d2.2.1 b h1, c3 b h1 h2 h3 h4, oa b h1]
  have fa : ∀ j, ¬ (4 ≤ j ∧ j ≤ 11) → ¬ (18 ≤ j ∧ j ≤ 23) → ¬ (51 ≤ j ∧ j ≤ 56) → sd.1 187 j = (wI s 187 1 (nI 0)).1 187 j := fun j h1 h2 h3 => by
    rw [d2.2.2 j (by omega) (by omega) (by omega) (by omega), bo j (by omega), ea, wI_at, upd_ne (by omega), wI_at, upd_ne (by omega), wI_at, upd_ne (by omega), wI_at, wI_at, wI_at]
    by_cases e : j = 1
    · rw [e, upd_at, upd_at]
    · rw [upd_ne e, upd_ne e, upd_ne (by omega)]
  refine ⟨sd, ?_, ⟨?_, ?_, fa, ?_, ?_, ?_⟩, ?_, ?_, ⟨?_, d3, lx_w (Nat.zero_le _)⟩, ⟨fun τ hτ => ⟨?_, fun i hi => ?_⟩, ?_, ?_, fun w hw => ⟨?_, fun h => absurd rfl h⟩⟩, ⟨?_, ?_, ?_, ?_⟩, fun w hw h => absurd rfl h⟩
  · have z0 : (0 : Int32) = nI 0 := rfl
    have m1e : (-1 : Int32) = m1 := rfl
    rw [w6, Option.bind_some, z0, w1, Option.bind_some, w4, Option.bind_some, m1e, w5, Option.bind_some, w7, Option.bind_some, ← ea, c1, Option.bind_some, d1]
    rfl
  · rw [d2.1, c2, ea]; rfl
  · intro b hb'
    rw [wI_ne (by omega), od b (by omega) (by omega) (by omega) (by omega)]
  · intro j hj
    rw [wI_ne (by omega), wI_ne (by omega), wI_ne (by omega), wI_ne (by omega), d2.2.1 191 (by omega), d2.2.1 209 (by omega), od 210 (by omega) (by omega) (by omega) (by omega), od 211 (by omega) (by omega) (by omega) (by omega), (c4 j hj).1, (c4 j hj).2, oa 209 (by omega), oa 191 (by omega)]
    exact ⟨rfl, rfl, rfl, rfl⟩
  · intro τ hτ c hc j _
    have := aF1 hτ
    rw [wI_ne (by omega), od _ (by omega) (by omega) (by omega) (by omega)]
  · intro j _
    rw [wI_ne (by omega), wI_ne (by omega), wI_ne (by omega), od 212 (by omega) (by omega) (by omega) (by omega), od 213 (by omega) (by omega) (by omega) (by omega), od 214 (by omega) (by omega) (by omega) (by omega)]
    exact ⟨rfl, rfl, rfl⟩
  · rw [d2.2.2 4 (by omega) (by omega) (by omega) (by omega), bo 4 (by omega)]; exact a4
  · rw [d2.2.2 5 (by omega) (by omega) (by omega) (by omega), bo 5 (by omega)]; exact a5
  · exact mtT_R hT d2
  · show sd.1 187 (18 + τ) = nI (T00 0 τ)
    rw [d2.2.2 _ (by omega) (by omega) (by omega) (by omega), b18 _ (by omega), show T00 0 τ = 0 from if_neg (by omega)]
  · have hi : i < T00 0 τ := hi
    rw [show T00 0 τ = 0 from if_neg (by omega)] at hi
    omega
  · show sd.1 191 3 = nI (T00 0 6) ∧ sd.1 191 4 = nI (T00 0 7) ∧ sd.1 191 5 = nI (T00 0 8)
    rw [d2.2.1 191 (by omega)]
    exact c7
  · intro i hi
    show sd.1 190 i = nI ((0 : Nat).testBit (5 + i)).toNat
    rw [d2.2.1 190 (by omega), c6 i hi, Nat.zero_testBit]
    rfl
  · show sd.1 209 (3 + w) = nI ((0 : Nat).testBit (9 + w)).toNat
    rw [d2.2.1 209 (by omega), c8 w hw, Nat.zero_testBit]
    rfl
  · show sd.1 187 23 = nI 0
    rw [d2.2.2 _ (by omega) (by omega) (by omega) (by omega), b18 _ (by omega)]
  · show sd.1 187 54 = nI 0
    rw [d2.2.2 _ (by omega) (by omega) (by omega) (by omega), b18 _ (by omega)]
  · rw [d2.2.2 4 (by omega) (by omega) (by omega) (by omega), bo 4 (by omega)]; exact a4
  · rw [d2.2.2 5 (by omega) (by omega) (by omega) (by omega), bo 5 (by omega)]; exact a5
end Mr12
