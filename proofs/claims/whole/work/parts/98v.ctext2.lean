/-! ===== the text on the class: read whole ===== -/
section Cv
variable {n t N a : Nat} {B : Nat → Nat} {s s' s1 : zS}
theorem c_rtext (hn : 239 ≤ n) (ht : t = 6 ∨ t = 29) (N7 : N ≤ 700) (hw : ∀ k, k < 22 → s.1 5 k = nI (WD k)) (hB : ∀ i, B i < 256) (hb : ∀ i, i < N → s.1 2 i = by8 (B i)) : rtC B N t s (fX3_readText n (mk s) 3 2 (nI N) t) (txA B N) := by
  obtain ⟨s2, a1, a2, a3, a4, a5, a6, a7⟩ := c_empty (n := n) (s := wQ s 3 1 t) hn ht
  obtain ⟨s3, e3⟩ : ∃ s3 : zS, s3 = wI (wI (wQ (wI (wI (wI s2 3 2 (nI 0)) 3 3 (nI 0)) 3 4 m1) 4 1 2) 4 2 (nI N)) 4 3 (nI 0) := ⟨_, rfl⟩
  have r2 : s2.2.2 3 1 = t := by rw [a2]; rw [wQ_at, va_up, if_pos rfl]
  have o3 : ∀ b, b ≠ 3 → b ≠ 4 → s3.1 b = s2.1 b := fun b h1 h2 => by rw [e3, wI_ne h2, wI_ne h2, wQ_1, wI_ne h1, wI_ne h1, wI_ne h1]
  have o31 : s3.1 3 2 = nI 0 ∧ s3.1 3 3 = nI 0 ∧ s3.1 3 4 = m1 := by
    rw [e3, wI_ne (by omega), wI_ne (by omega), wQ_1]
    refine ⟨?_, ?_, ?_⟩
    · rw [wI_at, upd_ne (by omega), wI_at, upd_ne (by omega), wI_at, upd_at]
    · rw [wI_at, upd_ne (by omega), wI_at, upd_at]
    · rw [wI_at, upd_at]
  have q3 : s3.2.1 = s.2.1 := by rw [e3]; show s2.2.1 = s.2.1; rw [a2]; rfl
  have q31 : s3.2.2 3 1 = t := by
    rw [e3]
    show (wQ (wI (wI (wI s2 3 2 (nI 0)) 3 3 (nI 0)) 3 4 m1) 4 1 2).2.2 3 1 = t
    rw [wQ_ne (by omega)]
    exact r2
  have q3o : ∀ b, b ≠ 3 → b ≠ 4 → s3.2.2 b = s.2.2 b := fun b h1 h2 => by
    rw [e3]
    show (wQ (wI (wI (wI s2 3 2 (nI 0)) 3 3 (nI 0)) 3 4 m1) 4 1 2).2.2 b = _
    rw [wQ_ne h2]
    show s2.2.2 b = _
    rw [a2, wQ_ne h1]
  have bt3 : btT s3 B N := by
    refine ⟨?_, ?_, N7, ?_, hB, ?_⟩
    · rw [e3]
      show (wQ (wI (wI (wI s2 3 2 (nI 0)) 3 3 (nI 0)) 3 4 m1) 4 1 2).2.2 4 1 = 2
      rw [wQ_at, va_up, if_pos rfl]
    · rw [e3, wI_at, upd_ne (by omega), wI_at, upd_at]
    · intro i hi
      rw [o3 2 (by omega) (by omega), a3 2 (by omega)]
      exact hb i hi
    · intro k hk
      rw [o3 5 (by omega) (by omega), a3 5 (by omega)]
      exact hw k hk
  have i3 : s3.1 4 3 = nI 0 := by rw [e3, wI_at, upd_at]
  obtain ⟨s4, b1, b2, b3⟩ := c_adv hn bt3 i3 (by omega)
  have L4 : cL B N t s4 (x00 B N) := by
    refine ⟨⟨btT_K bt3 b2, by rw [b2.1]; exact q31, b3, lx_w (by omega), ?_, ?_, True.intro⟩, dT_f a4 (fun a h1 h2 h3 => by rw [b2.2.1 a (by omega), o3 a (by omega) (by omega)]), by rw [b2.2.1 3 (by omega)]; exact o31⟩
    · rw [b2.2.1 _ (by omega), o3 _ (by omega) (by omega)]; exact a5
    · rw [b2.2.1 _ (by omega), o3 _ (by omega) (by omega)]; exact a6
  have tx := c_txt (B := B) hn ht N7 701 0 bi_K (x00 B N) s4 (by omega) (by unfold bi_K; omega) iv_00 L4 (by rw [b2.2.1 _ (by omega), o3 _ (by omega) (by omega)]; exact a7)
  have run : fX3_readText n (mk s) 3 2 (nI N) t = fX3_readText_39 n bi_K (mk s4) 3 (nI 0) := by
    unfold fX3_readText fX7_begin
    have k0 : ∀ s, kO n (mk s) 3 3 = some () := (B_r0 hn).1
    have w1 : sF n (mk s) 3 3 1 (.object "PathsKept$Told") (.ref t) = some (mk (wQ s 3 1 t)) := by simp (disch := omega) only [B_rd hn]
    have r1 := B_31 (n := n) (s := wQ s 3 1 t) hn ht (by rw [wQ_at, va_up, if_pos rfl])
    have w2 : ∀ (s : zS) (x : Int32), sF n (mk s) 3 3 2 .int (.int x) = some (mk (wI s 3 2 x)) := fun s x => by simp only [B_rd hn]
    have w3 : ∀ (s : zS) (x : Int32), sF n (mk s) 3 3 3 .int (.int x) = some (mk (wI s 3 3 x)) := fun s x => by simp only [B_rd hn]
    have w4 : ∀ (s : zS) (x : Int32), sF n (mk s) 3 3 4 .int (.int x) = some (mk (wI s 3 4 x)) := fun s x => by simp only [B_rd hn]
    have k4 : ∀ s, kO n (mk s) 4 7 = some () := fun s => by simp only [B_rd hn]
    have w5 : ∀ s, sF n (mk s) 4 7 1 (.array .byte) (.ref 2) = some (mk (wQ s 4 1 2)) := fun s => by simp (disch := omega) only [B_rd hn]
    have l2 : ∀ s, lA n (mk s) 2 = some (nI 700) := fun s => by simp only [B_rd hn]
    have w6 : ∀ (s : zS) (x : Int32), sF n (mk s) 4 7 2 .int (.int x) = some (mk (wI s 4 2 x)) := fun s x => by simp only [B_rd hn]
    have w7 : ∀ (s : zS) (x : Int32), sF n (mk s) 4 7 3 .int (.int x) = some (mk (wI s 4 3 x)) := fun s x => by simp only [B_rd hn]
    have r0 : ∀ s, pR n (mk s) 3 3 0 = some 4 := (B_r0 hn).2.1
    have lt : (nI 700 < nI N) = False := by rw [n_lt (by omega) (by omega)]; exact eq_false (by omega)
    have m1e : (-1 : Int32) = m1 := rfl
    have z0 : (0 : Int32) = nI 0 := rfl
    rw [k0, Option.bind_some, w1, Option.bind_some, r1, Option.bind_some, a1, Option.bind_some]
    simp only [z0, m1e, w2, w3, w4, r0, k4, w5, l2, lt, if_false, w6, w7, Option.bind_some]
    rw [← e3, b1]
    rfl
  rw [run]
  have fr4 : frTx t s s4 := by
    refine ⟨fun a h1 h2 h3 => ?_, ?_, fun a h1 h2 => ?_⟩
    · rw [b2.2.1 a h3, o3 a h2 h3, a3 a h1]; rfl
    · rw [b2.1]; exact q3
    · rw [b2.1]; exact q3o a h1 h2
  have frt : ∀ s', frJ t s4 s' → frTx t s s' := fun s' f => ⟨fun a h1 h2 h3 => (f.2.1 a h1 h2 h3).trans (fr4.1 a h1 h2 h3), by rw [f.1]; exact fr4.2.1, fun a h1 h2 => by rw [f.1]; exact fr4.2.2 a h1 h2⟩
  show rtC B N t s _ (txV B N 701 0 (x00 B N))
  cases hr : txV B N 701 0 (x00 B N) with
  | error e =>
    rw [hr] at tx
    obtain ⟨s', g1, g2, g3, g4⟩ := tx
    exact ⟨s', g1, frt s' g2, g3, g4⟩
  | ok y =>
    rw [hr] at tx
    obtain ⟨s', g1, g2, g3, g4, g5⟩ := tx
    exact ⟨s', g1, frt s' g2, g3, g4, g5, g3.2.2.2⟩
end Cv
