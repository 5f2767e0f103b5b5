/-! ===== expressions on the reference: the whole sum ===== -/
section Mf
variable {n N k a r p : Nat} {B : Nat → Nat} {s s' s1 s2 : zS} {q : zQ} {y y' : zY} {W : List Nat} {o : List (Nat × Nat)} {kc br : Nat} {wa may : Bool} {tok : zK}
theorem sy_inr (h : syS B N y = .inr y') : y.1.1.1 ≠ 37 ∧ y'.1.1 = lxV B N y.1.1.2.2.2 := by
  obtain ⟨⟨tok, o, kc⟩, W, br, wa, may⟩ := y
  unfold syS at h
  by_cases c0 : tok.1 = 24 ∧ wa = false ∧ br = 0
  · rw [if_pos c0] at h; cases h
  rw [if_neg c0] at h
  cases wa with
  | true =>
    rw [if_pos rfl] at h
    by_cases c1 : tok.1 = 25
    · rw [if_pos c1] at h
      by_cases c2 : br = 8
      · rw [if_pos c2] at h; cases h
      · rw [if_neg c2] at h; cases h; exact ⟨by show tok.1 ≠ 37; omega, rfl⟩
    rw [if_neg c1] at h
    by_cases c2 : tok.1 = 14 ∧ may = true
    · rw [if_pos c2] at h
      by_cases c3 : 64 ≤ kc
      · rw [if_pos c3] at h; cases h
      · rw [if_neg c3] at h; cases h; exact ⟨by show tok.1 ≠ 37; omega, rfl⟩
    rw [if_neg c2] at h
    by_cases c3 : isLf tok.1 = true
    · rw [if_pos c3] at h
      by_cases c4 : tok.1 = 23 ∧ 9999 < tok.2.1
      · rw [if_pos c4] at h; cases h
      rw [if_neg c4] at h
      by_cases c5 : 64 ≤ kc
      · rw [if_pos c5] at h; cases h
      · rw [if_neg c5] at h; cases h
        exact ⟨fun e => absurd c3 (by have e : tok.1 = 37 := e; rw [e]; decide), rfl⟩
    · rw [if_neg c3] at h; cases h
  | false =>
    rw [if_neg Bool.false_ne_true] at h
    by_cases c1 : tok.1 = 26 ∧ 0 < br
    · rw [if_pos c1] at h; cases h; exact ⟨by show tok.1 ≠ 37; omega, rfl⟩
    rw [if_neg c1] at h
    by_cases c2 : lvO tok.1 = 9
    · rw [if_pos c2] at h; cases h
    rw [if_neg c2] at h
    by_cases c3 : lvO tok.1 = 3 ∧ (bdP 5 W o).1.head?.map rkO = some 4
    · rw [if_pos c3] at h; cases h
    rw [if_neg c3] at h
    by_cases c4 : 64 ≤ kc
    · rw [if_pos c4] at h; cases h
    · rw [if_neg c4] at h; cases h
      exact ⟨fun e => c2 (by have e : tok.1 = 37 := e; rw [e]; rfl), rfl⟩
theorem sy_fuel {r : Except (Nat × Nat) zQ} : ∀ (m f p : Nat) (y : zY), tkP N p y.1.1 → N - p ≤ m → syR B N f y = some r → syR B N (m + 1) y = some r := by
  intro m
  induction m with
  | zero =>
    intro f p y ht hm h
    cases f with
    | zero => cases h
    | succ f =>
      have h' : (match syS B N y with | .inl r => some r | .inr y' => syR B N f y') = some r := h
      show (match syS B N y with | .inl r => some r | .inr y' => syR B N 0 y') = some r
      cases hs : syS B N y with
      | inl x => rw [hs] at h'; exact h'
      | inr y' =>
        obtain ⟨g1, g2⟩ := sy_inr hs
        have t := ht.2.2.2 g1
        have t2 := ht.1.2.2.2
        have t3 := ht.2.1
        omega
  | succ m ih =>
    intro f p y ht hm h
    cases f with
    | zero => cases h
    | succ f =>
      have h' : (match syS B N y with | .inl r => some r | .inr y' => syR B N f y') = some r := h
      show (match syS B N y with | .inl r => some r | .inr y' => syR B N (m + 1) y') = some r
      cases hs : syS B N y with
      | inl x => rw [hs] at h'; exact h'
      | inr y' =>
        rw [hs] at h'
        obtain ⟨g1, g2⟩ := sy_inr hs
        have t := tkP_1 (B := B) ht g1
        rw [← g2] at t
        exact ih f (p + 1) y' t (by omega) h'
/-- what a sum gives on the reference -/
def smR (B : Nat → Nat) (N a : Nat) (s : zS) (c : Option (Int32 × ai_H)) : Except (Nat × Nat) zQ → Prop
  | .error e => erM a s c e
  | .ok q => ∃ s', c = some (nI 1, mk s') ∧ frE2 a s s' ∧ mHd B N s' q.1 ∧ q.1.1 = 24 ∧ (∃ may, mR a s' q.2.1 q.2.2 [] 0 false may ∧ jY a (q, [], 0, false, may))
theorem m_sumL {r : Except (Nat × Nat) zQ} (hn : 239 ≤ n) : ∀ (f F : Nat) (y : zY) (s : zS), syR B N f y = some r → f ≤ F → mY B N a s y → jY a y → smR B N a s (fX11_sumRead_25 n F (mk s) 187) r := by
  intro f
  induction f with
  | zero => intro F y s h; cases h
  | succ f ih =>
    intro F y s h hF hy hj
    obtain ⟨F', rfl⟩ : ∃ F', F = F' + 1 := ⟨F - 1, by omega⟩
    have h' : (match syS B N y with | .inl r => some r | .inr y' => syR B N f y') = some r := h
    have st := m_step (F := F') hn hy hj
    show smR B N a s (fX11_sumRead_25b n (fX11_sumRead_25 n F') (mk s) 187) r
    cases hs : syS B N y with
    | inl x =>
      rw [hs] at h' st
      cases h'
      cases r with
      | error e => exact st
      | ok q => exact st
    | inr y' =>
      rw [hs] at h' st
      obtain ⟨s', e1, e2, e3, e4⟩ := st
      rw [e1]
      have g := ih F' y' s' h' (by omega) e3 e4
      cases r with
      | error e => exact erM_t e2 g
      | ok q =>
        obtain ⟨s2, g1, g2, g3⟩ := g
        exact ⟨s2, g1, frE2_t e2 g2, g3⟩
theorem hd_0 (o : List (Nat × Nat)) : hdK o.length o = [] := by
  cases o with
  | nil => rfl
  | cons x o =>
    show (if o.length < o.length + 1 then [] else _) = []
    rw [if_pos (by omega)]
theorem kn_0 {I : Nat → Nat → Int32} : ∀ o : List (Nat × Nat), o.length ≤ a → knM I a o
  | [], _ => True.intro
  | x :: o, h => by
    have h : o.length + 1 ≤ a := h
    exact ⟨fun g => by omega, kn_0 o (by omega)⟩
/-- a sum, read whole -/
theorem m_sum {r : Except (Nat × Nat) zQ} (hn : 239 ≤ n) (hH : mHd B N s tok) (ht : tkP N p tok) (h23 : s.1 187 23 = nI o.length) (h54 : s.1 187 54 = nI kc) (hb : o.length = kc) (h64 : kc ≤ 64) (h : exQ B N k (tok, o, kc) = some r) : smR B N o.length s (fX11_sumRead n (mk s) 187) r := by
  obtain ⟨s1, e1⟩ : ∃ s1 : zS, s1 = wI (wI (wI (wI (wI s 187 51 (nI 0)) 187 52 (nI 0)) 187 53 (nI 0)) 187 55 (nI 1)) 187 56 (nI 1) := ⟨_, rfl⟩
  have o184 : ∀ j, ¬ (51 ≤ j ∧ j ≤ 53) → j ≠ 55 → j ≠ 56 → s1.1 187 j = s.1 187 j := fun j g1 g2 g3 => by rw [e1, wI_at, upd_ne g3, wI_at, upd_ne g2, wI_at, upd_ne (by omega), wI_at, upd_ne (by omega), wI_at, upd_ne (by omega)]
  have oth : ∀ b, b ≠ 187 → s1.1 b = s.1 b := fun b g1 => by rw [e1, wI_ne g1, wI_ne g1, wI_ne g1, wI_ne g1, wI_ne g1]
  have H1 : mHd B N s1 tok := mHd_f hH (fun j g1 g2 => o184 j (by omega) (by omega) (by omega)) (oth 188 (by omega)) (oth 189 (by omega))
  have R1 : mR o.length s1 o kc [] 0 true true := by
    refine ⟨⟨by rw [o184 23 (by omega) (by omega) (by omega)]; exact h23, by rw [o184 54 (by omega) (by omega) (by omega)]; exact h54, ?_, ?_, ?_, ?_, ?_⟩, True.intro, ?_, kn_0 o (Nat.le_refl _)⟩
    · rw [e1, wI_at, upd_ne (by omega), wI_at, upd_ne (by omega), wI_at, upd_ne (by omega), wI_at, upd_ne (by omega), wI_at, upd_at]; rfl
    · rw [hd_0, e1, wI_at, upd_ne (by omega), wI_at, upd_ne (by omega), wI_at, upd_ne (by omega), wI_at, upd_at]; rfl
    · rw [e1, wI_at, upd_ne (by omega), wI_at, upd_ne (by omega), wI_at, upd_at]
    · rw [e1, wI_at, upd_ne (by omega), wI_at, upd_at]; rfl
    · rw [e1, wI_at, upd_at]; rfl
    · rw [hd_0]; exact True.intro
  have J1 : jY o.length ((tok, o, kc), [], 0, true, true) := by
    refine ⟨fun h hh => (by cases hh), ?_, Nat.le_refl _, ?_, h64, rfl, Nat.zero_le _⟩
    · show (hdK o.length o).length + 1 = 0 + 1
      rw [hd_0]
      rfl
    · show o.length + 0 = kc
      omega
  obtain ⟨c, hc⟩ := ex_sy h
  have hf := sy_fuel N (0 + c) p ((tok, o, kc), [], 0, true, true) ht (by omega) (hc 0)
  have N7 : N ≤ 700 := hH.1.2.1
  have g := m_sumL hn (N + 1) bi_K _ s1 hf (by unfold bi_K; omega) ⟨H1, R1⟩ J1
  have run : fX11_sumRead n (mk s) 187 = fX11_sumRead_25 n bi_K (mk s1) 187 := by
    unfold fX11_sumRead
    have w51 : ∀ (s : zS) (x : Int32), sF n (mk s) 187 11 51 .int (.int x) = some (mk (wI s 187 51 x)) := fun s x => by simp only [B_m hn]
    have w52 : ∀ (s : zS) (x : Int32), sF n (mk s) 187 11 52 .int (.int x) = some (mk (wI s 187 52 x)) := fun s x => by simp only [B_m hn]
    have w53 : ∀ (s : zS) (x : Int32), sF n (mk s) 187 11 53 .int (.int x) = some (mk (wI s 187 53 x)) := fun s x => by simp only [B_m hn]
    have w55 : ∀ s : zS, sF n (mk s) 187 11 55 .boolean (.int (1 : Int32)) = some (mk (wI s 187 55 (nI 1))) := fun s => (B_mz hn).1 s 1 (by omega)
    have w56 : ∀ s : zS, sF n (mk s) 187 11 56 .boolean (.int (1 : Int32)) = some (mk (wI s 187 56 (nI 1))) := fun s => (B_mz hn).2.1 s 1 (by omega)
    rw [(B_m hn).1, Option.bind_some, w51, Option.bind_some, w52, Option.bind_some, w53, Option.bind_some, w55, Option.bind_some, w56, Option.bind_some, e1]
    rfl
  rw [run]
  have f1 : frE2 o.length s s1 := by
    rw [e1]
    exact frE2_t (frE2_w (by omega)) (frE2_t (frE2_w (by omega)) (frE2_t (frE2_w (by omega)) (frE2_t (frE2_w (by omega)) (frE2_w (by omega)))))
  cases r with
  | error e => exact erM_t f1 g
  | ok q =>
    obtain ⟨s2, g1, g2, g3⟩ := g
    exact ⟨s2, g1, frE2_t f1 g2, g3⟩
end Mf
