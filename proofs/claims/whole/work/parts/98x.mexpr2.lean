/-! ===== expressions on the reference: what waits is bound ===== -/
def bnW : List Nat → Nat
  | [] => 0
  | h :: t => (if h = 14 ∨ h = 25 then 0 else 1) + bnW t
def nnW : List Nat → Nat
  | [] => 0
  | h :: t => (if h = 25 then 0 else 1) + nnW t
section Mx2
variable {n N k a r : Nat} {B : Nat → Nat} {s s' s1 s2 : zS} {q : zQ} {y : zY} {W : List Nat} {o : List (Nat × Nat)}
def mZ (a : Nat) (s : zS) (W : List Nat) (o : List (Nat × Nat)) : Prop := (s.1 187 23 = nI o.length ∧ s.1 187 51 = nI W.length ∧ s.1 187 52 = nI (hdK a o).length) ∧ wsM s.1 W ∧ hsM s.1 (hdK a o) ∧ knM s.1 a o
def frBd (a : Nat) (s s' : zS) : Prop := s'.2 = s.2 ∧ (∀ b, b ≠ 187 → b ≠ 212 → b ≠ 213 → b ≠ 214 → b ≠ 215 → b ≠ 216 → s'.1 b = s.1 b) ∧ (∀ j, j ≠ 23 → j ≠ 51 → j ≠ 52 → s'.1 187 j = s.1 187 j) ∧ ∀ j, j < 64 + a → s'.1 212 j = s.1 212 j ∧ s'.1 213 j = s.1 213 j ∧ s'.1 214 j = s.1 214 j
theorem frBd_r : frBd a s s := ⟨rfl, fun _ _ _ _ _ _ _ => rfl, fun _ _ _ _ => rfl, fun _ _ => ⟨rfl, rfl, rfl⟩⟩
theorem frBd_t (h : frBd a s s1) (g : frBd a s1 s2) : frBd a s s2 := ⟨g.1.trans h.1, fun b h1 h2 h3 h4 h5 h6 => (g.2.1 b h1 h2 h3 h4 h5 h6).trans (h.2.1 b h1 h2 h3 h4 h5 h6), fun j h1 h2 h3 => (g.2.2.1 j h1 h2 h3).trans (h.2.2.1 j h1 h2 h3), fun j hj => ⟨(g.2.2.2 j hj).1.trans (h.2.2.2 j hj).1, (g.2.2.2 j hj).2.1.trans (h.2.2.2 j hj).2.1, (g.2.2.2 j hj).2.2.trans (h.2.2.2 j hj).2.2⟩⟩
theorem frBd_E (h : frBd a s s1) : frE2 a s s1 := ⟨h.1, h.2.1, fun j _ _ _ _ _ _ h7 h8 => h.2.2.1 j h7 (by omega) (by omega), h.2.2.2⟩
/-- what a new knot writes -/
def grS (s : zS) (L H : Nat) (x1 x2 x3 : Int32) : zS := wI (wI (wI (wI (wI (wI s 212 (64 + L) x1) 213 (64 + L) x2) 214 (64 + L) x3) 216 H (nI L)) 187 52 (nI (H + 1))) 187 23 (nI (L + 1))
theorem m_grown {L H : Nat} {x1 x2 x3 : Int32} (hn : 239 ≤ n) (h23 : s.1 187 23 = nI L) (h52 : s.1 187 52 = nI H) (hL : L < 64) (hH : H < 96) : fX11_grown n (mk s) 187 x1 x2 x3 = some ((), mk (grS s L H x1 x2 x3)) := by
  unfold fX11_grown grS
  simp (disch := first | omega | assumption | (simp only [wL_1, wL_22, wI_2, wA_2, wQ_1, wQ_21] <;> first | assumption | omega)) only [LIT, LITm, nI_add, n_mul, fa_or, n_31m, n_shl0, n_le, n_lt, n_eq, Option.bind_some, B_m hn, B_mb hn, h23, h52, wI_ne, wI_at, upd_ne, ne_eq]
theorem m_drop {H : Nat} {v : Int32} (hn : 239 ≤ n) (h52 : s.1 187 52 = nI (H + 1)) (hH : H < 96) (hv : s.1 216 H = v) : fX11_dropHeld n (mk s) 187 = some (v, mk (wI s 187 52 (nI H))) := by
  unfold fX11_dropHeld
  have su : nI (H + 1) - (1 : Int32) = nI H := by
    have := nI_add H 1
    rw [← this]
    show nI H + nI 1 - nI 1 = nI H
    exact Int32.add_sub_cancel _ _
  rw [(B_m hn).1, Option.bind_some]
  have p52 : ∀ s, pI n (mk s) 187 11 52 = some (s.1 187 52) := fun s => by simp only [B_m hn]
  have w52 : ∀ (s : zS) (x : Int32), sF n (mk s) 187 11 52 .int (.int x) = some (mk (wI s 187 52 x)) := fun s x => by simp only [B_m hn]
  have r50 : ∀ s, pR n (mk s) 187 11 50 = some 216 := fun s => by simp only [B_m hn]
  have g213 : ∀ (s : zS) (j : Nat), j < 96 → gX 1 n (mk s) 216 (nI j) = some (s.1 216 j) := fun s j hj => by simp (disch := omega) only [B_mb hn]
  rw [p52, Option.bind_some, h52, su, w52, Option.bind_some, r50, Option.bind_some, p52, Option.bind_some, wI_at, upd_at, g213 _ _ hH, Option.bind_some, wI_ne (by omega), hv]
theorem gr_V {L H : Nat} {x1 x2 x3 : Int32} (hL : a ≤ L) : frBd a s (grS s L H x1 x2 x3) := by
  unfold grS
  refine ⟨rfl, fun b h1 h2 h3 h4 h5 h6 => ?_, fun j h1 h2 h3 => ?_, fun j hj => ⟨?_, ?_, ?_⟩⟩
  · rw [wI_ne h1, wI_ne h1, wI_ne h6, wI_ne h4, wI_ne h3, wI_ne h2]
  · rw [wI_at, upd_ne h1, wI_at, upd_ne h3, wI_ne (by omega), wI_ne (by omega), wI_ne (by omega), wI_ne (by omega)]
  · rw [wI_ne (by omega), wI_ne (by omega), wI_ne (by omega), wI_ne (by omega), wI_ne (by omega), wI_at, upd_ne (by omega)]
  · rw [wI_ne (by omega), wI_ne (by omega), wI_ne (by omega), wI_ne (by omega), wI_at, upd_ne (by omega), wI_ne (by omega)]
  · rw [wI_ne (by omega), wI_ne (by omega), wI_ne (by omega), wI_at, upd_ne (by omega), wI_ne (by omega), wI_ne (by omega)]
theorem hd_le (a : Nat) : ∀ o : List (Nat × Nat), (hdK a o).length ≤ o.length
  | [] => Nat.le_refl _
  | x :: o => by
    have ih := hd_le a o
    show (if o.length < a then [] else if isLf x.1 = true then o.length :: hdK a o else if x.1 = 14 then o.length :: (hdK a o).tail else o.length :: (hdK a o).tail.tail).length ≤ o.length + 1
    repeat' split
    · exact Nat.zero_le _
    · show (hdK a o).length + 1 ≤ _; omega
    · show (hdK a o).tail.length + 1 ≤ _
      rw [List.length_tail]; omega
    · show (hdK a o).tail.tail.length + 1 ≤ _
      rw [List.length_tail, List.length_tail]; omega
/-- a knot is told: the rows -/
theorem mZ_g {x : Nat × Nat} {l' : List Nat} {x1 x2 x3 : Int32} (hz : wsM s.1 W) (h51 : s.1 187 51 = nI W.length) (hh : hsM s.1 l') (hk : knM s.1 a o) (ha : a ≤ o.length) (hd : hdK a (x :: o) = o.length :: l') (he : ∀ I : Nat → Nat → Int32, I 212 (64 + o.length) = x1 → I 213 (64 + o.length) = x2 → I 214 (64 + o.length) = x3 → kE I (64 + o.length) x (hdK a o)) : mZ a (grS s o.length l'.length x1 x2 x3) W (x :: o) := by
  refine ⟨⟨?_, ?_, ?_⟩, ?_, ?_, ?_, ?_⟩
  · unfold grS; rw [wI_at, upd_at]; rfl
  · unfold grS; rw [wI_at, upd_ne (by omega), wI_at, upd_ne (by omega), wI_ne (by omega), wI_ne (by omega), wI_ne (by omega), wI_ne (by omega)]; exact h51
  · rw [hd]; unfold grS; rw [wI_at, upd_ne (by omega), wI_at, upd_at]; rfl
  · exact ws_f W (fun j _ => by unfold grS; rw [wI_ne (by omega), wI_ne (by omega), wI_ne (by omega), wI_ne (by omega), wI_ne (by omega), wI_ne (by omega)]) hz
  · rw [hd]
    refine ⟨by unfold grS; rw [wI_ne (by omega), wI_ne (by omega), wI_at, upd_at], hs_f l' (fun j hj => ?_) hh⟩
    unfold grS; rw [wI_ne (by omega), wI_ne (by omega), wI_at, upd_ne (by omega), wI_ne (by omega), wI_ne (by omega), wI_ne (by omega)]
  · intro _
    refine he _ ?_ ?_ ?_
    · unfold grS; rw [wI_ne (by omega), wI_ne (by omega), wI_ne (by omega), wI_ne (by omega), wI_ne (by omega), wI_at, upd_at]
    · unfold grS; rw [wI_ne (by omega), wI_ne (by omega), wI_ne (by omega), wI_ne (by omega), wI_at, upd_at]
    · unfold grS; rw [wI_ne (by omega), wI_ne (by omega), wI_ne (by omega), wI_at, upd_at]
  · refine kn_f o (fun j hj => ?_) hk
    unfold grS
    refine ⟨?_, ?_, ?_⟩
    · rw [wI_ne (by omega), wI_ne (by omega), wI_ne (by omega), wI_ne (by omega), wI_ne (by omega), wI_at, upd_ne (by omega)]
    · rw [wI_ne (by omega), wI_ne (by omega), wI_ne (by omega), wI_ne (by omega), wI_at, upd_ne (by omega), wI_ne (by omega)]
    · rw [wI_ne (by omega), wI_ne (by omega), wI_ne (by omega), wI_at, upd_ne (by omega), wI_ne (by omega), wI_ne (by omega)]
theorem sub1 (H : Nat) : nI (H + 1) - (1 : Int32) = nI H := by
  rw [← nI_add H 1]
  exact Int32.add_sub_cancel _ _
theorem frBd_w {j : Nat} {x : Int32} (h : j = 23 ∨ j = 51 ∨ j = 52) : frBd a s (wI s 187 j x) := ⟨rfl, fun b h1 _ _ _ _ _ => wI_ne h1, fun i _ _ _ => by rw [wI_at, upd_ne (by omega)], fun i _ => by rw [wI_ne (by omega), wI_ne (by omega), wI_ne (by omega)]; exact ⟨rfl, rfl, rfl⟩⟩
theorem m_bind (hn : 239 ≤ n) (hr : 1 ≤ r) (hr7 : r < 100) : ∀ (W : List Nat) (o : List (Nat × Nat)) (s : zS) (F : Nat), W.length < F → W.length ≤ 72 → (∀ h, h ∈ W → okW h ∧ h ≤ 38) → (hdK a o).length = bnW W + 1 → a ≤ o.length → o.length + nnW W ≤ 64 → mZ a s W o → ∃ s', fX11_bind_0 n F (mk s) 187 (nI r) = some ((), mk s') ∧ frBd a s s' ∧ mZ a s' (bdP r W o).1 (bdP r W o).2 ∧ (hdK a (bdP r W o).2).length = bnW (bdP r W o).1 + 1 ∧ a ≤ (bdP r W o).2.length ∧ (bdP r W o).2.length + nnW (bdP r W o).1 = o.length + nnW W := by
  have p51 : ∀ s, pI n (mk s) 187 11 51 = some (s.1 187 51) := fun s => by simp only [B_m hn]
  have w51 : ∀ (s : zS) (x : Int32), sF n (mk s) 187 11 51 .int (.int x) = some (mk (wI s 187 51 x)) := fun s x => by simp only [B_m hn]
  have r49 : ∀ s, pR n (mk s) 187 11 49 = some 215 := fun s => by simp only [B_m hn]
  have g212 : ∀ (s : zS) (j : Nat), j < 96 → gX 1 n (mk s) 215 (nI j) = some (s.1 215 j) := fun s j hj => by simp (disch := omega) only [B_mb hn]
  intro W
  induction W with
  | nil =>
    intro o s F hF _ _ hb ha hl hz
    obtain ⟨F', rfl⟩ : ∃ F', F = F' + 1 := ⟨F - 1, by have : 0 < F := hF; omega⟩
    have e51 : s.1 187 51 = nI 0 := hz.1.2.1
    refine ⟨s, ?_, frBd_r, hz, hb, ha, rfl⟩
    show fX11_bind_0b n (fX11_bind_0 n F') (mk s) 187 (nI r) = _
    unfold fX11_bind_0b
    rw [p51, Option.bind_some, e51, if_pos (by decide)]
  | cons h t ih =>
    intro o s F hF h72 hok hb ha hl hz
    obtain ⟨F', rfl⟩ : ∃ F', F = F' + 1 := ⟨F - 1, by have : t.length + 1 < F := hF; omega⟩
    have hF : t.length + 1 < F' + 1 := hF
    have h72 : t.length + 1 ≤ 72 := h72
    obtain ⟨o1, o38⟩ := hok h (List.mem_cons_self ..)
    obtain ⟨⟨z1, z2, z3⟩, z4, z5, z6⟩ := hz
    have z2 : s.1 187 51 = nI (t.length + 1) := z2
    have z41 : s.1 215 t.length = nI (wcd h) := z4.1
    have np : ¬ nI (t.length + 1) ≤ (0 : Int32) := by
      have : (nI (t.length + 1) ≤ nI 0) = (t.length + 1 ≤ 0) := n_le (by omega) (by omega)
      show ¬ nI (t.length + 1) ≤ nI 0
      rw [this]; omega
    have rk := m_rank (n := n) (s := s) o1 o38
    have rk7 : ∀ k : Fin 39, rkO k.1 < 11 := by decide
    have rk7 := rk7 ⟨h, by omega⟩
    have rk7 : rkO h < 11 := rk7
    have hd52 : (hdK a o).length ≤ o.length := hd_le a o
    show ∃ s', fX11_bind_0b n (fX11_bind_0 n F') (mk s) 187 (nI r) = _ ∧ _
    have bd : bdP r (h :: t) o = if r ≤ rkO h then bdP r t ((h, 0) :: o) else (h :: t, o) := rfl
    unfold fX11_bind_0b
    rw [p51, Option.bind_some, z2, if_neg np, r49, Option.bind_some, Option.bind_some, sub1, g212 _ _ (by omega), Option.bind_some, z41, rk, Option.bind_some]
    by_cases c : r ≤ rkO h
    · rw [if_neg (show ¬ nI (rkO h) < nI r by rw [n_lt (by omega) (by omega)]; omega), bd, if_pos c]
      rw [p51, Option.bind_some, z2, sub1, w51, Option.bind_some, r49, Option.bind_some, p51, Option.bind_some, wI_at, upd_at, g212 _ _ (by omega), Option.bind_some, wI_ne (by omega), z41]
      have n25 : h ≠ 25 := fun e => by rw [e] at c; have : rkO 25 = 0 := rfl; omega
      have nn : nnW (h :: t) = 1 + nnW t := by
        show (if h = 25 then 0 else 1) + nnW t = _
        rw [if_neg n25]
      rw [nn] at hl
      have st1 : frBd a s (wI s 187 51 (nI t.length)) := frBd_w (by omega)
      by_cases e14 : h = 14
      · have bn : bnW (h :: t) = bnW t := by
          show (if h = 14 ∨ h = 25 then 0 else 1) + bnW t = _
          rw [if_pos (Or.inl e14), Nat.zero_add]
        rw [bn] at hb
        obtain ⟨b1, l', hl'⟩ : ∃ b l', hdK a o = b :: l' := by
          cases hq : hdK a o with
          | nil => rw [hq] at hb; exact absurd hb (by show ¬ 0 = _; omega)
          | cons b l' => exact ⟨b, l', rfl⟩
        have hb' : l'.length = bnW t := by rw [hl'] at hb; exact Nat.succ.inj hb
        have w2 : wcd h = 2 := by rw [e14]; rfl
        rw [w2, if_neg (show ¬ ¬ nI 2 = (2 : Int32) from fun g => g rfl)]
        unfold fX11_bind_58
        have d52 : (wI s 187 51 (nI t.length)).1 187 52 = nI (l'.length + 1) := by rw [wI_at, upd_ne (by omega), z3, hl']; rfl
        have lle : l'.length + 1 ≤ o.length := by rw [hl'] at hd52; exact hd52
        have d213 : (wI s 187 51 (nI t.length)).1 216 l'.length = nI b1 := by rw [wI_ne (by omega)]; rw [hl'] at z5; exact z5.1
        rw [m_drop hn d52 (by omega) d213, Option.bind_some]
        have gr := m_grown (n := n) (s := wI (wI s 187 51 (nI t.length)) 187 52 (nI l'.length)) (L := o.length) (H := l'.length) (x1 := nI 2) (x2 := nI b1) (x3 := (-1 : Int32)) hn (by rw [wI_at, upd_ne (by omega), wI_at, upd_ne (by omega)]; exact z1) (by rw [wI_at, upd_at]) (by omega) (by omega)
        show ∃ s', (fX11_grown n (mk (wI (wI s 187 51 (nI t.length)) 187 52 (nI l'.length))) 187 (nI 2) (nI b1) (-1 : Int32)).bind _ = _ ∧ _
        rw [gr, Option.bind_some]
        have hd' : hdK a ((h, 0) :: o) = o.length :: l' := by
          show (if o.length < a then [] else if isLf h = true then o.length :: hdK a o else if h = 14 then o.length :: (hdK a o).tail else o.length :: (hdK a o).tail.tail) = _
          rw [if_neg (by omega), if_neg (show ¬ isLf h = true by rw [e14]; decide), if_pos e14, hl']
          rfl
        have nz := mZ_g (s := wI (wI s 187 51 (nI t.length)) 187 52 (nI l'.length)) (W := t) (o := o) (a := a) (x := (h, 0)) (l' := l') (x1 := nI 2) (x2 := nI b1) (x3 := (-1 : Int32)) (ws_f t (fun j _ => by rw [wI_ne (by omega), wI_ne (by omega)]) z4.2) (by rw [wI_at, upd_ne (by omega), wI_at, upd_at]) (hs_f l' (fun j _ => by rw [wI_ne (by omega), wI_ne (by omega)]) (by rw [hl'] at z5; exact z5.2)) (kn_f o (fun j _ => by rw [wI_ne (by omega), wI_ne (by omega), wI_ne (by omega), wI_ne (by omega), wI_ne (by omega), wI_ne (by omega)]; exact ⟨rfl, rfl, rfl⟩) z6) ha hd' (fun I i1 i2 i3 => by
          refine ⟨fun g => ?_, fun g => ?_, fun _ => ⟨i1, b1, l', hl', i2⟩, fun g => ?_, Or.inr (Or.inl e14)⟩
          · exact absurd g (by show ¬ h = 23; omega)
          · exact absurd g (by show ¬ (15 ≤ h ∧ h ≤ 21); omega)
          · exact absurd (by show lvO h = 9; rw [e14]; rfl) g)
        obtain ⟨s', r1, r2, r3, r4, r5, r6⟩ := ih ((h, 0) :: o) _ F' (by omega) (by omega) (fun x hx => hok x (List.mem_cons_of_mem _ hx)) (by rw [hd']; show l'.length + 1 = _; omega) (by show a ≤ o.length + 1; omega) (by show o.length + 1 + nnW t ≤ 64; omega) nz
        refine ⟨s', r1, frBd_t st1 (frBd_t (frBd_w (by omega)) (frBd_t (gr_V ha) r2)), r3, r4, r5, ?_⟩
        rw [r6, nn]
        show o.length + 1 + nnW t = _
        omega
      · have bn : bnW (h :: t) = 1 + bnW t := by
          show (if h = 14 ∨ h = 25 then 0 else 1) + bnW t = _
          rw [if_neg (by omega)]
        have lv : lvO h ≠ 9 := by
          rcases o1 with x | x | x
          · exact absurd x n25
          · exact absurd x e14
          · exact x
        rw [bn] at hb
        obtain ⟨b1, a1, l', hl'⟩ : ∃ b a1 l', hdK a o = b :: a1 :: l' := by
          cases hq : hdK a o with
          | nil => rw [hq] at hb; exact absurd hb (by show ¬ 0 = _; omega)
          | cons b l1 =>
            cases l1 with
            | nil => rw [hq] at hb; exact absurd hb (by show ¬ 1 = _; omega)
            | cons a1 l' => exact ⟨b, a1, l', rfl⟩
        have hb' : l'.length = bnW t := by
          rw [hl'] at hb
          have : l'.length + 1 + 1 = 1 + bnW t + 1 := hb
          omega
        have wne : ¬ nI (wcd h) = (2 : Int32) := by
          have tab : ∀ k : Fin 39, lvO k.1 ≠ 9 → ¬ nI (wcd k.1) = (2 : Int32) := by decide +kernel
          exact tab ⟨h, by omega⟩ lv
        have wm : wcd h = mcd h := by unfold wcd; rw [if_neg n25, if_neg e14]
        have lfh : ¬ isLf h = true := by
          have tab : ∀ k : Fin 39, lvO k.1 ≠ 9 → ¬ isLf k.1 = true := by decide +kernel
          exact tab ⟨h, by omega⟩ lv
        rw [if_pos wne]
        have lle : l'.length + 1 + 1 ≤ o.length := by rw [hl'] at hd52; exact hd52
        have d52 : (wI s 187 51 (nI t.length)).1 187 52 = nI (l'.length + 1 + 1) := by rw [wI_at, upd_ne (by omega), z3, hl']; rfl
        have d213 : (wI s 187 51 (nI t.length)).1 216 (l'.length + 1) = nI b1 := by rw [wI_ne (by omega)]; rw [hl'] at z5; exact z5.1
        rw [m_drop hn d52 (by omega) d213, Option.bind_some]
        unfold fX11_bind_58
        have d52' : (wI (wI s 187 51 (nI t.length)) 187 52 (nI (l'.length + 1))).1 187 52 = nI (l'.length + 1) := by rw [wI_at, upd_at]
        have d213' : (wI (wI s 187 51 (nI t.length)) 187 52 (nI (l'.length + 1))).1 216 l'.length = nI a1 := by rw [wI_ne (by omega), wI_ne (by omega)]; rw [hl'] at z5; exact z5.2.1
        show ∃ s', (fX11_dropHeld n (mk (wI (wI s 187 51 (nI t.length)) 187 52 (nI (l'.length + 1)))) 187).bind _ = _ ∧ _
        rw [m_drop hn d52' (by omega) d213', Option.bind_some]
        have gr := m_grown (n := n) (s := wI (wI (wI s 187 51 (nI t.length)) 187 52 (nI (l'.length + 1))) 187 52 (nI l'.length)) (L := o.length) (H := l'.length) (x1 := nI (wcd h)) (x2 := nI a1) (x3 := nI b1) hn (by rw [wI_at, upd_ne (by omega), wI_at, upd_ne (by omega), wI_at, upd_ne (by omega)]; exact z1) (by rw [wI_at, upd_at]) (by omega) (by omega)
        show ∃ s', (fX11_grown n (mk (wI (wI (wI s 187 51 (nI t.length)) 187 52 (nI (l'.length + 1))) 187 52 (nI l'.length))) 187 (nI (wcd h)) (nI a1) (nI b1)).bind _ = _ ∧ _
        rw [gr, Option.bind_some]
        have hd' : hdK a ((h, 0) :: o) = o.length :: l' := by
          show (if o.length < a then [] else if isLf h = true then o.length :: hdK a o else if h = 14 then o.length :: (hdK a o).tail else o.length :: (hdK a o).tail.tail) = _
          rw [if_neg (by omega), if_neg lfh, if_neg e14, hl']
          rfl
        have nz := mZ_g (s := wI (wI (wI s 187 51 (nI t.length)) 187 52 (nI (l'.length + 1))) 187 52 (nI l'.length)) (W := t) (o := o) (a := a) (x := (h, 0)) (l' := l') (x1 := nI (wcd h)) (x2 := nI a1) (x3 := nI b1) (ws_f t (fun j _ => by rw [wI_ne (by omega), wI_ne (by omega), wI_ne (by omega)]) z4.2) (by rw [wI_at, upd_ne (by omega), wI_at, upd_ne (by omega), wI_at, upd_at]) (hs_f l' (fun j _ => by rw [wI_ne (by omega), wI_ne (by omega), wI_ne (by omega)]) (by rw [hl'] at z5; exact z5.2.2)) (kn_f o (fun j _ => by rw [wI_ne (by omega), wI_ne (by omega), wI_ne (by omega), wI_ne (by omega), wI_ne (by omega), wI_ne (by omega), wI_ne (by omega), wI_ne (by omega), wI_ne (by omega)]; exact ⟨rfl, rfl, rfl⟩) z6) ha hd' (fun I i1 i2 i3 => by
          have lf' : ¬ (h = 23 ∨ (15 ≤ h ∧ h ≤ 21)) := fun g => lfh (decide_eq_true g)
          refine ⟨fun g => absurd (Or.inl g) lf', fun g => absurd (Or.inr g) lf', fun g => absurd g e14, fun _ => ⟨by rw [i1, wm], b1, a1, l', hl', i2, i3⟩, Or.inr (Or.inr lv)⟩)
        obtain ⟨s', r1, r2, r3, r4, r5, r6⟩ := ih ((h, 0) :: o) _ F' (by omega) (by omega) (fun x hx => hok x (List.mem_cons_of_mem _ hx)) (by rw [hd']; show l'.length + 1 = _; omega) (by show a ≤ o.length + 1; omega) (by show o.length + 1 + nnW t ≤ 64; omega) nz
        refine ⟨s', r1, frBd_t st1 (frBd_t (frBd_w (by omega)) (frBd_t (frBd_w (by omega)) (frBd_t (gr_V ha) r2))), r3, r4, r5, ?_⟩
        rw [r6, nn]
        show o.length + 1 + nnW t = _
        omega
    · rw [if_pos (show nI (rkO h) < nI r by rw [n_lt (by omega) (by omega)]; omega), bd, if_neg c]
      exact ⟨s, rfl, frBd_r, ⟨⟨z1, z2, z3⟩, z4, z5, z6⟩, hb, ha, rfl⟩
end Mx2
