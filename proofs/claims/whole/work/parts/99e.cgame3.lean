/-! ===== the squire's game, by the class: the call ===== -/
section Ce5
variable {n N k a m t i c g : Nat} {s s' s0 s1 s2 : zS} {T : zT} {A : zA}
/-- the Game: not made yet, or made -/
def gmS (s : zS) (n g : Nat) : Prop := (s.2.2 1 14 = 0 ∧ n = 236) ∨ (n = 239 ∧ s.2.2 1 14 = 236 ∧ gI0 s g)
theorem gmS_n (h : gmS s n g) : 236 ≤ n := by
  rcases h with h | h
  · omega
  · omega
theorem gmS_f (h : gmS s n g) (e1 : ∀ a, 236 ≤ a → s'.1 a = s.1 a) (e2 : s'.2.2 1 14 = s.2.2 1 14) : gmS s' n g := by
  rcases h with ⟨h1, h2⟩ | ⟨h1, h2, g1, g2, g3, g4, g5⟩
  · exact Or.inl ⟨by rw [e2]; exact h1, h2⟩
  · refine Or.inr ⟨h1, by rw [e2]; exact h2, by rw [e2]; exact g1, by rw [e1 236 (by omega)]; exact g2, g3, by rw [e1 237 (by omega)]; exact g4, by rw [e1 238 (by omega)]; exact g5⟩
theorem lay_out (h : 239 ≤ a) : lay a = (2, 0, 0) := by
  unfold lay
  rw [List.getD_eq_getElem?_getD, List.getElem?_eq_none (by exact h)]
  rfl
theorem mk_hL (h : s.2.2 1 14 = 0) : mk s = hL ((List.range 236).map (mk s)) := by
  funext a
  unfold hL
  rw [List.getD_eq_getElem?_getD, List.getElem?_map]
  by_cases l : a < 236
  · rw [List.getElem?_range l]
    rfl
  · rw [List.getElem?_eq_none (by rw [List.length_range]; omega)]
    show mk s a = .inr (0, [])
    unfold mk
    rw [if_pos ⟨by omega, h⟩]
/-- the rows when the Game has just been made -/
def gRow (s : zS) : zS := (fun a => if a = 236 ∨ a = 237 ∨ a = 238 then fun _ => 0 else s.1 a, s.2.1, va_up s.2.2 1 (va_up (s.2.2 1) 14 236))
theorem gRow_mk (h : s.2.2 1 14 = 0) : sF 239 (hL ((List.range 236).map (mk s) ++ .inr (1, FX1_init 236) :: RX1_init 236)) 1 10 14 (.object "PathsKept$Game") (.ref 236) = some (mk (gRow s)) := by
  have len : ((List.range 236).map (mk s)).length = 236 := by rw [List.length_map, List.length_range]
  have lo : ∀ a, a < 236 → hL ((List.range 236).map (mk s) ++ .inr (1, FX1_init 236) :: RX1_init 236) a = mk s a := fun a ha => by
    unfold hL
    rw [List.getD_eq_getElem?_getD, List.getElem?_append_left (by rw [len]; exact ha), List.getElem?_map, List.getElem?_range ha]
    rfl
  have m1 : mk s 1 = .inr (10, fls s 1 (tlOf 0)) := mk_c (Or.inl (by omega))
  unfold sF
  have ob : ai_ob (hL ((List.range 236).map (mk s) ++ .inr (1, FX1_init 236) :: RX1_init 236), 239, 0, 0) 1 10 = some (fls s 1 (tlOf 0)) := by
    unfold ai_ob
    rw [if_pos ⟨by omega, by show 1 < 239; omega⟩]
    dsimp only
    rw [lo 1 (by omega), m1]
    exact if_pos rfl
  rw [ob]
  show (if 14 < (fls s 1 (tlOf 0)).length ∧ _ then some (va_up (hL _) 1 (.inr (10, (fls s 1 (tlOf 0)).set 14 (.ref 236)))) else none) = _
  rw [if_pos ⟨Nat.le_of_ble_eq_true rfl, rfl⟩]
  congr 1
  funext a
  unfold va_up
  by_cases e1 : a = 1
  · rw [if_pos e1, e1]
    rfl
  · rw [if_neg e1]
    by_cases l : a < 236
    · rw [lo a l, mk_c (Or.inl l), mk_c (Or.inl l)]
      have q1 : (gRow s).1 a = s.1 a := if_neg (by omega)
      have q2 : (gRow s).2.1 a = s.2.1 a := rfl
      have q3 : (gRow s).2.2 a = s.2.2 a := if_neg e1
      unfold mkc fls
      rw [q1, q2, q3, fv_congr q1 q2 q3]
    · by_cases l2 : a < 239
      · have hi : ∀ k, hL ((List.range 236).map (mk s) ++ .inr (1, FX1_init 236) :: RX1_init 236) (236 + k) = (.inr (1, FX1_init 236) :: RX1_init 236).getD k (.inr (0, [])) := fun k => by
          unfold hL
          rw [List.getD_eq_getElem?_getD, List.getElem?_append_right (by rw [len]; omega), len, show 236 + k - 236 = k by omega, List.getD_eq_getElem?_getD]
        rcases (by omega : a = 236 + 0 ∨ a = 236 + 1 ∨ a = 236 + 2) with e | e | e <;> rw [e, hi] <;> rfl
      · have z : hL ((List.range 236).map (mk s) ++ .inr (1, FX1_init 236) :: RX1_init 236) a = .inr (0, []) := by
          unfold hL
          rw [List.getD_eq_getElem?_getD, List.getElem?_eq_none (by rw [List.length_append, len]; show 236 + 3 ≤ a; omega)]
          rfl
        rw [z]
        unfold mk
        rw [lay_out (by omega)]
        split <;> rfl
theorem gm_fresh (h : s.2.2 1 14 = 0) : gI0 (gRow s) 0 ∧ (gRow s).2.2 1 14 = 236 := by
  have e : (gRow s).2.2 1 14 = 236 := rfl
  exact ⟨⟨by rw [e]; decide, rfl, by omega, rfl, fun st _ => ⟨0, rfl, by omega⟩⟩, e⟩
/-- from the beginning of the game to its answer -/
theorem c_gm2 {b e : Bool} {a c : Nat} (hK : cK s t A) (hA : wfA A) (hg : gI0 s g) (h14 : s.2.2 1 14 = 236) (ha : a < aT A 0 0) (hc : c < aT A 0 0) (ne : a ≠ c) (hg9 : g < 800) {x0 s0' : Nat} : ∃ s' : zS, lz 301 tX10_game (ai_Hd 124) (.inl (some (.int (gamV (aT A) (aS A) a c b e))), mk s', 239, x0, s0') 62 (lv_args 0 [.ref 1, .int (nI a), .int (nI c), .int (nI b.toNat), .int (nI e.toNat)]) [] (mk s, 239, x0, s0') ∧ s'.2 = s.2 ∧ (∀ b, b < 236 ∨ 238 < b → s'.1 b = s.1 b) ∧ gI0 s' (g + 1) := by
  have hW := hA.1
  have h0 := hW.1
  have ht := cK_t hK
  have K5 : (aS A).2.2.2.1 < 512 := Nat.lt_of_lt_of_le hA.2.1.2.1 (Nat.le_trans (Nat.pow_le_pow_right (by omega) h0.2.1) (by decide))
  obtain ⟨s1, b1, b2, b3, b4, b5, b6⟩ := c_gbegin (n := 239) (a := a) (c := c) (Nat.le_refl _) ht hW hK.2.2.1 (by omega) (by omega) ne K5 hg
  have r14 : ∀ s : zS, s.2.2 1 14 = 236 → pR 239 (mk s) 1 10 14 = some 236 := fun s h => by
    have := (B_K (n := 239) (by omega)).2.2.2.2.2.2.2.2.2.2.2.2.2.2.2.2.2.2.2.2.2.1 s 236 h (by omega)
    exact this
  have r3 : pR 239 (mk s) 1 10 3 = some t := by
    have := (B_K (n := 239) (by omega)).2.2.2.2.2.1 s
    rw [this, hK.2.1]
  have r5 : pR 239 (mk s) 1 10 5 = some 52 := (B_K (n := 239) (by omega)).2.2.2.2.2.2.2.2.2.1 s
  have p4 : pI 239 (mk s) 52 5 4 = some (nI (aS A).2.2.2.1) := by
    have e : pI 239 (mk s) 52 5 4 = some (s.1 52 4) := by simp only [B_s (n := 239) (o := 52) (by omega) (Or.inl rfl)]
    rw [e, hK.2.2.2.1.1.2.2.2.2]
  have h141 : s1.2.2 1 14 = 236 := by rw [b2]; exact h14
  have fin : ∀ s2 : zS, frW s1 s2 → memo s2 (aS A).2.2.2.1 (ledB (aT A) a c) b (g + 1) → s2.2 = s.2 ∧ (∀ b, b < 236 ∨ 238 < b → s2.1 b = s.1 b) ∧ gI0 s2 (g + 1) := fun s2 f M2 => by
    have G2 := gH_W b4 f
    refine ⟨by rw [f.1, b2], fun b hb => by rw [f.2 b (by omega), b3 b (by omega) (by omega)], G2.1, G2.2.1, ?_, by rw [f.2 237 (by omega)]; exact b6, fun st hst => ?_⟩
    · omega
    · obtain ⟨v, v1, v2, -⟩ := M2 st hst
      exact ⟨v, v1, v2⟩
  have hd : ∀ o : ai_Ou, lz 301 tX10_game (ai_Hd 124) o 82 (lv_args 0 [.ref 1, .int (nI a), .int (nI c), .int (nI b.toNat), .int (nI e.toNat)]) [] (mk s1, 239, x0, s0') → lz 301 tX10_game (ai_Hd 124) o 62 (lv_args 0 [.ref 1, .int (nI a), .int (nI c), .int (nI b.toNat), .int (nI e.toNat)]) [] (mk s, 239, x0, s0') := fun o gg => by
    refine lz_al (pc := 62) rfl rfl (lz_gfR rfl (r14 s h14) (lz_al rfl rfl (lz_gfR rfl r3 (lz_al rfl rfl (lz_gfR rfl r5 (lz_gfI rfl p4 (lz_il rfl rfl (lz_il rfl rfl ?_))))))))
    exact lz_iv (pc := 79) (v := none) rfl rfl (gX1_begin b1) (Nat.le_of_ble_eq_true rfl) (bi_up (sX1_begin b1) (Nat.le_of_ble_eq_true rfl)) gg
  cases e with
  | false =>
    obtain ⟨s2, d1, d2, d3⟩ := c_winner (n := 239) (Nat.le_refl _) hW (by omega) b4 (b5 b)
    refine ⟨s2, hd _ ?_, fin s2 d2 d3⟩
    refine lz_il (pc := 82) rfl rfl (lz_b1f rfl rfl (lz_al rfl rfl (lz_gfR rfl (r14 s1 h141) (lz_il rfl rfl ?_))))
    refine lz_iv (pc := 92) (v := some _) rfl rfl (gX1_winner d1) (Nat.le_of_ble_eq_true rfl) (sX1_winner d1) (lz_goto rfl (lz_ret rfl rfl rfl))
  | true =>
    obtain ⟨s2, d1, d2, d3⟩ := c_first (n := 239) (Nat.le_refl _) hW (by omega) b4 (b5 b)
    refine ⟨s2, hd _ ?_, fin s2 d2 d3⟩
    refine lz_il (pc := 82) rfl rfl (lz_b1t rfl rfl (lz_al rfl rfl (lz_gfR rfl (r14 s1 h141) (lz_il rfl rfl ?_))))
    refine lz_iv (pc := 103) (v := some _) rfl rfl (gX1_firstMove d1) (Nat.le_of_ble_eq_true rfl) (sX1_firstMove d1) (lz_ret rfl rfl rfl)
theorem gRow_K (hK : cK s t A) : cK (gRow s) t A := by
  have h : cK ((gRow s).1, s.2.1, s.2.2) t A := cK_fr hK (fun a j ha _ => by
    show (if a = 236 ∨ a = 237 ∨ a = 238 then fun _ => 0 else s.1 a) j = _
    rw [if_neg (by omega)]) (fun a _ => rfl)
  exact h
/-- the class's game -/
theorem c_gameC {x y z w : Int32} (hK : cK s t A) (hA : wfA A) (hm : gmS s n g) (hg9 : g < 800) : ∃ (s' : zS) (n' c1 s1 g' : Nat) (r : Int32), bi_sp 302 124 [.ref 1, .int x, .int y, .int z, .int w] (mk s) n (.inl (some (.int r)), mk s', n', c1, s1) ∧ c1 ≤ 3 ∧ s1 ≤ 20199 ∧ gmS s' n' g' ∧ g' ≤ g + 1 ∧ cK s' t A ∧ (∀ a, 184 ≤ a ∧ a ≤ 235 ∨ a = 5 → s'.1 a = s.1 a ∧ s'.2.1 a = s.2.1 a ∧ s'.2.2 a = s.2.2 a) ∧ ((∃ a c b e, a < aT A 0 0 ∧ c < aT A 0 0 ∧ a ≠ c ∧ x = nI a ∧ y = nI c ∧ z = nI (Bool.toNat b) ∧ w = nI (Bool.toNat e) ∧ r = gamV (aT A) (aS A) a c b e) ∨ (¬ gamOk (aT A) x y z w ∧ r = m1)) := by
  have hn := gmS_n hm
  have hW := hA.1
  have h0 := hW.1
  have pl1 := c_isPlace (x := x) hn hK hA
  have pl2 := c_isPlace (x := y) hn hK hA
  have wi1 : fX10_isWithin n (mk s) 0 z 1 = some (nI (wiV 0 z 1).toNat, mk s) := c_within
  have wi2 : fX10_isWithin n (mk s) 0 w 1 = some (nI (wiV 0 w 1).toNat, mk s) := c_within
  have bad : ¬ gamOk (aT A) x y z w → (lz 301 tX10_game (ai_Hd 124) (.inl (some (.int m1)), mk s, n, 0, 0) 0 (lv_args 0 [.ref 1, .int x, .int y, .int z, .int w]) [] (mk s, n, 0, 0)) → ∃ (s' : zS) (n' c1 s1 g' : Nat) (r : Int32), bi_sp 302 124 [.ref 1, .int x, .int y, .int z, .int w] (mk s) n (.inl (some (.int r)), mk s', n', c1, s1) ∧ c1 ≤ 3 ∧ s1 ≤ 20199 ∧ gmS s' n' g' ∧ g' ≤ g + 1 ∧ cK s' t A ∧ (∀ a, 184 ≤ a ∧ a ≤ 235 ∨ a = 5 → s'.1 a = s.1 a ∧ s'.2.1 a = s.2.1 a ∧ s'.2.2 a = s.2.2 a) ∧ ((∃ a c b e, a < aT A 0 0 ∧ c < aT A 0 0 ∧ a ≠ c ∧ x = nI a ∧ y = nI c ∧ z = nI (Bool.toNat b) ∧ w = nI (Bool.toNat e) ∧ r = gamV (aT A) (aS A) a c b e) ∨ (¬ gamOk (aT A) x y z w ∧ r = m1)) := fun h l =>
    ⟨s, n, 0, 0, g, m1, lz_en (T := tX10_game) rfl (Nat.le_of_ble_eq_true rfl) l, Nat.zero_le _, Nat.zero_le _, hm, by omega, hK, fun a _ => ⟨rfl, rfl, rfl⟩, Or.inr ⟨h, rfl⟩⟩
  have st1 : ∀ o : ai_Ou, (inR x (aT A 0 0) = true → lz 301 tX10_game (ai_Hd 124) o 8 (lv_args 0 [.ref 1, .int x, .int y, .int z, .int w]) [] (mk s, n, 0, 0)) → (inR x (aT A 0 0) = false → lz 301 tX10_game (ai_Hd 124) o 21 (lv_args 0 [.ref 1, .int x, .int y, .int z, .int w]) [] (mk s, n, 0, 0)) → lz 301 tX10_game (ai_Hd 124) o 0 (lv_args 0 [.ref 1, .int x, .int y, .int z, .int w]) [] (mk s, n, 0, 0) := fun o h1 h2 => by
    refine lz_al (pc := 0) rfl rfl (lz_il rfl rfl (lz_iv (v := some _) rfl rfl (gX10_isPlace pl1) (Nat.le_of_ble_eq_true rfl) (bi_up (sX10_isPlace pl1) (Nat.le_of_ble_eq_true rfl)) ?_))
    cases e : inR x (aT A 0 0) with
    | true => exact lz_b1f rfl rfl (h1 e)
    | false => exact lz_b1t rfl rfl (h2 e)
  have st2 : ∀ o : ai_Ou, (inR y (aT A 0 0) = true → lz 301 tX10_game (ai_Hd 124) o 16 (lv_args 0 [.ref 1, .int x, .int y, .int z, .int w]) [] (mk s, n, 0, 0)) → (inR y (aT A 0 0) = false → lz 301 tX10_game (ai_Hd 124) o 21 (lv_args 0 [.ref 1, .int x, .int y, .int z, .int w]) [] (mk s, n, 0, 0)) → lz 301 tX10_game (ai_Hd 124) o 8 (lv_args 0 [.ref 1, .int x, .int y, .int z, .int w]) [] (mk s, n, 0, 0) := fun o h1 h2 => by
    refine lz_al (pc := 8) rfl rfl (lz_il rfl rfl (lz_iv (v := some _) rfl rfl (gX10_isPlace pl2) (Nat.le_of_ble_eq_true rfl) (bi_up (sX10_isPlace pl2) (Nat.le_of_ble_eq_true rfl)) ?_))
    cases e : inR y (aT A 0 0) with
    | true => exact lz_b1f rfl rfl (h1 e)
    | false => exact lz_b1t rfl rfl (h2 e)
  have e21 : lz 301 tX10_game (ai_Hd 124) (.inl (some (.int m1)), mk s, n, 0, 0) 21 (lv_args 0 [.ref 1, .int x, .int y, .int z, .int w]) [] (mk s, n, 0, 0) := lz_pi rfl (lz_ret rfl rfl rfl)
  have e42 : lz 301 tX10_game (ai_Hd 124) (.inl (some (.int m1)), mk s, n, 0, 0) 42 (lv_args 0 [.ref 1, .int x, .int y, .int z, .int w]) [] (mk s, n, 0, 0) := lz_pi rfl (lz_ret rfl rfl rfl)
  cases ix : inR x (aT A 0 0) with
  | false => exact bad (fun h => by rw [h.1] at ix; cases ix) (st1 _ (fun h => by rw [ix] at h; cases h) (fun _ => e21))
  | true =>
  cases iy : inR y (aT A 0 0) with
  | false => exact bad (fun h => by rw [h.2.1] at iy; cases iy) (st1 _ (fun _ => st2 _ (fun h => by rw [iy] at h; cases h) (fun _ => e21)) (fun h => by rw [ix] at h; cases h))
  | true =>
  by_cases exy : x = y
  · exact bad (fun h => h.2.2.1 exy) (st1 _ (fun _ => st2 _ (fun _ => lz_il (pc := 16) rfl rfl (lz_il rfl rfl (lz_b2f rfl (decide_eq_false (fun h => h exy)) e21))) (fun h => by rw [iy] at h; cases h)) (fun h => by rw [ix] at h; cases h))
  have to23 : ∀ o : ai_Ou, lz 301 tX10_game (ai_Hd 124) o 23 (lv_args 0 [.ref 1, .int x, .int y, .int z, .int w]) [] (mk s, n, 0, 0) → lz 301 tX10_game (ai_Hd 124) o 0 (lv_args 0 [.ref 1, .int x, .int y, .int z, .int w]) [] (mk s, n, 0, 0) := fun o g => st1 _ (fun _ => st2 _ (fun _ => lz_il (pc := 16) rfl rfl (lz_il rfl rfl (lz_b2t rfl (decide_eq_true exy) g))) (fun h => by rw [iy] at h; cases h)) (fun h => by rw [ix] at h; cases h)
  have st3 : ∀ o : ai_Ou, (wiV 0 z 1 = true → lz 301 tX10_game (ai_Hd 124) o 32 (lv_args 0 [.ref 1, .int x, .int y, .int z, .int w]) [] (mk s, n, 0, 0)) → (wiV 0 z 1 = false → lz 301 tX10_game (ai_Hd 124) o 42 (lv_args 0 [.ref 1, .int x, .int y, .int z, .int w]) [] (mk s, n, 0, 0)) → lz 301 tX10_game (ai_Hd 124) o 23 (lv_args 0 [.ref 1, .int x, .int y, .int z, .int w]) [] (mk s, n, 0, 0) := fun o h1 h2 => by
    refine lz_pi (pc := 23) rfl (lz_il rfl rfl (lz_pi rfl (lz_iS (v := some _) rfl (Nat.le_of_ble_eq_true rfl) rfl (Nat.le_of_ble_eq_true rfl) (bi_up (sX10_isWithin wi1) (Nat.le_of_ble_eq_true rfl)) ?_)))
    cases e : wiV 0 z 1 with
    | true => exact lz_b1f rfl rfl (h1 e)
    | false => exact lz_b1t rfl rfl (h2 e)
  have st4 : ∀ o : ai_Ou, (wiV 0 w 1 = true → lz 301 tX10_game (ai_Hd 124) o 44 (lv_args 0 [.ref 1, .int x, .int y, .int z, .int w]) [] (mk s, n, 0, 0)) → (wiV 0 w 1 = false → lz 301 tX10_game (ai_Hd 124) o 42 (lv_args 0 [.ref 1, .int x, .int y, .int z, .int w]) [] (mk s, n, 0, 0)) → lz 301 tX10_game (ai_Hd 124) o 32 (lv_args 0 [.ref 1, .int x, .int y, .int z, .int w]) [] (mk s, n, 0, 0) := fun o h1 h2 => by
    refine lz_pi (pc := 32) rfl (lz_il rfl rfl (lz_pi rfl (lz_iS (v := some _) rfl (Nat.le_of_ble_eq_true rfl) rfl (Nat.le_of_ble_eq_true rfl) (bi_up (sX10_isWithin wi2) (Nat.le_of_ble_eq_true rfl)) ?_)))
    cases e : wiV 0 w 1 with
    | true => exact lz_b1t rfl rfl (h1 e)
    | false => exact lz_b1f rfl rfl (h2 e)
  cases iz : wiV 0 z 1 with
  | false => exact bad (fun h => by rw [h.2.2.2.1] at iz; cases iz) (to23 _ (st3 _ (fun h => by rw [iz] at h; cases h) (fun _ => e42)))
  | true =>
  cases iw : wiV 0 w 1 with
  | false => exact bad (fun h => by rw [h.2.2.2.2] at iw; cases iw) (to23 _ (st3 _ (fun _ => st4 _ (fun h => by rw [iw] at h; cases h) (fun _ => e42)) (fun h => by rw [iz] at h; cases h)))
  | true =>
  have to44 : ∀ o : ai_Ou, lz 301 tX10_game (ai_Hd 124) o 44 (lv_args 0 [.ref 1, .int x, .int y, .int z, .int w]) [] (mk s, n, 0, 0) → bi_sp 302 124 [.ref 1, .int x, .int y, .int z, .int w] (mk s) n o := fun o g => lz_en (T := tX10_game) rfl (Nat.le_of_ble_eq_true rfl) (to23 _ (st3 _ (fun _ => st4 _ (fun _ => g) (fun h => by rw [iw] at h; cases h)) (fun h => by rw [iz] at h; cases h)))
  obtain ⟨a, ha, rfl⟩ := inR_t (by omega) ix
  obtain ⟨c, hc, rfl⟩ := inR_t (by omega) iy
  obtain ⟨zb, -, hz, rfl⟩ := wiV_t (by omega) (by omega) iz
  obtain ⟨wb, -, hw, rfl⟩ := wiV_t (by omega) (by omega) iw
  have bl : ∀ k, k ≤ 1 → ∃ b : Bool, k = b.toNat := fun k hk => by
    rcases (by omega : k = 0 ∨ k = 1) with rfl | rfl
    · exact ⟨false, rfl⟩
    · exact ⟨true, rfl⟩
  obtain ⟨b, rfl⟩ := bl zb hz
  obtain ⟨e, rfl⟩ := bl wb hw
  have ne : a ≠ c := fun h => exy (by rw [h])
  rcases hm with ⟨h14, rfl⟩ | ⟨rfl, h14, hg⟩
  · -- made now
    have hK1 := gRow_K hK
    obtain ⟨hg1, h141⟩ := gm_fresh h14
    obtain ⟨s', l, f1, f2, f3⟩ := c_gm2 (b := b) (e := e) (x0 := 0 + 1 + 2) (s0' := 0 + 4 + 20195) hK1 hA hg1 h141 ha hc ne (by omega)
    refine ⟨s', 239, 3, 20199, 1, _, to44 _ ?_, Nat.le_refl _, Nat.le_refl _, Or.inr ⟨rfl, by rw [f1]; exact h141, f3⟩, by omega, ?_, fun a' ha' => ?_, Or.inl ⟨a, c, b, e, ha, hc, ne, rfl, rfl, rfl, rfl, rfl⟩⟩
    · have m1' : mk s 1 = .inr (10, fls s 1 (tlOf 0)) := mk_c (Or.inl (by omega))
      have ob : ai_ob (mk s, 236, 0, 0) 1 10 = some (fls s 1 (tlOf 0)) := by
        unfold ai_ob
        rw [if_pos ⟨by omega, by show 1 < 236; omega⟩]
        dsimp only
        rw [m1']
        exact if_pos rfl
      have f14 : (fls s 1 (tlOf 0))[14]? = some .null := by
        show some (rf (s.2.2 1 14)) = _
        rw [h14]
        rfl
      refine lz_al (pc := 44) rfl rfl (lz_gfV rfl ob f14 (lz_st (f := ai_nn 62) rfl rfl (lz_al rfl rfl ?_)))
      have len : ((List.range 236).map (mk s)).length = 236 := by rw [List.length_map, List.length_range]
      have sp := nX1_init ((List.range 236).map (mk s)) (by rw [len]; omega)
      rw [len] at sp
      have nw : va_up (mk s) 236 (.inr (1, [.null, .null, .int 0, .int 0])) = hL ((List.range 236).map (mk s) ++ [.inr (1, [.null, .null, .int 0, .int 0])]) := by
        have e0 := hL_new (L := (List.range 236).map (mk s)) (x := .inr (1, [.null, .null, .int 0, .int 0]))
        rw [len, ← mk_hL h14] at e0
        exact e0
      refine lz_new (pc := 52) rfl ?_
      rw [nw]
      refine lz_dup rfl rfl (lz_ii (v := none) rfl rfl (Nat.le_of_ble_eq_true rfl) (bi_up sp (Nat.le_of_ble_eq_true rfl)) (lz_pf rfl (gRow_mk h14) ?_))
      exact l
    · refine cK_fr hK1 (fun a' j ha' _ => by rw [f2 a' (by omega)]) (fun a' _ => by rw [f1])
    · rw [f2 a' (by omega), f1]
      refine ⟨?_, rfl, ?_⟩
      · show (if a' = 236 ∨ a' = 237 ∨ a' = 238 then fun _ => 0 else s.1 a') = _
        rw [if_neg (by omega)]
      · show (if a' = 1 then _ else s.2.2 a') = _
        rw [if_neg (by omega)]
  · obtain ⟨s', l, f1, f2, f3⟩ := c_gm2 (b := b) (e := e) (x0 := 0) (s0' := 0) hK hA hg h14 ha hc ne hg9
    refine ⟨s', 239, 0, 0, g + 1, _, to44 _ ?_, Nat.zero_le _, Nat.zero_le _, Or.inr ⟨rfl, by rw [f1]; exact h14, f3⟩, Nat.le_refl _, ?_, fun a' ha' => ?_, Or.inl ⟨a, c, b, e, ha, hc, ne, rfl, rfl, rfl, rfl, rfl⟩⟩
    · have r14 : pR 239 (mk s) 1 10 14 = some 236 := (B_K (n := 239) (by omega)).2.2.2.2.2.2.2.2.2.2.2.2.2.2.2.2.2.2.2.2.2.1 s 236 h14 (by omega)
      exact lz_al (pc := 44) rfl rfl (lz_gfR rfl r14 (lz_st (f := ai_nn 62) rfl rfl l))
    · exact cK_fr hK (fun a' j ha' _ => by rw [f2 a' (by omega)]) (fun a' _ => by rw [f1])
    · rw [f2 a' (by omega), f1]; exact ⟨rfl, rfl, rfl⟩
end Ce5
