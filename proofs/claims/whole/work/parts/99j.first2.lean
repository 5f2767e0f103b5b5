/-! ===== the state behind both constructors ===== -/
def B00 : Nat → Nat := fun _ => 0
def A00 : zA := (fnT (x00 B00 0), S0 (fnT (x00 B00 0)), (false, S0 (fnT (x00 B00 0))), (0, fun _ => S0 (fnT (x00 B00 0))), (0, B00), (0, m1), (0, m1, fun _ _ => 0))
theorem T00_WT : WT (fnT (x00 B00 0)) := fn_WT (I := fun _ _ => 0) (N := 0) (c := 0) iv_00 (fun w _ g => absurd rfl g)
theorem A00_wf : wfA A00 := ⟨T00_WT, S0_w T00_WT, (fun h => by cases h), ⟨Nat.zero_le _, fun i hi => absurd hi (Nat.not_lt_zero _)⟩, ⟨Nat.zero_le _, fun _ => by show 0 < 256; omega⟩, Nat.zero_le _, Or.inl rfl, fun i hi => absurd hi (Nat.not_lt_zero _)⟩
set_option maxRecDepth 20000 in
theorem s00_c : s00.2.2 1 4 = 29 ∧ s00.2.2 1 3 = 6 ∧ s00.2.2 1 14 = 84 ∧ s00.1 1 1 = nI 0 ∧ s00.1 1 8 = nI 0 ∧ s00.1 1 10 = nI 0 ∧ s00.1 3 3 = nI 0 ∧ s00.1 3 4 = m1 ∧ s00.1 70 5 = nI 0 ∧ s00.1 70 6 = m1 := ⟨rfl, rfl, rfl, rfl, rfl, rfl, rfl, rfl, rfl, rfl⟩
set_option maxRecDepth 20000 in
theorem s00_d : (s00.1 7 4 = nI 0 ∧ s00.1 10 4 = nI 0 ∧ s00.1 13 4 = nI 0 ∧ s00.1 16 4 = nI 0 ∧ s00.1 19 4 = nI 0) ∧ (s00.1 22 5 = nI 0 ∧ s00.1 6 6 = nI 366 ∧ s00.1 6 7 = nI 0 ∧ s00.1 6 8 = nI 0) ∧ (∀ w, s00.1 23 w = nI 0) ∧ (∀ w, s00.1 24 w = nI 0) ∧ (s00.1 52 0 = nI 0 ∧ s00.1 52 1 = nI 0 ∧ s00.1 52 2 = nI 0 ∧ s00.1 52 3 = nI 0 ∧ s00.1 52 4 = nI 0) := ⟨⟨rfl, rfl, rfl, rfl, rfl⟩, ⟨rfl, rfl, rfl, rfl⟩, fun _ => rfl, fun _ => rfl, ⟨rfl, rfl, rfl, rfl, rfl⟩⟩
set_option maxRecDepth 20000 in
theorem s00_w : (∀ k, s00.1 5 k = wdR k) ∧ (∀ k, s00.1 189 k = gw 108 k) ∧ (∀ j, s00.1 209 j = nI 0) ∧ (∀ j, s00.2.2 67 j = ((fq 87 20) j).getD 0) ∧ s00.1 187 1 = nI 0 ∧ s00.1 187 4 = nI 0 ∧ s00.1 187 5 = m1 := ⟨fun _ => rfl, fun _ => rfl, fun _ => rfl, fun _ => rfl, rfl, rfl, rfl⟩
theorem T00_z {i : Nat} (h : i ≠ 6) : fnT (x00 B00 0) 0 i = 0 := by
  by_cases e : i = 5
  · rw [e]; rfl
  · rw [fn_o (by omega) (by omega) (Or.inr e)]
    exact if_neg (by omega)
theorem s00_cK {s : zS} (e1 : ∀ a, a < 187 → s.1 a = s00.1 a) (e2 : s.2.2 = s00.2.2) : cK s 6 A00 := by
  obtain ⟨c1, c2, c3, c4, c5, c6, c7, c8, c9, c10⟩ := s00_c
  obtain ⟨⟨d1, d2, d3, d4, d5⟩, ⟨d6, d7, d8, d9⟩, d10, d11, d12, d13, d14, d15, d16⟩ := s00_d
  have q67 : ∀ i, i < 20 → s.2.2 67 i = 87 + 5 * i := fun i hi => by
    rw [e2, s00_w.2.2.2.1]
    unfold fq
    rw [if_pos hi]
    rfl
  refine ⟨Or.inl ⟨rfl, by rw [e2]; exact c1⟩, by rw [e2]; exact c2, ⟨?_, ⟨?_, ?_⟩, fun i hi => ?_, fun p hp => ?_, fun w hw => ?_, fun k hk => ?_, fun b hb => ?_, fun w hw => ⟨fun _ => ?_, fun g => absurd rfl g⟩⟩, ⟨?_, fun p hp => ?_, fun w hw => ?_⟩, ⟨by rw [e1 1 (by omega)]; exact c5, (fun h => by cases h)⟩, ⟨by rw [e1 1 (by omega)]; exact c6, Nat.zero_le _, fun i hi => ⟨i, hi, q67 i hi⟩, fun i j h1 h2 => by rw [q67 i (by omega), q67 j h2]; omega, fun i hi => absurd hi (Nat.not_lt_zero _)⟩, ⟨by rw [e1 1 (by omega)]; exact c4, fun i hi => absurd hi (Nat.not_lt_zero _)⟩, ⟨by rw [e1 3 (by omega)]; exact c7, by rw [e1 3 (by omega)]; exact c8⟩, ⟨by rw [e1 70 (by omega)]; exact c9, by rw [e1 70 (by omega)]; exact c10, fun i hi => absurd hi (Nat.not_lt_zero _)⟩⟩
  · show s.1 7 4 = nI (fnT (x00 B00 0) 0 0) ∧ s.1 10 4 = nI (fnT (x00 B00 0) 0 1) ∧ s.1 13 4 = nI (fnT (x00 B00 0) 0 2) ∧ s.1 16 4 = nI (fnT (x00 B00 0) 0 3) ∧ s.1 19 4 = nI (fnT (x00 B00 0) 0 4)
    rw [e1 7 (by omega), e1 10 (by omega), e1 13 (by omega), e1 16 (by omega), e1 19 (by omega), T00_z (by omega), T00_z (by omega), T00_z (by omega), T00_z (by omega), T00_z (by omega)]
    exact ⟨d1, d2, d3, d4, d5⟩
  · show s.1 22 5 = nI (fnT (x00 B00 0) 0 5)
    rw [e1 22 (by omega), T00_z (by omega)]; exact d6
  · show s.1 6 6 = nI (fnT (x00 B00 0) 0 6) ∧ s.1 6 7 = nI (fnT (x00 B00 0) 0 7) ∧ s.1 6 8 = nI (fnT (x00 B00 0) 0 8)
    rw [e1 6 (by omega), T00_z (i := 7) (by omega), T00_z (i := 8) (by omega)]
    exact ⟨d7, d8, d9⟩
  · have hi : i < fnT (x00 B00 0) 0 0 := hi
    rw [T00_z (by omega)] at hi; omega
  · have hp : p < fnT (x00 B00 0) 0 1 := hp
    rw [T00_z (by omega)] at hp; omega
  · have hw : w < fnT (x00 B00 0) 0 2 := hw
    rw [T00_z (by omega)] at hw; omega
  · have hk : k < fnT (x00 B00 0) 0 3 := hk
    rw [T00_z (by omega)] at hk; omega
  · have hb : b < fnT (x00 B00 0) 0 4 := hb
    rw [T00_z (by omega)] at hb; omega
  · rw [e1 (6 + 17) (by omega), e1 (6 + 18) (by omega)]
    exact ⟨d10 w, d11 w⟩
  · rw [e1 52 (by omega)]
    refine ⟨d12, ?_, d14, d15, ?_⟩
    · show s00.1 52 1 = nI (fnT (x00 B00 0) 0 8)
      rw [T00_z (by omega)]; exact d13
    · show s00.1 52 4 = nI (2 ^ fnT (x00 B00 0) 0 1 - 1)
      rw [T00_z (by omega)]; exact d16
  · have hp : p < fnT (x00 B00 0) 0 1 := hp
    rw [T00_z (by omega)] at hp; omega
  · have hw : w < fnT (x00 B00 0) 0 2 := hw
    rw [T00_z (by omega)] at hw; omega
set_option maxRecDepth 20000 in
/-- the reference's constructor, to its end -/
theorem first_ref {fz : List Value} (hf : ∀ (o : ai_Ou), ct 9 tX11_init (ai_Hd 140) o 1059 (lv_args 0 [.ref LP1.length]) 11 LP1 (FX11 LP1.length) (QX11 LP1.length) 50 29574 → ct 9 tX11_init (ai_Hd 140) o 0 (lv_args 0 [.ref LP1.length]) 11 LP1 fz [] 0 0) : ∃ s1 : zS, bi_sp 10 140 [.ref 187] (hL (LP1 ++ [.inr (11, fz)])) 188 (.inl none, MP s1, 238, 50, 29574) ∧ s1.2.2 = s00.2.2 ∧ (∀ a, a < 187 ∨ a = 189 → s1.1 a = s00.1 a) ∧ mK s1 A00 := by
  obtain ⟨w1, w2, w3, w4, w5, w6, w7⟩ := s00_w
  obtain ⟨sa, a1, a2, a3, a4, a5, a6, a7, a8, a9⟩ := m_plainM (s := s00) bM_MP
  have hG : mG sa.1 T00 0 := by
    refine ⟨fun τ hτ => ⟨?_, fun i hi => ?_⟩, ?_, fun i hi => ?_, fun w hw => ⟨?_, fun h => absurd rfl h⟩⟩
    · rw [a4 _ (by omega), show T00 0 τ = 0 from if_neg (by omega)]
    · rw [show T00 0 τ = 0 from if_neg (by omega)] at hi; omega
    · exact a8
    · rw [a7 i hi, Nat.zero_testBit]; rfl
    · rw [a9 w hw, Nat.zero_testBit]; rfl
  obtain ⟨sb, b1, b2, b3, b4, b5, b6, b7, b8, b9, b10, b11, b12⟩ := m_keptM (s := sa) (x := x00 B00 0) (N := 0) (c := 0) bM_MP iv_00 hG (by rw [a4 23 (by omega)]; rfl) (fun w _ g => absurd rfl g) (fun j hj => ⟨0, by omega, by rw [(a6 j hj).1]; exact w3 j⟩)
  refine ⟨sb, ?_, ?_, fun a ha => ?_, ⟨b6, b8, ⟨b12, (fun h => by cases h)⟩, ⟨b11, fun i hi => absurd hi (Nat.not_lt_zero _)⟩, ⟨?_, fun i hi => absurd hi (Nat.not_lt_zero _)⟩, ⟨?_, ?_⟩, ⟨b9, b10, fun i hi => absurd hi (Nat.not_lt_zero _)⟩⟩⟩
  · have run : ct 9 tX11_init (ai_Hd 140) (.inl none, MP sb, 238, 50, 29574) 1059 (lv_args 0 [.ref LP1.length]) 11 LP1 (FX11 LP1.length) (QX11 LP1.length) 50 29574 := by
      unfold ct
      rw [LP1_len]
      have e : hL (LP1 ++ .inr (11, FX11 187) :: QX11 187) = MP s00 := LP2_mk
      rw [e]
      refine lz_al (pc := 1059) rfl rfl (lz_iv (v := none) rfl rfl (gX11_plain a1) (Nat.le_of_ble_eq_true rfl) (bi_up (sX11_plain a1) (Nat.le_of_ble_eq_true rfl)) ?_)
      refine lz_al (pc := 1063) rfl rfl (lz_iv (v := none) rfl rfl (gX11_keepText b1) (Nat.le_of_ble_eq_true rfl) (bi_up (sX11_keepText b1) (Nat.le_of_ble_eq_true rfl)) ?_)
      exact lz_ret rfl rfl rfl
    have g := hf _ run
    unfold ct at g
    rw [LP1_len] at g
    exact lz_en (D := 9) (T := tX11_init) rfl (Nat.le_of_ble_eq_true rfl) g
  · rw [b2, a2]
  · rw [b4 a (by omega) (by omega), a3 a (by omega) (by omega) (by omega) (by omega)]
  · show sb.1 187 1 = nI 0
    rw [b5 1 (by omega), a5 1 (by omega)]; exact w5
  · show sb.1 187 4 = nI 0
    rw [b5 4 (by omega), a5 4 (by omega)]; exact w6
  · show sb.1 187 5 = m1
    rw [b5 5 (by omega), a5 5 (by omega)]; exact w7
