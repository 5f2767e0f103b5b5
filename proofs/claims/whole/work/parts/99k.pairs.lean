/-! ===== each call, by the class and by the reference ===== -/
section Pk
variable {n t g k w : Nat} {s s' s'' : zS} {A A' : zA} {x y z a b c d e : Int32} {vs : List Value}
/-- what holds between calls -/
def IN (s : zS) (n g : Nat) : Prop := ∃ t A, cK s t A ∧ mK s A ∧ wfA A ∧ gmS s n g ∧ (∀ k, k < 22 → s.1 5 k = nI (WD k)) ∧ ∀ k, k < 108 → s.1 189 k = nI (WC k)
/-- both answer alike, and go on -/
def prV2 (y y' : Nat) (vs : List Value) (s : zS) (n g : Nat) (v : Value) : Prop := ∃ (s' : zS) (n' c1 s1 g' : Nat) (s'' : zS), bi_sp 308 y (.ref 1 :: vs) (mk s) n (.inl (some v), mk s', n', c1, s1) ∧ bi_sp 308 y' (.ref 187 :: vs) (mk s') n' (.inl (some v), mk s'', n', 0, 0) ∧ 239 ≤ n ∧ 239 ≤ n' ∧ IN s'' n' g' ∧ g' ≤ g + 1 ∧ c1 ≤ 3 ∧ s1 ≤ 20199
def prI (y y' : Nat) (vs : List Value) (s : zS) (n g : Nat) : Prop := ∃ r : Int32, prV2 y y' vs s n g (.int r)
def prJ (y y' : Nat) (vs : List Value) (s : zS) (n g : Nat) : Prop := ∃ r : Int64, prV2 y y' vs s n g (.long r)
theorem pr_mk {y y' t' : Nat} {v : Value} (hg : gmS s n g) (h5 : ∀ k, k < 22 → s.1 5 k = nI (WD k)) (h6 : ∀ k, k < 108 → s.1 189 k = nI (WC k)) (sc : bi_sp 308 y (.ref 1 :: vs) (mk s) n (.inl (some v), mk s', n, 0, 0)) (fc : frC s s') (kc : cK s' t' A') (sm : bi_sp 308 y' (.ref 187 :: vs) (mk s') n (.inl (some v), mk s'', n, 0, 0)) (fm : frM s' s'') (km : mK s'' A') (wf : wfA A') : prV2 y y' vs s n g v := by
  refine ⟨s', n, 0, 0, g, s'', sc, sm, gmS_n hg, gmS_n hg, ⟨t', A', cK_M kc fm, km, wf, gmS_f hg ?_, fun k hk => ?_, fun k hk => ?_⟩, by omega, Nat.zero_le _, Nat.zero_le _⟩
  · rw [(fm.2 85 (by omega)).1, (fc.1 85 (Or.inr (Or.inr rfl))).1]
  · rw [(fm.2 5 (by omega)).1, (fc.1 5 (Or.inr (Or.inl rfl))).1]; exact h5 k hk
  · rw [(fm.2 189 (by omega)).1, (fc.1 189 (Or.inl (by omega))).1]; exact h6 k hk
theorem pr_rd {y y' : Nat} {v : Value} (hg : gmS s n g) (h5 : ∀ k, k < 22 → s.1 5 k = nI (WD k)) (h6 : ∀ k, k < 108 → s.1 189 k = nI (WC k)) (hc : cK s t A) (hm : mK s A) (hw : wfA A) (sc : bi_sp 308 y (.ref 1 :: vs) (mk s) n (.inl (some v), mk s', n, 0, 0)) (fs : frS s s') (sm : bi_sp 308 y' (.ref 187 :: vs) (mk s') n (.inl (some v), mk s'', n, 0, 0)) (fm : frT s' s'') : prV2 y y' vs s n g v :=
  pr_mk hg h5 h6 sc (frS_C fs) (cK_S hc fs) sm (frT_M fm) (mK_T hw.1 (mK_C hm (frS_C fs)) fm) hw
theorem mK_S2 (hm : mK s A) (fs : frS s s') : mK s' A := mK_C hm (frS_C fs)
theorem p_fault (h : IN s n g) : prI 92 169 [.int x] s n g := by
  obtain ⟨t, A, hc, hm, hw, hg, h5, h6⟩ := h
  have hn := gmS_n hg
  have e1 := c_fault (x := x) hn hc
  obtain ⟨s2, e2, f2⟩ := m_fault (x := x) hn hm
  exact ⟨_, pr_rd (s'' := s2) hg h5 h6 hc hm hw (bi_up (sX10_fault e1) (Nat.le_of_ble_eq_true rfl)) frS_r (bi_up (sX11_fault e2) (Nat.le_of_ble_eq_true rfl)) f2⟩
theorem p_named (h : IN s n g) : prI 93 170 [.int x, .int y] s n g := by
  obtain ⟨t, A, hc, hm, hw, hg, h5, h6⟩ := h
  have hn := gmS_n hg
  have e1 := c_named (x := x) (y := y) hn hc hw
  obtain ⟨s2, e2, f2⟩ := m_named (x := x) (y := y) hn hm hw
  exact ⟨_, pr_rd (s'' := s2) hg h5 h6 hc hm hw (bi_up (sX10_named e1) (Nat.le_of_ble_eq_true rfl)) frS_r (bi_up (sX11_named e2) (Nat.le_of_ble_eq_true rfl)) f2⟩
theorem p_walker (h : IN s n g) : prI 99 209 [.int x, .int y] s n g := by
  obtain ⟨t, A, hc, hm, hw, hg, h5, h6⟩ := h
  have hn := gmS_n hg
  obtain ⟨s1, e1, f1⟩ := c_walker (x := x) (y := y) hn hc hw
  obtain ⟨s2, e2, f2⟩ := m_walker (x := x) (y := y) hn (mK_S2 hm f1) hw
  exact ⟨_, pr_rd (s'' := s2) hg h5 h6 hc hm hw (bi_up (sX10_walker e1) (Nat.le_of_ble_eq_true rfl)) f1 (bi_up (sX11_walker e2) (Nat.le_of_ble_eq_true rfl)) f2⟩
theorem p_ahead (h : IN s n g) : prI 112 215 [.int x, .int y, .int z] s n g := by
  obtain ⟨t, A, hc, hm, hw, hg, h5, h6⟩ := h
  have hn := gmS_n hg
  obtain ⟨s1, e1, f1⟩ := c_ahead (x := x) (y := y) (z := z) hn hc hw
  obtain ⟨s2, e2, f2⟩ := m_ahead (x := x) (y := y) (z := z) hn (mK_S2 hm f1) hw
  exact ⟨_, pr_rd (s'' := s2) hg h5 h6 hc hm hw (bi_up (sX10_ahead e1) (Nat.le_of_ble_eq_true rfl)) f1 (bi_up (sX11_ahead e2) (Nat.le_of_ble_eq_true rfl)) f2⟩
theorem p_lapse (h : IN s n g) : prI 114 216 [.int x] s n g := by
  obtain ⟨t, A, hc, hm, hw, hg, h5, h6⟩ := h
  have hn := gmS_n hg
  obtain ⟨s1, e1, f1⟩ := c_lapse (x := x) hn hc hw
  obtain ⟨s2, e2, f2⟩ := m_lapse (x := x) hn (mK_S2 hm f1) hw
  exact ⟨_, pr_rd (s'' := s2) hg h5 h6 hc hm hw (bi_up (sX10_lapse e1) (Nat.le_of_ble_eq_true rfl)) f1 (bi_up (sX11_lapse e2) (Nat.le_of_ble_eq_true rfl)) f2⟩
theorem p_blind (h : IN s n g) : prI 121 228 [] s n g := by
  obtain ⟨t, A, hc, hm, hw, hg, h5, h6⟩ := h
  have hn := gmS_n hg
  have e1 := c_blind hn hc hw
  obtain ⟨s2, e2, f2⟩ := m_blind hn hm hw
  exact ⟨_, pr_rd (s'' := s2) hg h5 h6 hc hm hw (bi_up (sX10_blind e1) (Nat.le_of_ble_eq_true rfl)) frS_r (bi_up (sX11_blind e2) (Nat.le_of_ble_eq_true rfl)) f2⟩
theorem p_rests (h : IN s n g) : prI 126 242 [.int x, .int y] s n g := by
  obtain ⟨t, A, hc, hm, hw, hg, h5, h6⟩ := h
  have hn := gmS_n hg
  have e1 := c_rests (x := x) (y := y) hn hc hw
  obtain ⟨s2, e2, f2⟩ := m_rests (x := x) (y := y) hn hm hw
  exact ⟨_, pr_rd (s'' := s2) hg h5 h6 hc hm hw (bi_up (sX10_rests e1) (Nat.le_of_ble_eq_true rfl)) frS_r (bi_up (sX11_rests e2) (Nat.le_of_ble_eq_true rfl)) f2⟩
theorem p_rest (h : IN s n g) : prI 127 243 [.int x, .int y, .int z] s n g := by
  obtain ⟨t, A, hc, hm, hw, hg, h5, h6⟩ := h
  have hn := gmS_n hg
  have e1 := c_rest (x := x) (y := y) (z := z) hn hc hw
  obtain ⟨s2, e2, f2⟩ := m_rest (x := x) (y := y) (z := z) hn hm hw
  exact ⟨_, pr_rd (s'' := s2) hg h5 h6 hc hm hw (bi_up (sX10_rest e1) (Nat.le_of_ble_eq_true rfl)) frS_r (bi_up (sX11_rest e2) (Nat.le_of_ble_eq_true rfl)) f2⟩
theorem p_tries (h : IN s n g) : prI 130 244 [.int x] s n g := by
  obtain ⟨t, A, hc, hm, hw, hg, h5, h6⟩ := h
  have hn := gmS_n hg
  have e1 := c_tries (x := x) hn hc hw
  obtain ⟨s2, e2, f2⟩ := m_tries (x := x) hn hm hw
  exact ⟨_, pr_rd (s'' := s2) hg h5 h6 hc hm hw (bi_up (sX10_tries e1) (Nat.le_of_ble_eq_true rfl)) frS_r (bi_up (sX11_tries e2) (Nat.le_of_ble_eq_true rfl)) f2⟩
theorem p_clear (h : IN s n g) : prJ 131 245 [.int x, .int y] s n g := by
  obtain ⟨t, A, hc, hm, hw, hg, h5, h6⟩ := h
  have hn := gmS_n hg
  have e1 := c_clear (x := x) (y := y) hn hc hw
  obtain ⟨s2, e2, f2⟩ := m_clear (x := x) (y := y) hn hm hw
  exact ⟨_, pr_rd (s'' := s2) hg h5 h6 hc hm hw (bi_up (sX10_clear e1) (Nat.le_of_ble_eq_true rfl)) frS_r (bi_up (sX11_clear e2) (Nat.le_of_ble_eq_true rfl)) f2⟩
theorem p_count (h : IN s n g) : prI 102 266 [.int x] s n g := by
  obtain ⟨t, A, hc, hm, hw, hg, h5, h6⟩ := h
  have hn := gmS_n hg
  have e1 := c_count (x := x) hn hc hw
  obtain ⟨s2, e2, f2⟩ := m_count (x := x) hn hm hw
  exact ⟨_, pr_rd (s'' := s2) hg h5 h6 hc hm hw (bi_up (sX10_count e1) (Nat.le_of_ble_eq_true rfl)) frS_r (bi_up (sX11_count e2) (Nat.le_of_ble_eq_true rfl)) f2⟩
theorem p_law (h : IN s n g) : prJ 101 210 [.int x, .int y, .int z] s n g := by
  obtain ⟨t, A, hc, hm, hw, hg, h5, h6⟩ := h
  have hn := gmS_n hg
  by_cases q : lawOk (aT A) x y z
  · obtain ⟨s1, e1, f1⟩ := (c_law (x := x) (y := y) (z := z) hn hc hw).1 q
    obtain ⟨s2, e2, f2⟩ := (m_law (x := x) (y := y) (z := z) hn (mK_S2 hm f1) hw).1 q
    exact ⟨_, pr_rd (s'' := s2) hg h5 h6 hc hm hw (bi_up (sX10_law e1) (Nat.le_of_ble_eq_true rfl)) f1 (bi_up (sX11_law e2) (Nat.le_of_ble_eq_true rfl)) f2⟩
  · have e1 := (c_law (x := x) (y := y) (z := z) hn hc hw).2 q
    obtain ⟨s2, e2, f2⟩ := (m_law (x := x) (y := y) (z := z) hn hm hw).2 q
    exact ⟨_, pr_rd (s'' := s2) hg h5 h6 hc hm hw (bi_up (sX10_law e1) (Nat.le_of_ble_eq_true rfl)) frS_r (bi_up (sX11_law e2) (Nat.le_of_ble_eq_true rfl)) f2⟩
theorem p_chance (h : IN s n g) : prI 116 258 [.int x, .int y, .int z, .int a] s n g := by
  obtain ⟨t, A, hc, hm, hw, hg, h5, h6⟩ := h
  have hn := gmS_n hg
  by_cases q : chcOk (aT A) x y z a
  · obtain ⟨s1, e1, f1⟩ := (c_chance (x := x) (y := y) (z := z) (a := a) hn hc hw).1 q
    obtain ⟨s2, e2, f2⟩ := (m_chance (x := x) (y := y) (z := z) (a := a) hn (mK_S2 hm f1) hw).1 q
    exact ⟨_, pr_rd (s'' := s2) hg h5 h6 hc hm hw (bi_up (sX10_chance e1) (Nat.le_of_ble_eq_true rfl)) f1 (bi_up (sX11_chance e2) (Nat.le_of_ble_eq_true rfl)) f2⟩
  · have e1 := (c_chance (x := x) (y := y) (z := z) (a := a) hn hc hw).2 q
    obtain ⟨s2, e2, f2⟩ := (m_chance (x := x) (y := y) (z := z) (a := a) hn hm hw).2 q
    exact ⟨_, pr_rd (s'' := s2) hg h5 h6 hc hm hw (bi_up (sX10_chance e1) (Nat.le_of_ble_eq_true rfl)) frS_r (bi_up (sX11_chance e2) (Nat.le_of_ble_eq_true rfl)) f2⟩
theorem p_tried (h : IN s n g) : prI 115 259 [.int x, .int y, .int z] s n g := by
  obtain ⟨t, A, hc, hm, hw, hg, h5, h6⟩ := h
  have hn := gmS_n hg
  by_cases q : triedOk (aT A) x y z
  · obtain ⟨s1, e1, f1⟩ := (c_tried (x := x) (y := y) (z := z) hn hc hw).1 q
    obtain ⟨s2, e2, f2⟩ := (m_tried (x := x) (y := y) (z := z) hn (mK_S2 hm f1) hw).1 q
    exact ⟨_, pr_rd (s'' := s2) hg h5 h6 hc hm hw (bi_up (sX10_tried e1) (Nat.le_of_ble_eq_true rfl)) f1 (bi_up (sX11_tried e2) (Nat.le_of_ble_eq_true rfl)) f2⟩
  · have e1 := (c_tried (x := x) (y := y) (z := z) hn hc hw).2 q
    obtain ⟨s2, e2, f2⟩ := (m_tried (x := x) (y := y) (z := z) hn hm hw).2 q
    exact ⟨_, pr_rd (s'' := s2) hg h5 h6 hc hm hw (bi_up (sX10_tried e1) (Nat.le_of_ble_eq_true rfl)) frS_r (bi_up (sX11_tried e2) (Nat.le_of_ble_eq_true rfl)) f2⟩
theorem p_mow (h : IN s n g) : prI 104 212 [.int x] s n g := by
  obtain ⟨t, A, hc, hm, hw, hg, h5, h6⟩ := h
  have hn := gmS_n hg
  by_cases q : mowOk A x
  · obtain ⟨s1, e1, f1, k1⟩ := (c_mow (x := x) hn hc hw).1 q
    obtain ⟨s2, e2, f2, k2⟩ := (m_mow (x := x) hn (mK_C hm f1) hw).1 q
    exact ⟨_, pr_mk (s'' := s2) hg h5 h6 (bi_up (sX10_mow e1) (Nat.le_of_ble_eq_true rfl)) f1 k1 (bi_up (sX11_mow e2) (Nat.le_of_ble_eq_true rfl)) f2 k2 (wf_mow hw q)⟩
  · have e1 := (c_mow (x := x) hn hc hw).2 q
    obtain ⟨s2, e2, f2⟩ := (m_mow (x := x) hn hm hw).2 q
    exact ⟨_, pr_rd (s'' := s2) hg h5 h6 hc hm hw (bi_up (sX10_mow e1) (Nat.le_of_ble_eq_true rfl)) frS_r (bi_up (sX11_mow e2) (Nat.le_of_ble_eq_true rfl)) f2⟩
theorem p_carry (h : IN s n g) : prI 105 213 [.int x, .int y] s n g := by
  obtain ⟨t, A, hc, hm, hw, hg, h5, h6⟩ := h
  have hn := gmS_n hg
  by_cases q : carOk A x y
  · obtain ⟨s1, e1, f1, k1⟩ := (c_carry (x := x) (y := y) hn hc hw).1 q
    obtain ⟨s2, e2, f2, k2⟩ := (m_carry (x := x) (y := y) hn (mK_C hm f1) hw).1 q
    exact ⟨_, pr_mk (s'' := s2) hg h5 h6 (bi_up (sX10_carry e1) (Nat.le_of_ble_eq_true rfl)) f1 k1 (bi_up (sX11_carry e2) (Nat.le_of_ble_eq_true rfl)) f2 k2 (wf_carry hw q)⟩
  · have e1 := (c_carry (x := x) (y := y) hn hc hw).2 q
    obtain ⟨s2, e2, f2⟩ := (m_carry (x := x) (y := y) hn hm hw).2 q
    exact ⟨_, pr_rd (s'' := s2) hg h5 h6 hc hm hw (bi_up (sX10_carry e1) (Nat.le_of_ble_eq_true rfl)) frS_r (bi_up (sX11_carry e2) (Nat.le_of_ble_eq_true rfl)) f2⟩
theorem p_go (h : IN s n g) : prI 110 214 [.int x] s n g := by
  obtain ⟨t, A, hc, hm, hw, hg, h5, h6⟩ := h
  have hn := gmS_n hg
  by_cases q : wiV 0 x 400 = true ∧ ¬ nI 9000 < (aS A).1 0 + x
  · obtain ⟨s1, e1, f1, k1⟩ := (c_go (x := x) hn hc hw).1 q
    obtain ⟨s2, e2, f2, k2⟩ := (m_go (x := x) hn (mK_C hm f1) hw).1 q
    exact ⟨_, pr_mk (s'' := s2) hg h5 h6 (bi_up (sX10_go e1) (Nat.le_of_ble_eq_true rfl)) f1 k1 (bi_up (sX11_go e2) (Nat.le_of_ble_eq_true rfl)) f2 k2 (wf_go hw)⟩
  · have e1 := (c_go (x := x) hn hc hw).2 q
    obtain ⟨s2, e2, f2⟩ := (m_go (x := x) hn hm hw).2 q
    exact ⟨_, pr_rd (s'' := s2) hg h5 h6 hc hm hw (bi_up (sX10_go e1) (Nat.le_of_ble_eq_true rfl)) frS_r (bi_up (sX11_go e2) (Nat.le_of_ble_eq_true rfl)) f2⟩
theorem p_strike (h : IN s n g) : prI 134 248 [.int x] s n g := by
  obtain ⟨t, A, hc, hm, hw, hg, h5, h6⟩ := h
  have hn := gmS_n hg
  by_cases q : strOk A x
  · obtain ⟨s1, e1, f1, k1⟩ := (c_strike (x := x) hn hc hw).1 q
    obtain ⟨s2, e2, f2, k2⟩ := (m_strike (x := x) hn (mK_C hm f1) hw).1 q
    exact ⟨_, pr_mk (s'' := s2) hg h5 h6 (bi_up (sX10_strike e1) (Nat.le_of_ble_eq_true rfl)) f1 k1 (bi_up (sX11_strike e2) (Nat.le_of_ble_eq_true rfl)) f2 k2 (wf_strike hw q)⟩
  · have e1 := (c_strike (x := x) hn hc hw).2 q
    obtain ⟨s2, e2, f2⟩ := (m_strike (x := x) hn hm hw).2 q
    exact ⟨_, pr_rd (s'' := s2) hg h5 h6 hc hm hw (bi_up (sX10_strike e1) (Nat.le_of_ble_eq_true rfl)) frS_r (bi_up (sX11_strike e2) (Nat.le_of_ble_eq_true rfl)) f2⟩
theorem p_known (h : IN s n g) : prI 135 249 [.int x] s n g := by
  obtain ⟨t, A, hc, hm, hw, hg, h5, h6⟩ := h
  have hn := gmS_n hg
  by_cases q : knOk A x
  · obtain ⟨s1, e1, f1, k1⟩ := (c_known (x := x) hn hc).1 q
    obtain ⟨s2, e2, f2, k2⟩ := (m_known (x := x) hn (mK_C hm f1) hw).1 q
    exact ⟨_, pr_mk (s'' := s2) hg h5 h6 (bi_up (sX10_known e1) (Nat.le_of_ble_eq_true rfl)) f1 k1 (bi_up (sX11_known e2) (Nat.le_of_ble_eq_true rfl)) f2 k2 (wfE_known hw q)⟩
  · have e1 := (c_known (x := x) hn hc).2 q
    obtain ⟨s2, e2, f2⟩ := (m_known (x := x) hn hm hw).2 q
    exact ⟨_, pr_rd (s'' := s2) hg h5 h6 hc hm hw (bi_up (sX10_known e1) (Nat.le_of_ble_eq_true rfl)) frS_r (bi_up (sX11_known e2) (Nat.le_of_ble_eq_true rfl)) f2⟩
theorem p_see (h : IN s n g) : prI 133 247 [.int x, .int y, .int z, .int b] s n g := by
  obtain ⟨t, A, hc, hm, hw, hg, h5, h6⟩ := h
  have hn := gmS_n hg
  by_cases q : seeOk A x y z
  · obtain ⟨s1, e1, f1, k1⟩ := (c_see (x := x) (y := y) (z := z) (b := b) hn hc hw).1 q
    obtain ⟨s2, e2, f2, k2⟩ := (m_see (x := x) (y := y) (z := z) (b := b) hn (mK_C hm f1) hw).1 q
    exact ⟨_, pr_mk (s'' := s2) hg h5 h6 (bi_up (sX10_see e1) (Nat.le_of_ble_eq_true rfl)) f1 k1 (bi_up (sX11_see e2) (Nat.le_of_ble_eq_true rfl)) f2 k2 (wf_see hw q)⟩
  · have e1 := (c_see (x := x) (y := y) (z := z) (b := b) hn hc hw).2 q
    obtain ⟨s2, e2, f2⟩ := (m_see (x := x) (y := y) (z := z) (b := b) hn hm hw).2 q
    exact ⟨_, pr_rd (s'' := s2) hg h5 h6 hc hm hw (bi_up (sX10_see e1) (Nat.le_of_ble_eq_true rfl)) frS_r (bi_up (sX11_see e2) (Nat.le_of_ble_eq_true rfl)) f2⟩
theorem p_feed (h : IN s n g) : prI 89 142 [.int a, .int b, .int c, .int d, .int e] s n g := by
  obtain ⟨t, A, hc, hm, hw, hg, h5, h6⟩ := h
  have hn := gmS_n hg
  by_cases q : (aB A).1 + 20 ≤ 700
  · obtain ⟨s1, e1, f1, -, k1⟩ := (c_feed (a := a) (b := b) (c := c) (d := d) (e := e) hn hc hw).1 q
    obtain ⟨s2, e2, f2, k2⟩ := (m_feed (a := a) (b := b) (c := c) (d := d) (e := e) hn (mK_C hm f1) hw).1 q
    exact ⟨_, pr_mk (s'' := s2) hg h5 h6 (bi_up (sX10_feed e1) (Nat.le_of_ble_eq_true rfl)) f1 k1 (bi_up (sX11_feed e2) (Nat.le_of_ble_eq_true rfl)) f2 k2 (wfB_fed hw q)⟩
  · have e1 := (c_feed (a := a) (b := b) (c := c) (d := d) (e := e) hn hc hw).2 q
    obtain ⟨s2, e2, f2⟩ := (m_feed (a := a) (b := b) (c := c) (d := d) (e := e) hn hm hw).2 q
    exact ⟨_, pr_rd (s'' := s2) hg h5 h6 hc hm hw (bi_up (sX10_feed e1) (Nat.le_of_ble_eq_true rfl)) frS_r (bi_up (sX11_feed e2) (Nat.le_of_ble_eq_true rfl)) f2⟩
theorem p_undo (h : IN s n g) : prI 107 263 [] s n g := by
  obtain ⟨t, A, hc, hm, hw, hg, h5, h6⟩ := h
  have hn := gmS_n hg
  by_cases q : (aP A).1 = 0
  · have e1 := (c_undo hn hc hw).2 q
    obtain ⟨s2, e2, f2⟩ := (m_undo hn hm hw).2 q
    exact ⟨_, pr_rd (s'' := s2) hg h5 h6 hc hm hw (bi_up (sX10_undo e1) (Nat.le_of_ble_eq_true rfl)) frS_r (bi_up (sX11_undo e2) (Nat.le_of_ble_eq_true rfl)) f2⟩
  · obtain ⟨s1, e1, f1, k1⟩ := (c_undo hn hc hw).1 q
    obtain ⟨s2, e2, f2, k2⟩ := (m_undo hn (mK_C hm f1) hw).1 q
    exact ⟨_, pr_mk (s'' := s2) hg h5 h6 (bi_up (sX10_undo e1) (Nat.le_of_ble_eq_true rfl)) f1 k1 (bi_up (sX11_undo e2) (Nat.le_of_ble_eq_true rfl)) f2 k2 (wf_undo hw q)⟩
theorem p_keep (h : IN s n g) : prI 108 264 [] s n g := by
  obtain ⟨t, A, hc, hm, hw, hg, h5, h6⟩ := h
  have hn := gmS_n hg
  obtain ⟨s1, e1, f1, k1⟩ := c_keep hn hc hw
  obtain ⟨s2, e2, f2, k2⟩ := m_keep hn (mK_C hm f1) hw
  exact ⟨_, pr_mk (s'' := s2) hg h5 h6 (bi_up (sX10_keep e1) (Nat.le_of_ble_eq_true rfl)) f1 k1 (bi_up (sX11_keep e2) (Nat.le_of_ble_eq_true rfl)) f2 k2 (wf_keep hw)⟩
theorem p_back (h : IN s n g) : prI 109 265 [] s n g := by
  obtain ⟨t, A, hc, hm, hw, hg, h5, h6⟩ := h
  have hn := gmS_n hg
  cases q : (aI A).1 with
  | true =>
    obtain ⟨s1, e1, f1, k1⟩ := (c_back hn hc hw).1 q
    obtain ⟨s2, e2, f2, k2⟩ := (m_back hn (mK_C hm f1) hw).1 q
    exact ⟨_, pr_mk (s'' := s2) hg h5 h6 (bi_up (sX10_back e1) (Nat.le_of_ble_eq_true rfl)) f1 k1 (bi_up (sX11_back e2) (Nat.le_of_ble_eq_true rfl)) f2 k2 (wf_back hw q)⟩
  | false =>
    have e1 := (c_back hn hc hw).2 q
    obtain ⟨s2, e2, f2⟩ := (m_back hn hm hw).2 q
    exact ⟨_, pr_rd (s'' := s2) hg h5 h6 hc hm hw (bi_up (sX10_back e1) (Nat.le_of_ble_eq_true rfl)) frS_r (bi_up (sX11_back e2) (Nat.le_of_ble_eq_true rfl)) f2⟩
theorem p_walk (h : IN s n g) : prI 103 211 [.int x, .int y] s n g := by
  obtain ⟨t, A, hc, hm, hw, hg, h5, h6⟩ := h
  have hn := gmS_n hg
  have h0 := hw.1.1
  by_cases q : inR x (aT A 0 2) = true ∧ inR y (aT A 0 1) = true
  · obtain ⟨w, hw2, rfl⟩ := inR_t (by omega) q.1
    obtain ⟨p, hp, rfl⟩ := inR_t (by omega) q.2
    cases r : canV (aT A) (O0 (aT A) 0) (aS A) w p with
    | none =>
      obtain ⟨s1, e1, f1⟩ := (c_walk hn hc hw hw2 hp).1 r
      obtain ⟨s2, e2, f2⟩ := (m_walk hn (mK_S2 hm f1) hw hw2 hp).1 r
      exact ⟨_, pr_rd (s'' := s2) hg h5 h6 hc hm hw (bi_up (sX10_walk e1) (Nat.le_of_ble_eq_true rfl)) f1 (bi_up (sX11_walk e2) (Nat.le_of_ble_eq_true rfl)) f2⟩
    | some c =>
      obtain ⟨s1, e1, f1, k1⟩ := (c_walk hn hc hw hw2 hp).2 c r
      obtain ⟨s2, e2, f2, k2⟩ := (m_walk hn (mK_C hm f1) hw hw2 hp).2 c r
      exact ⟨_, pr_mk (s'' := s2) hg h5 h6 (bi_up (sX10_walk e1) (Nat.le_of_ble_eq_true rfl)) f1 k1 (bi_up (sX11_walk e2) (Nat.le_of_ble_eq_true rfl)) f2 k2 (wf_walk hw hw2 hp)⟩
  · have e1 := c_walkX hn hc hw q
    obtain ⟨s2, e2, f2⟩ := m_walkX hn hm hw q
    exact ⟨_, pr_rd (s'' := s2) hg h5 h6 hc hm hw (bi_up (sX10_walk e1) (Nat.le_of_ble_eq_true rfl)) frS_r (bi_up (sX11_walk e2) (Nat.le_of_ble_eq_true rfl)) f2⟩
theorem p_reach (h : IN s n g) : prI 117 221 [.int x] s n g := by
  obtain ⟨t, A, hc, hm, hw, hg, h5, h6⟩ := h
  have hn := gmS_n hg
  have h0 := hw.1.1
  cases q : inR x (aT A 0 2) with
  | true =>
    obtain ⟨w, hw2, rfl⟩ := inR_t (by omega) q
    have e1 := (c_reach (x := (0 : Int32)) hn hc hw).1 w hw2
    obtain ⟨s2, e2, f2⟩ := (m_reach (y := (0 : Int32)) hn hm hw).1 w hw2
    exact ⟨_, pr_rd (s'' := s2) hg h5 h6 hc hm hw (bi_up (sX10_reach e1) (Nat.le_of_ble_eq_true rfl)) frS_r (bi_up (sX11_reach e2) (Nat.le_of_ble_eq_true rfl)) f2⟩
  | false =>
    have e1 := (c_reach (x := x) hn hc hw).2 q
    obtain ⟨s2, e2, f2⟩ := (m_reach (y := x) hn hm hw).2 q
    exact ⟨_, pr_rd (s'' := s2) hg h5 h6 hc hm hw (bi_up (sX10_reach e1) (Nat.le_of_ble_eq_true rfl)) frS_r (bi_up (sX11_reach e2) (Nat.le_of_ble_eq_true rfl)) f2⟩
theorem p_way (h : IN s n g) : prI 118 222 [.int x, .int y] s n g := by
  obtain ⟨t, A, hc, hm, hw, hg, h5, h6⟩ := h
  have hn := gmS_n hg
  have h0 := hw.1.1
  by_cases q : inR x (aT A 0 2) = true ∧ inR y (aT A 0 0) = true
  · obtain ⟨w, hw2, rfl⟩ := inR_t (by omega) q.1
    obtain ⟨p, hp, rfl⟩ := inR_t (by omega) q.2
    obtain ⟨s0, d0, l0, -, -, -⟩ := (m_way (y := (0 : Int32)) (z := (0 : Int32)) hn hm hw).1 w p hw2 hp
    obtain ⟨s1, e1, f1⟩ := (c_way (y := (0 : Int32)) (z := (0 : Int32)) hn hc hw).1 w p _ hw2 hp (ls_wy l0)
    obtain ⟨s2, d2, l2, e2, f2, -⟩ := (m_way (y := (0 : Int32)) (z := (0 : Int32)) hn (mK_S2 hm f1) hw).1 w p hw2 hp
    have ed := lsL_one l2 l0
    subst ed
    have e2 : fX11_way n (mk s1) 187 (nI w) (nI p) = some (wayR (d2 (512 * p)), mk s2) := by
      rw [e2]
      unfold wayR
      cases d2 (512 * p) <;> rfl
    exact ⟨_, pr_rd (s'' := s2) hg h5 h6 hc hm hw (bi_up (sX10_way e1) (Nat.le_of_ble_eq_true rfl)) f1 (bi_up (sX11_way e2) (Nat.le_of_ble_eq_true rfl)) f2⟩
  · have e1 := (c_way (y := x) (z := y) hn hc hw).2 q
    obtain ⟨s2, e2, f2⟩ := (m_way (y := x) (z := y) hn hm hw).2 q
    exact ⟨_, pr_rd (s'' := s2) hg h5 h6 hc hm hw (bi_up (sX10_way e1) (Nat.le_of_ble_eq_true rfl)) frS_r (bi_up (sX11_way e2) (Nat.le_of_ble_eq_true rfl)) f2⟩
theorem bl_2 {k : Nat} (h : k ≤ 1) : ∃ b : Bool, k = b.toNat := by
  rcases (by omega : k = 0 ∨ k = 1) with rfl | rfl
  · exact ⟨false, rfl⟩
  · exact ⟨true, rfl⟩
theorem p_round (h : IN s n g) : prI 119 223 [.int x, .int y, .int z] s n g := by
  obtain ⟨t, A, hc, hm, hw, hg, h5, h6⟩ := h
  have hn := gmS_n hg
  have h0 := hw.1.1
  have p2 := p2_le hw.1
  by_cases q : rndOk (aT A) x y z
  · obtain ⟨w, hw2, rfl⟩ := inR_t (by omega) q.1
    obtain ⟨W, hW2, rfl⟩ := inR_t (by omega) q.2.1
    obtain ⟨k, -, hk, rfl⟩ := wiV_t (by omega) (by omega) q.2.2
    obtain ⟨b, rfl⟩ := bl_2 hk
    obtain ⟨s0, d0, l0, -, -⟩ := (m_round (x := (0 : Int32)) (y := (0 : Int32)) (z := (0 : Int32)) hn hm hw).1 w W b hw2 hW2
    obtain ⟨s1, e1, f1⟩ := (c_round (x := (0 : Int32)) (y := (0 : Int32)) (z := (0 : Int32)) hn hc hw).1 w W b d0 hw2 hW2 l0
    obtain ⟨s2, d2, l2, e2, f2⟩ := (m_round (x := (0 : Int32)) (y := (0 : Int32)) (z := (0 : Int32)) hn (mK_S2 hm f1) hw).1 w W b hw2 hW2
    have ed := lsL_one l2 l0
    subst ed
    exact ⟨_, pr_rd (s'' := s2) hg h5 h6 hc hm hw (bi_up (sX10_round e1) (Nat.le_of_ble_eq_true rfl)) f1 (bi_up (sX11_round e2) (Nat.le_of_ble_eq_true rfl)) f2⟩
  · have e1 := (c_round (x := x) (y := y) (z := z) hn hc hw).2 q
    obtain ⟨s2, e2, f2⟩ := (m_round (x := x) (y := y) (z := z) hn hm hw).2 q
    exact ⟨_, pr_rd (s'' := s2) hg h5 h6 hc hm hw (bi_up (sX10_round e1) (Nat.le_of_ble_eq_true rfl)) frS_r (bi_up (sX11_round e2) (Nat.le_of_ble_eq_true rfl)) f2⟩
theorem p_needed (h : IN s n g) : prI 120 226 [.int x] s n g := by
  obtain ⟨t, A, hc, hm, hw, hg, h5, h6⟩ := h
  have hn := gmS_n hg
  by_cases q : ndOk A x
  · obtain ⟨p, hp, rfl, kp⟩ := q
    have e1 := (c_needed (c := (0 : Int32)) hn hc hw).1 p hp kp
    obtain ⟨s2, e2, f2⟩ := (m_needed (c := (0 : Int32)) hn hm hw).1 p hp kp
    exact ⟨_, pr_rd (s'' := s2) hg h5 h6 hc hm hw (bi_up (sX10_needed e1) (Nat.le_of_ble_eq_true rfl)) frS_r (bi_up (sX11_needed e2) (Nat.le_of_ble_eq_true rfl)) f2⟩
  · have e1 := (c_needed (c := x) hn hc hw).2 q
    obtain ⟨s2, e2, f2⟩ := (m_needed (c := x) hn hm hw).2 q
    exact ⟨_, pr_rd (s'' := s2) hg h5 h6 hc hm hw (bi_up (sX10_needed e1) (Nat.le_of_ble_eq_true rfl)) frS_r (bi_up (sX11_needed e2) (Nat.le_of_ble_eq_true rfl)) f2⟩
theorem p_watch (h : IN s n g) : prI 122 230 [] s n g := by
  obtain ⟨t, A, hc, hm, hw, hg, h5, h6⟩ := h
  have hn := gmS_n hg
  obtain ⟨b1, w1, e1⟩ := c_watch hn hc hw
  obtain ⟨s2, b2, w2, e2, f2⟩ := m_watch hn hm hw
  have eb := wBest_one w2 w1
  subst eb
  exact ⟨_, pr_rd (s'' := s2) hg h5 h6 hc hm hw (bi_up (sX10_watch e1) (Nat.le_of_ble_eq_true rfl)) frS_r (bi_up (sX11_watch e2) (Nat.le_of_ble_eq_true rfl)) f2⟩
theorem p_match (h : IN s n g) : prI 123 232 [.int x] s n g := by
  obtain ⟨t, A, hc, hm, hw, hg, h5, h6⟩ := h
  have hn := gmS_n hg
  cases q : wiV 0 x 4 with
  | true =>
    obtain ⟨k, -, hk, rfl⟩ := wiV_t (by omega) (by omega) q
    obtain ⟨s1, ag, bp, e1, f1, ha⟩ := (c_match (x := (0 : Int32)) hn hc hw).1 k hk
    obtain ⟨s2, e2, f2⟩ := (m_match (x := (0 : Int32)) hn (mK_S2 hm f1) hw).1 k ag bp hk ha
    exact ⟨_, pr_rd (s'' := s2) hg h5 h6 hc hm hw (bi_up (sX10_match e1) (Nat.le_of_ble_eq_true rfl)) f1 (bi_up (sX11_match e2) (Nat.le_of_ble_eq_true rfl)) f2⟩
  | false =>
    have e1 := (c_match (x := x) hn hc hw).2 q
    obtain ⟨s2, e2, f2⟩ := (m_match (x := x) hn hm hw).2 q
    exact ⟨_, pr_rd (s'' := s2) hg h5 h6 hc hm hw (bi_up (sX10_match e1) (Nat.le_of_ble_eq_true rfl)) frS_r (bi_up (sX11_match e2) (Nat.le_of_ble_eq_true rfl)) f2⟩
theorem p_legs (h : IN s n g) : prI 136 256 [.int x] s n g := by
  obtain ⟨t, A, hc, hm, hw, hg, h5, h6⟩ := h
  have hn := gmS_n hg
  have h0 := hw.1.1
  cases q : inR x (aT A 0 2) with
  | true =>
    obtain ⟨w, hw2, rfl⟩ := inR_t (by omega) q
    obtain ⟨s0, F0, l0, -, -⟩ := (m_legs (x := (0 : Int32)) hn hm hw).1 w hw2
    obtain ⟨s1, e1, f1⟩ := (c_legs (x := (0 : Int32)) hn hc hw).1 w F0 hw2 l0
    obtain ⟨s2, F2, l2, e2, f2⟩ := (m_legs (x := (0 : Int32)) hn (mK_S2 hm f1) hw).1 w hw2
    obtain ⟨s3, e3, -⟩ := (c_legs (x := (0 : Int32)) hn hc hw).1 w F2 hw2 l2
    rw [e1] at e3
    have ev := congrArg Prod.fst (Option.some.inj e3)
    have ev : nI (goB F0 10) = nI (goB F2 10) := ev
    rw [← ev] at e2
    exact ⟨_, pr_rd (s'' := s2) hg h5 h6 hc hm hw (bi_up (sX10_legs e1) (Nat.le_of_ble_eq_true rfl)) f1 (bi_up (sX11_legs e2) (Nat.le_of_ble_eq_true rfl)) f2⟩
  | false =>
    have e1 := (c_legs (x := x) hn hc hw).2 q
    obtain ⟨s2, e2, f2⟩ := (m_legs (x := x) hn hm hw).2 q
    exact ⟨_, pr_rd (s'' := s2) hg h5 h6 hc hm hw (bi_up (sX10_legs e1) (Nat.le_of_ble_eq_true rfl)) frS_r (bi_up (sX11_legs e2) (Nat.le_of_ble_eq_true rfl)) f2⟩
theorem p_sit (h : IN s n g) : prI 137 257 [.int x, .int y, .int z] s n g := by
  obtain ⟨t, A, hc, hm, hw, hg, h5, h6⟩ := h
  have hn := gmS_n hg
  have h0 := hw.1.1
  by_cases q : sitOk (aT A) x y z
  · obtain ⟨w, hw2, rfl⟩ := inR_t (by omega) q.1
    obtain ⟨nn, n1, n2, rfl⟩ := wiV_t (by omega) (by omega) q.2.1
    obtain ⟨k, -, hk, rfl⟩ := wiV_t (by omega) (by omega) q.2.2
    obtain ⟨b, rfl⟩ := bl_2 hk
    obtain ⟨s0, F0, l0, -, -⟩ := (m_sit (x := (0 : Int32)) (y := (0 : Int32)) (z := (0 : Int32)) hn hm hw).1 w nn b hw2 n1 n2
    obtain ⟨s1, e1, f1⟩ := (c_sit (x := (0 : Int32)) (y := (0 : Int32)) (z := (0 : Int32)) hn hc hw).1 w nn b F0 hw2 n1 n2 l0
    obtain ⟨s2, F2, l2, e2, f2⟩ := (m_sit (x := (0 : Int32)) (y := (0 : Int32)) (z := (0 : Int32)) hn (mK_S2 hm f1) hw).1 w nn b hw2 n1 n2
    obtain ⟨s3, e3, -⟩ := (c_sit (x := (0 : Int32)) (y := (0 : Int32)) (z := (0 : Int32)) hn hc hw).1 w nn b F2 hw2 n1 n2 l2
    rw [e1] at e3
    have ev := congrArg Prod.fst (Option.some.inj e3)
    have ev : sitV (aT A) w nn F0 b = sitV (aT A) w nn F2 b := ev
    rw [← ev] at e2
    exact ⟨_, pr_rd (s'' := s2) hg h5 h6 hc hm hw (bi_up (sX10_sit e1) (Nat.le_of_ble_eq_true rfl)) f1 (bi_up (sX11_sit e2) (Nat.le_of_ble_eq_true rfl)) f2⟩
  · have e1 := (c_sit (x := x) (y := y) (z := z) hn hc hw).2 q
    obtain ⟨s2, e2, f2⟩ := (m_sit (x := x) (y := y) (z := z) hn hm hw).2 q
    exact ⟨_, pr_rd (s'' := s2) hg h5 h6 hc hm hw (bi_up (sX10_sit e1) (Nat.le_of_ble_eq_true rfl)) frS_r (bi_up (sX11_sit e2) (Nat.le_of_ble_eq_true rfl)) f2⟩
theorem mK_G (hm : mK s A) (e : ∀ a, 187 ≤ a ∧ a ≤ 238 ∨ a = 5 → s'.1 a = s.1 a ∧ s'.2.1 a = s.2.1 a ∧ s'.2.2 a = s.2.2 a) : mK s' A := by
  obtain ⟨h1, h2, h3, h4, h5, h6, h7⟩ := hm
  have e1 : ∀ a, 187 ≤ a → a ≤ 238 → s'.1 a = s.1 a := fun a g1 g2 => (e a (Or.inl ⟨g1, g2⟩)).1
  have e2 : ∀ a, 187 ≤ a → a ≤ 238 → s'.2.1 a = s.2.1 a := fun a g1 g2 => (e a (Or.inl ⟨g1, g2⟩)).2.1
  refine ⟨mTd_fr h1 (fun a j ha => by rw [e1 a (by omega) (by omega)]), ?_, ?_, ?_, ?_, ?_, ?_⟩
  · unfold mSd
    rw [e1 219 (by omega) (by omega), e1 220 (by omega) (by omega), e1 221 (by omega) (by omega), e1 222 (by omega) (by omega), e1 223 (by omega) (by omega), e1 224 (by omega) (by omega), e1 225 (by omega) (by omega), e1 226 (by omega) (by omega), e2 187 (by omega) (by omega)]
    exact h2
  · unfold mIm
    rw [e1 187 (by omega) (by omega), e1 237 (by omega) (by omega), e2 187 (by omega) (by omega)]
    exact h3
  · unfold mPs
    rw [e1 187 (by omega) (by omega), e1 236 (by omega) (by omega)]
    exact h4
  · unfold mBt
    rw [e1 187 (by omega) (by omega), e1 188 (by omega) (by omega)]
    exact h5
  · unfold mFt
    rw [e1 187 (by omega) (by omega)]
    exact h6
  · unfold mSn
    rw [e1 187 (by omega) (by omega), e1 233 (by omega) (by omega)]
    exact h7
theorem p_game (h : IN s n g) : prI 124 238 [.int x, .int y, .int z, .int a] s n g := by
  obtain ⟨t, A, hc, hm, hw, hg, h5, h6⟩ := h
  have hn := gmS_n hg
  have h0 := hw.1.1
  have mk1 : ∀ s1 : zS, s1.2 = s.2 → (∀ b, b < 84 ∨ 86 < b → s1.1 b = s.1 b) → mK s1 A := fun s1 z1 o1 => mK_G hm (fun a' ha' => ⟨o1 a' (by omega), by rw [z1], by rw [z1]⟩)
  have fin : ∀ (r : Int32) (s1 s2 : zS), fX10_game n (mk s) 1 x y z a = some (r, mk s1) → s1.2 = s.2 → (∀ b, b < 84 ∨ 86 < b → s1.1 b = s.1 b) → gI0 s1 → fX11_game n (mk s1) 187 x y z a = some (r, mk s2) → frT s1 s2 → prI 124 238 [.int x, .int y, .int z, .int a] s n g := fun r s1 s2 e1 z1 o1 g1 e2 f2 => by
    have fm := frT_M f2
    refine ⟨r, s1, n, 0, 0, g, s2, (bi_up (sX10_game e1) (Nat.le_of_ble_eq_true rfl)), (bi_up (sX11_game e2) (Nat.le_of_ble_eq_true rfl)), hn, hn, ⟨t, A, cK_M (cK_fr hc (fun a' j _ _ h2 => by rw [o1 a' h2]) (fun a' _ => by rw [z1])) fm, mK_T hw.1 (mk1 s1 z1 o1) f2, hw, ⟨hg.1, ?_⟩, fun k hk => ?_, fun k hk => ?_⟩, by omega, Nat.zero_le _, Nat.zero_le _⟩
    · unfold gI0
      rw [(fm.2 85 (by omega)).1]; exact g1
    · rw [(fm.2 5 (by omega)).1, o1 5 (by omega)]; exact h5 k hk
    · rw [(fm.2 189 (by omega)).1, o1 189 (by omega)]; exact h6 k hk
  by_cases q : gamOk (aT A) x y z a
  · obtain ⟨p, hp, rfl⟩ := inR_t (by omega) q.1
    obtain ⟨p2, hp2, rfl⟩ := inR_t (by omega) q.2.1
    obtain ⟨zb, -, hz, rfl⟩ := wiV_t (by omega) (by omega) q.2.2.2.1
    obtain ⟨wb, -, hw2, rfl⟩ := wiV_t (by omega) (by omega) q.2.2.2.2
    obtain ⟨b, rfl⟩ := bl_2 hz
    obtain ⟨e, rfl⟩ := bl_2 hw2
    have ne : p ≠ p2 := fun h => q.2.2.1 (by rw [h])
    obtain ⟨s1, e1, z1, o1, g1⟩ := (c_game (x := (0 : Int32)) (y := (0 : Int32)) (z := (0 : Int32)) (w := (0 : Int32)) hn hc hw hg.2).1 p p2 b e hp hp2 ne
    obtain ⟨s2, e2, f2⟩ := (m_game (x := (0 : Int32)) (y := (0 : Int32)) (z := (0 : Int32)) (w := (0 : Int32)) hn (mk1 s1 z1 o1) hw).1 p p2 b e hp hp2 ne
    exact fin _ s1 s2 e1 z1 o1 g1 e2 f2
  · have e1 := (c_game (x := x) (y := y) (z := z) (w := a) hn hc hw hg.2).2 q
    obtain ⟨s2, e2, f2⟩ := (m_game (x := x) (y := y) (z := z) (w := a) hn hm hw).2 q
    exact fin _ s s2 e1 rfl (fun _ _ => rfl) hg.2 e2 f2
theorem p_text (h : IN s n g) : prI 91 168 [.int x] s n g := by
  obtain ⟨t, A, hc, hm, hw, hg, h5, h6⟩ := h
  have hn := gmS_n hg
  have hB := hw.2.2.2.2.1.1
  by_cases q : x < 0 ∨ nI (aB A).1 < x
  · have b1 := c_textN hn hc hw q
    have w2 : ∀ (s : zS) (x : Int32), sF n (mk s) 187 11 2 .int (.int x) = some (mk (wI s 187 2 x)) := fun s x => by simp only [B_m hn]
    have p1 : ∀ s, pI n (mk s) 187 11 1 = some (s.1 187 1) := fun s => by simp only [B_m hn]
    have f2 : frT s (wI s 187 2 (nI 0)) := frT_w (by unfold scM; omega)
    have e2 : fX11_text n (mk s) 187 x = some (-2, mk (wI s 187 2 (nI 0))) := by
      unfold fX11_text
      rw [(B_m hn).1, Option.bind_some]
      show ((sF n (mk s) 187 11 2 .int (.int (nI 0))).bind _) = _
      rw [w2, Option.bind_some]
      by_cases q0 : x < 0
      · rw [if_pos q0]
      · rw [if_neg q0, p1, Option.bind_some, wI_at, upd_ne (by omega), hm.2.2.2.2.1.1, if_neg (fun g => ?_)]
        have q1 : nI (aB A).1 < x := by
          rcases q with q | q
          · exact absurd q q0
          · exact q
        rw [Int32.le_iff_toInt_le] at g
        rw [Int32.lt_iff_toInt_lt] at q1
        omega
    exact ⟨_, pr_rd (s'' := wI s 187 2 (nI 0)) hg h5 h6 hc hm hw b1 frS_r (bi_up (sX11_text e2) (Nat.le_of_ble_eq_true rfl)) f2⟩
  · have q1 : wiV 0 x (aB A).1 = true := by
      unfold wiV
      refine decide_eq_true ⟨?_, ?_⟩
      · rw [Int32.le_iff_toInt_le]
        have : ¬ x < nI 0 := fun h => q (Or.inl h)
        rw [Int32.lt_iff_toInt_lt] at this
        omega
      · rw [Int32.le_iff_toInt_le]
        have : ¬ nI (aB A).1 < x := fun h => q (Or.inr h)
        rw [Int32.lt_iff_toInt_lt] at this
        omega
    obtain ⟨N, -, hN, rfl⟩ := wiV_t (by omega) (by omega) q1
    obtain ⟨s0, -, -, -, wf0⟩ := m_textC (N := N) hn h6 hm hw hN
    obtain ⟨s1, t1, c1, sl1, b1, b2, b3, b4, b5⟩ := c_textC (N := N) hn h5 hc hw wf0.1 hN
    have h61 : ∀ k, k < 108 → s1.1 189 k = nI (WC k) := fun k hk => by rw [(b4.1 189 (Or.inl (by omega))).1]; exact h6 k hk
    obtain ⟨s2, e2, f2, k2, wf2⟩ := m_textC (N := N) (s := s1) hn h61 (mK_C hm b4) hw hN
    refine ⟨_, s1, n, c1, sl1, g, s2, b1, (bi_up (sX11_text e2) (Nat.le_of_ble_eq_true rfl)), hn, hn, ⟨t1, _, cK_M b5 f2, k2, wf2, gmS_f hg ?_, fun k hk => ?_, fun k hk => ?_⟩, by omega, by omega, by omega⟩
    · rw [(f2.2 85 (by omega)).1, (b4.1 85 (Or.inr (Or.inr rfl))).1]
    · rw [(f2.2 5 (by omega)).1, (b4.1 5 (Or.inr (Or.inl rfl))).1]; exact h5 k hk
    · rw [(f2.2 189 (by omega)).1]; exact h61 k hk
end Pk
