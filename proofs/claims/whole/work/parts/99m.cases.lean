/-! ===== the law's cases ===== -/
def okO (o : ai_Ou) : Prop := o.1 = .inl (some (.int 1)) ∧ o.2.2.2.1 ≤ 600128 ∧ o.2.2.2.2 ≤ 7301098
def nx (L : Nat) (xs : Nat → Int32) (pc : Nat) (lv : ai_L) (r : ai_Hp) : Prop := ∃ o, okO o ∧ lz 308 (tL_law L xs) (fun _ _ => some none) o pc lv [] r
def lvF (lv : ai_L) (i : Nat) : Prop := ai_ld 0 lv = some (.ref 0) ∧ ai_ld 1 lv = some (.ref 1) ∧ ai_ld 2 lv = some (.ref 187) ∧ ai_ld 3 lv = some (.ref 238) ∧ ai_ld 4 lv = some (.int (nI i))
/-- what comes after a call -/
def aft (L : Nat) (xs : Nat → Int32) (i g c sl : Nat) : Prop := ∀ (lv' : ai_L) (s' : zS) (n' c' sl' g' : Nat), lvF lv' i → IN s' n' g' → g' ≤ g + 1 → c' ≤ c + 3 → sl' ≤ sl + 20199 → nx L xs 1485 lv' (mk s', n', c', sl')
section Lm
variable {L i g c sl n : Nat} {xs : Nat → Int32} {lv : ai_L} {s : zS}
theorem IN_n (h : IN s n g) : 239 ≤ n := by
  obtain ⟨_, _, _, _, _, hg, _, _⟩ := h
  exact gmS_n hg
theorem mK_G2 {s' : zS} {A : zA} (hm : mK s A) (e1 : s'.1 = s.1) (e2 : ∀ a, a ≠ 238 → s'.2.1 a = s.2.1 a) : mK s' A := by
  obtain ⟨h1, h2, h3, h4, h5, h6, h7⟩ := hm
  refine ⟨by rw [e1]; exact h1, ?_, ?_, ?_, ?_, ?_, ?_⟩
  · unfold mSd
    rw [e1, e2 187 (by omega)]
    exact h2
  · unfold mIm
    rw [e1, e2 187 (by omega)]
    exact h3
  · unfold mPs
    rw [e1]
    exact h4
  · unfold mBt
    rw [e1]
    exact h5
  · unfold mFt
    rw [e1]
    exact h6
  · unfold mSn
    rw [e1]
    exact h7
set_option maxRecDepth 20000 in
theorem lc_4 (hl : lvF lv i) (hi : i + 6 ≤ L) (hL : L ≤ 384) (hI : IN s n g) (h8 : g < 800) (H : aft L xs i g c sl) : nx L xs 360 lv (mk s, n, c, sl) := by
  obtain ⟨l0, l1, l2, l3, l4⟩ := hl
  obtain ⟨t, A, hc, hm, hw, hg, h5, h6⟩ := hI
  have hn := gmS_n hg
  -- the reference, after the class
  have key : ∀ (sa : zS) (k v : Int32) (c1 sl1 : Nat), c1 ≤ 3 → sl1 ≤ 20199 → bi_sp 308 270 [.ref 1, .int (xs (i + 1)), .int (xs (i + 2)), .ref 238] (mk s) n (.inl (some (.int k)), mk sa, n, c1, sl1) → sa.1 = s.1 → sa.2.2 = s.2.2 → (∀ a, a ≠ 238 → sa.2.1 a = s.2.1 a) → (∃ sb : zS, fX11_path n (mk sa) 187 (xs (i + 1)) (xs (i + 2)) = some (v, mk sb) ∧ frT sa sb ∧ sb.1 187 2 = k) → (k = 0 → sa.2.1 238 0 = v.toInt64) → nx L xs 360 lv (mk s, n, c, sl) := by
    rintro sa k v c1 sl1 hc1 hs1 b1 ea eq ej ⟨sb, e2, f2, k2⟩ hv
    have fm := frT_M f2
    have cKa : cK sa t A := cK_fr hc (fun a j _ _ _ => by rw [ea]) (fun a _ => by rw [eq])
    have mKa : mK sa A := mK_G2 hm ea ej
    have th : fX11_thrown n (mk sb) 187 = some (k, mk sb) := by
      unfold fX11_thrown
      have p2 : pI n (mk sb) 187 11 2 = some (sb.1 187 2) := by simp only [B_m hn]
      rw [(B_m hn).1, Option.bind_some, p2, Option.bind_some, k2]
    have sb238 : sb.2.1 238 0 = sa.2.1 238 0 := by rw [(fm.2 238 (by omega)).2]
    have IN2 : IN sb n g := by
      refine ⟨t, A, cK_M cKa fm, mK_T hw.1 mKa f2, hw, gmS_f hg (by rw [(fm.2 85 (by omega)).1, ea]), fun j hj => ?_, fun j hj => ?_⟩
      · rw [(fm.2 5 (by omega)).1, ea]; exact h5 j hj
      · rw [(fm.2 189 (by omega)).1, ea]; exact h6 j hj
    have lf : lvF (ai_s1 6 (.int v) (ai_s1 5 (.int k) lv)) i := ⟨bi_k1 (bi_k1 l0 rfl rfl) rfl rfl, bi_k1 (bi_k1 l1 rfl rfl) rfl rfl, bi_k1 (bi_k1 l2 rfl rfl) rfl rfl, bi_k1 (bi_k1 l3 rfl rfl) rfl rfl, bi_k1 (bi_k1 l4 rfl rfl) rfl rfl⟩
    have l5' : ai_ld 5 (ai_s1 6 (.int v) (ai_s1 5 (.int k) lv)) = some (.int k) := bi_k1 bi_e1 rfl rfl
    have l6' : ai_ld 6 (ai_s1 6 (.int v) (ai_s1 5 (.int k) lv)) = some (.int v) := bi_e1
    obtain ⟨o, ok, l⟩ := H _ sb n (c + c1 + 0 + 0) (sl + sl1 + 0 + 0) g lf IN2 (by omega) (by omega) (by omega)
    refine ⟨o, ok, ?_⟩
    refine lz_al (pc := 360) rfl l1 ?_
    refine lz_arg (pc := 361) (L := L) (xs := xs) (k := 1) rfl rfl rfl rfl rfl rfl l0 l4 (by omega) hL ?_
    refine lz_arg (pc := 367) (L := L) (xs := xs) (k := 2) rfl rfl rfl rfl rfl rfl l0 l4 (by omega) hL ?_
    refine lz_al (pc := 373) rfl l3 (lz_iS (v := some _) rfl (Nat.le_of_ble_eq_true rfl) rfl (Nat.le_of_ble_eq_true rfl) b1 (lz_is rfl ?_))
    refine lz_al (pc := 379) rfl (bi_k1 l2 rfl rfl) ?_
    refine lz_arg (pc := 380) (L := L) (xs := xs) (k := 1) rfl rfl rfl rfl rfl rfl (bi_k1 l0 rfl rfl) (bi_k1 l4 rfl rfl) (by omega) hL ?_
    refine lz_arg (pc := 386) (L := L) (xs := xs) (k := 2) rfl rfl rfl rfl rfl rfl (bi_k1 l0 rfl rfl) (bi_k1 l4 rfl rfl) (by omega) hL ?_
    refine lz_iv (pc := 392) (v := some _) rfl rfl ((B_m hn).1 sa) (Nat.le_of_ble_eq_true rfl) (bi_up (sX11_path e2) (Nat.le_of_ble_eq_true rfl)) (lz_is rfl ?_)
    refine lz_al (pc := 397) rfl lf.2.2.1 (lz_iv (v := some _) rfl rfl ((B_m hn).1 sb) (Nat.le_of_ble_eq_true rfl) (bi_up (sX11_thrown th) (Nat.le_of_ble_eq_true rfl)) ?_)
    refine lz_il (pc := 401) rfl l5' (lz_b2t rfl (decide_eq_true rfl) (lz_il rfl l5' ?_))
    by_cases k0 : k = 0
    · refine lz_b1f (pc := 410) rfl (decide_eq_false (fun h => h k0)) (lz_al rfl lf.2.2.2.1 (lz_pi rfl (lz_lald rfl (g238 hn) (lz_il rfl l6' (lz_st (f := ai_i2l) rfl rfl (lz_st (f := ai_lI lg_cmp) rfl rfl ?_))))))
      exact lz_b1t (pc := 420) rfl (by rw [sb238, hv k0, lg_self]; rfl) (lz_goto rfl l)
    · exact lz_b1t (pc := 410) rfl (decide_eq_true k0) (lz_goto rfl l)
  rcases l_path (x := xs (i + 1)) (y := xs (i + 2)) hn hc hw with ⟨v, ⟨p, hp, ex, pv⟩, b1⟩ | ⟨⟨p, hp, ex, pv⟩, b1⟩ | ⟨q, b1⟩
  · refine key _ 0 v 0 0 (by omega) (by omega) (bi_up b1 (Nat.le_of_ble_eq_true rfl)) rfl rfl (fun a ha => wL_ne ha) ?_ (fun _ => by rw [wL_g, if_pos ⟨rfl, rfl⟩])
    have mKa : mK (wL s 238 0 v.toInt64) A := mK_G2 hm rfl (fun a ha => wL_ne ha)
    obtain ⟨sb, e2, f2, k2⟩ := m_path (y := xs (i + 2)) hn mKa hw hp
    rw [pv] at e2 k2
    rw [← ex] at e2
    exact ⟨sb, e2, f2, k2⟩
  · refine key s 2 0 1 6 (by omega) (by omega) (bi_up b1 (Nat.le_of_ble_eq_true rfl)) rfl rfl (fun _ _ => rfl) ?_ (fun h => absurd h (by decide))
    obtain ⟨sb, e2, f2, k2⟩ := m_path (y := xs (i + 2)) hn hm hw hp
    rw [pv] at e2 k2
    rw [← ex] at e2
    exact ⟨sb, e2, f2, k2⟩
  · refine key s 1 0 1 6 (by omega) (by omega) (bi_up b1 (Nat.le_of_ble_eq_true rfl)) rfl rfl (fun _ _ => rfl) ?_ (fun h => absurd h (by decide))
    exact m_pathX (y := xs (i + 2)) hn hm hw q
set_option maxRecDepth 20000 in
theorem lc_0 (hl : lvF lv i) (hi : i + 6 ≤ L) (hL : L ≤ 384) (hI : IN s n g) (h8 : g < 800) (H : aft L xs i g c sl) : nx L xs 200 lv (mk s, n, c, sl) := by
  obtain ⟨l0, l1, l2, l3, l4⟩ := hl
  obtain ⟨r, s1, n1, c1, sl1, g1, s2, b1, b2, hn, hn1, i1, i2, i3, i4⟩ := p_feed (a := xs (i + 1)) (b := xs (i + 2)) (c := xs (i + 3)) (d := xs (i + 4)) (e := xs (i + 5)) hI
  obtain ⟨o, ok, l⟩ := H lv s2 n1 (c + c1 + 0) (sl + sl1 + 0) g1 ⟨l0, l1, l2, l3, l4⟩ i1 i2 (by omega) (by omega)
  refine ⟨o, ok, ?_⟩
  refine lz_al (pc := 200) rfl l1 ?_
  refine lz_arg (pc := 201) (L := L) (xs := xs) (k := 1) rfl rfl rfl rfl rfl rfl l0 l4 (by omega) hL ?_
  refine lz_arg (pc := 207) (L := L) (xs := xs) (k := 2) rfl rfl rfl rfl rfl rfl l0 l4 (by omega) hL ?_
  refine lz_arg (pc := 213) (L := L) (xs := xs) (k := 3) rfl rfl rfl rfl rfl rfl l0 l4 (by omega) hL ?_
  refine lz_arg (pc := 219) (L := L) (xs := xs) (k := 4) rfl rfl rfl rfl rfl rfl l0 l4 (by omega) hL ?_
  refine lz_arg (pc := 225) (L := L) (xs := xs) (k := 5) rfl rfl rfl rfl rfl rfl l0 l4 (by omega) hL ?_
  refine lz_iv (pc := 231) (v := some _) rfl rfl ((B_K hn).1 s) (Nat.le_of_ble_eq_true rfl) b1 ?_
  refine lz_al (pc := 234) rfl l2 ?_
  refine lz_arg (pc := 235) (L := L) (xs := xs) (k := 1) rfl rfl rfl rfl rfl rfl l0 l4 (by omega) hL ?_
  refine lz_arg (pc := 241) (L := L) (xs := xs) (k := 2) rfl rfl rfl rfl rfl rfl l0 l4 (by omega) hL ?_
  refine lz_arg (pc := 247) (L := L) (xs := xs) (k := 3) rfl rfl rfl rfl rfl rfl l0 l4 (by omega) hL ?_
  refine lz_arg (pc := 253) (L := L) (xs := xs) (k := 4) rfl rfl rfl rfl rfl rfl l0 l4 (by omega) hL ?_
  refine lz_arg (pc := 259) (L := L) (xs := xs) (k := 5) rfl rfl rfl rfl rfl rfl l0 l4 (by omega) hL ?_
  refine lz_iv (pc := 265) (v := some _) rfl rfl ((B_m hn1).1 s1) (Nat.le_of_ble_eq_true rfl) b2 ?_
  exact lz_b2t (pc := 268) rfl (decide_eq_true rfl) l
set_option maxRecDepth 20000 in
theorem lc_1 (hl : lvF lv i) (hi : i + 6 ≤ L) (hL : L ≤ 384) (hI : IN s n g) (h8 : g < 800) (H : aft L xs i g c sl) : nx L xs 273 lv (mk s, n, c, sl) := by
  obtain ⟨l0, l1, l2, l3, l4⟩ := hl
  obtain ⟨r, s1, n1, c1, sl1, g1, s2, b1, b2, hn, hn1, i1, i2, i3, i4⟩ := p_text (x := xs (i + 1)) hI
  obtain ⟨o, ok, l⟩ := H lv s2 n1 (c + c1 + 0) (sl + sl1 + 0) g1 ⟨l0, l1, l2, l3, l4⟩ i1 i2 (by omega) (by omega)
  refine ⟨o, ok, ?_⟩
  refine lz_al (pc := 273) rfl l1 ?_
  refine lz_arg (pc := 274) (L := L) (xs := xs) (k := 1) rfl rfl rfl rfl rfl rfl l0 l4 (by omega) hL ?_
  refine lz_iv (pc := 280) (v := some _) rfl rfl ((B_K hn).1 s) (Nat.le_of_ble_eq_true rfl) b1 ?_
  refine lz_al (pc := 283) rfl l2 ?_
  refine lz_arg (pc := 284) (L := L) (xs := xs) (k := 1) rfl rfl rfl rfl rfl rfl l0 l4 (by omega) hL ?_
  refine lz_iv (pc := 290) (v := some _) rfl rfl ((B_m hn1).1 s1) (Nat.le_of_ble_eq_true rfl) b2 ?_
  exact lz_b2t (pc := 293) rfl (decide_eq_true rfl) l
set_option maxRecDepth 20000 in
theorem lc_2 (hl : lvF lv i) (hi : i + 6 ≤ L) (hL : L ≤ 384) (hI : IN s n g) (h8 : g < 800) (H : aft L xs i g c sl) : nx L xs 298 lv (mk s, n, c, sl) := by
  obtain ⟨l0, l1, l2, l3, l4⟩ := hl
  obtain ⟨r, s1, n1, c1, sl1, g1, s2, b1, b2, hn, hn1, i1, i2, i3, i4⟩ := p_fault (x := xs (i + 1)) hI
  obtain ⟨o, ok, l⟩ := H lv s2 n1 (c + c1 + 0) (sl + sl1 + 0) g1 ⟨l0, l1, l2, l3, l4⟩ i1 i2 (by omega) (by omega)
  refine ⟨o, ok, ?_⟩
  refine lz_al (pc := 298) rfl l1 ?_
  refine lz_arg (pc := 299) (L := L) (xs := xs) (k := 1) rfl rfl rfl rfl rfl rfl l0 l4 (by omega) hL ?_
  refine lz_iv (pc := 305) (v := some _) rfl rfl ((B_K hn).1 s) (Nat.le_of_ble_eq_true rfl) b1 ?_
  refine lz_al (pc := 308) rfl l2 ?_
  refine lz_arg (pc := 309) (L := L) (xs := xs) (k := 1) rfl rfl rfl rfl rfl rfl l0 l4 (by omega) hL ?_
  refine lz_iv (pc := 315) (v := some _) rfl rfl ((B_m hn1).1 s1) (Nat.le_of_ble_eq_true rfl) b2 ?_
  exact lz_b2t (pc := 318) rfl (decide_eq_true rfl) l
set_option maxRecDepth 20000 in
theorem lc_3 (hl : lvF lv i) (hi : i + 6 ≤ L) (hL : L ≤ 384) (hI : IN s n g) (h8 : g < 800) (H : aft L xs i g c sl) : nx L xs 323 lv (mk s, n, c, sl) := by
  obtain ⟨l0, l1, l2, l3, l4⟩ := hl
  obtain ⟨r, s1, n1, c1, sl1, g1, s2, b1, b2, hn, hn1, i1, i2, i3, i4⟩ := p_named (x := xs (i + 1)) (y := xs (i + 2)) hI
  obtain ⟨o, ok, l⟩ := H lv s2 n1 (c + c1 + 0) (sl + sl1 + 0) g1 ⟨l0, l1, l2, l3, l4⟩ i1 i2 (by omega) (by omega)
  refine ⟨o, ok, ?_⟩
  refine lz_al (pc := 323) rfl l1 ?_
  refine lz_arg (pc := 324) (L := L) (xs := xs) (k := 1) rfl rfl rfl rfl rfl rfl l0 l4 (by omega) hL ?_
  refine lz_arg (pc := 330) (L := L) (xs := xs) (k := 2) rfl rfl rfl rfl rfl rfl l0 l4 (by omega) hL ?_
  refine lz_iv (pc := 336) (v := some _) rfl rfl ((B_K hn).1 s) (Nat.le_of_ble_eq_true rfl) b1 ?_
  refine lz_al (pc := 339) rfl l2 ?_
  refine lz_arg (pc := 340) (L := L) (xs := xs) (k := 1) rfl rfl rfl rfl rfl rfl l0 l4 (by omega) hL ?_
  refine lz_arg (pc := 346) (L := L) (xs := xs) (k := 2) rfl rfl rfl rfl rfl rfl l0 l4 (by omega) hL ?_
  refine lz_iv (pc := 352) (v := some _) rfl rfl ((B_m hn1).1 s1) (Nat.le_of_ble_eq_true rfl) b2 ?_
  exact lz_b2t (pc := 355) rfl (decide_eq_true rfl) l
set_option maxRecDepth 20000 in
theorem lc_5 (hl : lvF lv i) (hi : i + 6 ≤ L) (hL : L ≤ 384) (hI : IN s n g) (h8 : g < 800) (H : aft L xs i g c sl) : nx L xs 428 lv (mk s, n, c, sl) := by
  obtain ⟨l0, l1, l2, l3, l4⟩ := hl
  obtain ⟨r, s1, n1, c1, sl1, g1, s2, b1, b2, hn, hn1, i1, i2, i3, i4⟩ := p_walker (x := xs (i + 1)) (y := xs (i + 2)) hI
  obtain ⟨o, ok, l⟩ := H lv s2 n1 (c + c1 + 0) (sl + sl1 + 0) g1 ⟨l0, l1, l2, l3, l4⟩ i1 i2 (by omega) (by omega)
  refine ⟨o, ok, ?_⟩
  refine lz_al (pc := 428) rfl l1 ?_
  refine lz_arg (pc := 429) (L := L) (xs := xs) (k := 1) rfl rfl rfl rfl rfl rfl l0 l4 (by omega) hL ?_
  refine lz_arg (pc := 435) (L := L) (xs := xs) (k := 2) rfl rfl rfl rfl rfl rfl l0 l4 (by omega) hL ?_
  refine lz_iv (pc := 441) (v := some _) rfl rfl ((B_K hn).1 s) (Nat.le_of_ble_eq_true rfl) b1 ?_
  refine lz_al (pc := 444) rfl l2 ?_
  refine lz_arg (pc := 445) (L := L) (xs := xs) (k := 1) rfl rfl rfl rfl rfl rfl l0 l4 (by omega) hL ?_
  refine lz_arg (pc := 451) (L := L) (xs := xs) (k := 2) rfl rfl rfl rfl rfl rfl l0 l4 (by omega) hL ?_
  refine lz_iv (pc := 457) (v := some _) rfl rfl ((B_m hn1).1 s1) (Nat.le_of_ble_eq_true rfl) b2 ?_
  exact lz_b2t (pc := 460) rfl (decide_eq_true rfl) l
set_option maxRecDepth 20000 in
theorem lc_6 (hl : lvF lv i) (hi : i + 6 ≤ L) (hL : L ≤ 384) (hI : IN s n g) (h8 : g < 800) (H : aft L xs i g c sl) : nx L xs 465 lv (mk s, n, c, sl) := by
  obtain ⟨l0, l1, l2, l3, l4⟩ := hl
  obtain ⟨r, s1, n1, c1, sl1, g1, s2, b1, b2, hn, hn1, i1, i2, i3, i4⟩ := p_law (x := xs (i + 1)) (y := xs (i + 2)) (z := xs (i + 3)) hI
  obtain ⟨o, ok, l⟩ := H lv s2 n1 (c + c1 + 0) (sl + sl1 + 0) g1 ⟨l0, l1, l2, l3, l4⟩ i1 i2 (by omega) (by omega)
  refine ⟨o, ok, ?_⟩
  refine lz_al (pc := 465) rfl l1 ?_
  refine lz_arg (pc := 466) (L := L) (xs := xs) (k := 1) rfl rfl rfl rfl rfl rfl l0 l4 (by omega) hL ?_
  refine lz_arg (pc := 472) (L := L) (xs := xs) (k := 2) rfl rfl rfl rfl rfl rfl l0 l4 (by omega) hL ?_
  refine lz_arg (pc := 478) (L := L) (xs := xs) (k := 3) rfl rfl rfl rfl rfl rfl l0 l4 (by omega) hL ?_
  refine lz_iv (pc := 484) (v := some _) rfl rfl ((B_K hn).1 s) (Nat.le_of_ble_eq_true rfl) b1 ?_
  refine lz_al (pc := 487) rfl l2 ?_
  refine lz_arg (pc := 488) (L := L) (xs := xs) (k := 1) rfl rfl rfl rfl rfl rfl l0 l4 (by omega) hL ?_
  refine lz_arg (pc := 494) (L := L) (xs := xs) (k := 2) rfl rfl rfl rfl rfl rfl l0 l4 (by omega) hL ?_
  refine lz_arg (pc := 500) (L := L) (xs := xs) (k := 3) rfl rfl rfl rfl rfl rfl l0 l4 (by omega) hL ?_
  refine lz_iv (pc := 506) (v := some _) rfl rfl ((B_m hn1).1 s1) (Nat.le_of_ble_eq_true rfl) b2 ?_
  refine lz_st (f := ai_lI lg_cmp) (pc := 509) rfl rfl ?_
  exact lz_b1t (pc := 510) rfl (by rw [lg_self]; rfl) l
set_option maxRecDepth 20000 in
theorem lc_7 (hl : lvF lv i) (hi : i + 6 ≤ L) (hL : L ≤ 384) (hI : IN s n g) (h8 : g < 800) (H : aft L xs i g c sl) : nx L xs 515 lv (mk s, n, c, sl) := by
  obtain ⟨l0, l1, l2, l3, l4⟩ := hl
  obtain ⟨r, s1, n1, c1, sl1, g1, s2, b1, b2, hn, hn1, i1, i2, i3, i4⟩ := p_walk (x := xs (i + 1)) (y := xs (i + 2)) hI
  obtain ⟨o, ok, l⟩ := H lv s2 n1 (c + c1 + 0) (sl + sl1 + 0) g1 ⟨l0, l1, l2, l3, l4⟩ i1 i2 (by omega) (by omega)
  refine ⟨o, ok, ?_⟩
  refine lz_al (pc := 515) rfl l1 ?_
  refine lz_arg (pc := 516) (L := L) (xs := xs) (k := 1) rfl rfl rfl rfl rfl rfl l0 l4 (by omega) hL ?_
  refine lz_arg (pc := 522) (L := L) (xs := xs) (k := 2) rfl rfl rfl rfl rfl rfl l0 l4 (by omega) hL ?_
  refine lz_iv (pc := 528) (v := some _) rfl rfl ((B_K hn).1 s) (Nat.le_of_ble_eq_true rfl) b1 ?_
  refine lz_al (pc := 531) rfl l2 ?_
  refine lz_arg (pc := 532) (L := L) (xs := xs) (k := 1) rfl rfl rfl rfl rfl rfl l0 l4 (by omega) hL ?_
  refine lz_arg (pc := 538) (L := L) (xs := xs) (k := 2) rfl rfl rfl rfl rfl rfl l0 l4 (by omega) hL ?_
  refine lz_iv (pc := 544) (v := some _) rfl rfl ((B_m hn1).1 s1) (Nat.le_of_ble_eq_true rfl) b2 ?_
  exact lz_b2t (pc := 547) rfl (decide_eq_true rfl) l
set_option maxRecDepth 20000 in
theorem lc_8 (hl : lvF lv i) (hi : i + 6 ≤ L) (hL : L ≤ 384) (hI : IN s n g) (h8 : g < 800) (H : aft L xs i g c sl) : nx L xs 552 lv (mk s, n, c, sl) := by
  obtain ⟨l0, l1, l2, l3, l4⟩ := hl
  obtain ⟨r, s1, n1, c1, sl1, g1, s2, b1, b2, hn, hn1, i1, i2, i3, i4⟩ := p_mow (x := xs (i + 1)) hI
  obtain ⟨o, ok, l⟩ := H lv s2 n1 (c + c1 + 0) (sl + sl1 + 0) g1 ⟨l0, l1, l2, l3, l4⟩ i1 i2 (by omega) (by omega)
  refine ⟨o, ok, ?_⟩
  refine lz_al (pc := 552) rfl l1 ?_
  refine lz_arg (pc := 553) (L := L) (xs := xs) (k := 1) rfl rfl rfl rfl rfl rfl l0 l4 (by omega) hL ?_
  refine lz_iv (pc := 559) (v := some _) rfl rfl ((B_K hn).1 s) (Nat.le_of_ble_eq_true rfl) b1 ?_
  refine lz_al (pc := 562) rfl l2 ?_
  refine lz_arg (pc := 563) (L := L) (xs := xs) (k := 1) rfl rfl rfl rfl rfl rfl l0 l4 (by omega) hL ?_
  refine lz_iv (pc := 569) (v := some _) rfl rfl ((B_m hn1).1 s1) (Nat.le_of_ble_eq_true rfl) b2 ?_
  exact lz_b2t (pc := 572) rfl (decide_eq_true rfl) l
set_option maxRecDepth 20000 in
theorem lc_9 (hl : lvF lv i) (hi : i + 6 ≤ L) (hL : L ≤ 384) (hI : IN s n g) (h8 : g < 800) (H : aft L xs i g c sl) : nx L xs 577 lv (mk s, n, c, sl) := by
  obtain ⟨l0, l1, l2, l3, l4⟩ := hl
  obtain ⟨r, s1, n1, c1, sl1, g1, s2, b1, b2, hn, hn1, i1, i2, i3, i4⟩ := p_carry (x := xs (i + 1)) (y := xs (i + 2)) hI
  obtain ⟨o, ok, l⟩ := H lv s2 n1 (c + c1 + 0) (sl + sl1 + 0) g1 ⟨l0, l1, l2, l3, l4⟩ i1 i2 (by omega) (by omega)
  refine ⟨o, ok, ?_⟩
  refine lz_al (pc := 577) rfl l1 ?_
  refine lz_arg (pc := 578) (L := L) (xs := xs) (k := 1) rfl rfl rfl rfl rfl rfl l0 l4 (by omega) hL ?_
  refine lz_arg (pc := 584) (L := L) (xs := xs) (k := 2) rfl rfl rfl rfl rfl rfl l0 l4 (by omega) hL ?_
  refine lz_iv (pc := 590) (v := some _) rfl rfl ((B_K hn).1 s) (Nat.le_of_ble_eq_true rfl) b1 ?_
  refine lz_al (pc := 593) rfl l2 ?_
  refine lz_arg (pc := 594) (L := L) (xs := xs) (k := 1) rfl rfl rfl rfl rfl rfl l0 l4 (by omega) hL ?_
  refine lz_arg (pc := 600) (L := L) (xs := xs) (k := 2) rfl rfl rfl rfl rfl rfl l0 l4 (by omega) hL ?_
  refine lz_iv (pc := 606) (v := some _) rfl rfl ((B_m hn1).1 s1) (Nat.le_of_ble_eq_true rfl) b2 ?_
  exact lz_b2t (pc := 609) rfl (decide_eq_true rfl) l
set_option maxRecDepth 20000 in
theorem lc_10 (hl : lvF lv i) (hi : i + 6 ≤ L) (hL : L ≤ 384) (hI : IN s n g) (h8 : g < 800) (H : aft L xs i g c sl) : nx L xs 614 lv (mk s, n, c, sl) := by
  obtain ⟨l0, l1, l2, l3, l4⟩ := hl
  obtain ⟨r, s1, n1, c1, sl1, g1, s2, b1, b2, hn, hn1, i1, i2, i3, i4⟩ := p_go (x := xs (i + 1)) hI
  obtain ⟨o, ok, l⟩ := H lv s2 n1 (c + c1 + 0) (sl + sl1 + 0) g1 ⟨l0, l1, l2, l3, l4⟩ i1 i2 (by omega) (by omega)
  refine ⟨o, ok, ?_⟩
  refine lz_al (pc := 614) rfl l1 ?_
  refine lz_arg (pc := 615) (L := L) (xs := xs) (k := 1) rfl rfl rfl rfl rfl rfl l0 l4 (by omega) hL ?_
  refine lz_iv (pc := 621) (v := some _) rfl rfl ((B_K hn).1 s) (Nat.le_of_ble_eq_true rfl) b1 ?_
  refine lz_al (pc := 624) rfl l2 ?_
  refine lz_arg (pc := 625) (L := L) (xs := xs) (k := 1) rfl rfl rfl rfl rfl rfl l0 l4 (by omega) hL ?_
  refine lz_iv (pc := 631) (v := some _) rfl rfl ((B_m hn1).1 s1) (Nat.le_of_ble_eq_true rfl) b2 ?_
  exact lz_b2t (pc := 634) rfl (decide_eq_true rfl) l
set_option maxRecDepth 20000 in
theorem lc_11 (hl : lvF lv i) (hi : i + 6 ≤ L) (hL : L ≤ 384) (hI : IN s n g) (h8 : g < 800) (H : aft L xs i g c sl) : nx L xs 639 lv (mk s, n, c, sl) := by
  obtain ⟨l0, l1, l2, l3, l4⟩ := hl
  obtain ⟨r, s1, n1, c1, sl1, g1, s2, b1, b2, hn, hn1, i1, i2, i3, i4⟩ := p_ahead (x := xs (i + 1)) (y := xs (i + 2)) (z := xs (i + 3)) hI
  obtain ⟨o, ok, l⟩ := H lv s2 n1 (c + c1 + 0) (sl + sl1 + 0) g1 ⟨l0, l1, l2, l3, l4⟩ i1 i2 (by omega) (by omega)
  refine ⟨o, ok, ?_⟩
  refine lz_al (pc := 639) rfl l1 ?_
  refine lz_arg (pc := 640) (L := L) (xs := xs) (k := 1) rfl rfl rfl rfl rfl rfl l0 l4 (by omega) hL ?_
  refine lz_arg (pc := 646) (L := L) (xs := xs) (k := 2) rfl rfl rfl rfl rfl rfl l0 l4 (by omega) hL ?_
  refine lz_arg (pc := 652) (L := L) (xs := xs) (k := 3) rfl rfl rfl rfl rfl rfl l0 l4 (by omega) hL ?_
  refine lz_iv (pc := 658) (v := some _) rfl rfl ((B_K hn).1 s) (Nat.le_of_ble_eq_true rfl) b1 ?_
  refine lz_al (pc := 661) rfl l2 ?_
  refine lz_arg (pc := 662) (L := L) (xs := xs) (k := 1) rfl rfl rfl rfl rfl rfl l0 l4 (by omega) hL ?_
  refine lz_arg (pc := 668) (L := L) (xs := xs) (k := 2) rfl rfl rfl rfl rfl rfl l0 l4 (by omega) hL ?_
  refine lz_arg (pc := 674) (L := L) (xs := xs) (k := 3) rfl rfl rfl rfl rfl rfl l0 l4 (by omega) hL ?_
  refine lz_iv (pc := 680) (v := some _) rfl rfl ((B_m hn1).1 s1) (Nat.le_of_ble_eq_true rfl) b2 ?_
  exact lz_b2t (pc := 683) rfl (decide_eq_true rfl) l
set_option maxRecDepth 20000 in
theorem lc_12 (hl : lvF lv i) (hi : i + 6 ≤ L) (hL : L ≤ 384) (hI : IN s n g) (h8 : g < 800) (H : aft L xs i g c sl) : nx L xs 688 lv (mk s, n, c, sl) := by
  obtain ⟨l0, l1, l2, l3, l4⟩ := hl
  obtain ⟨r, s1, n1, c1, sl1, g1, s2, b1, b2, hn, hn1, i1, i2, i3, i4⟩ := p_lapse (x := xs (i + 1)) hI
  obtain ⟨o, ok, l⟩ := H lv s2 n1 (c + c1 + 0) (sl + sl1 + 0) g1 ⟨l0, l1, l2, l3, l4⟩ i1 i2 (by omega) (by omega)
  refine ⟨o, ok, ?_⟩
  refine lz_al (pc := 688) rfl l1 ?_
  refine lz_arg (pc := 689) (L := L) (xs := xs) (k := 1) rfl rfl rfl rfl rfl rfl l0 l4 (by omega) hL ?_
  refine lz_iv (pc := 695) (v := some _) rfl rfl ((B_K hn).1 s) (Nat.le_of_ble_eq_true rfl) b1 ?_
  refine lz_al (pc := 698) rfl l2 ?_
  refine lz_arg (pc := 699) (L := L) (xs := xs) (k := 1) rfl rfl rfl rfl rfl rfl l0 l4 (by omega) hL ?_
  refine lz_iv (pc := 705) (v := some _) rfl rfl ((B_m hn1).1 s1) (Nat.le_of_ble_eq_true rfl) b2 ?_
  exact lz_b2t (pc := 708) rfl (decide_eq_true rfl) l
set_option maxRecDepth 20000 in
theorem lc_13 (hl : lvF lv i) (hi : i + 6 ≤ L) (hL : L ≤ 384) (hI : IN s n g) (h8 : g < 800) (H : aft L xs i g c sl) : nx L xs 713 lv (mk s, n, c, sl) := by
  obtain ⟨l0, l1, l2, l3, l4⟩ := hl
  obtain ⟨r, s1, n1, c1, sl1, g1, s2, b1, b2, hn, hn1, i1, i2, i3, i4⟩ := p_reach (x := xs (i + 1)) hI
  obtain ⟨o, ok, l⟩ := H lv s2 n1 (c + c1 + 0) (sl + sl1 + 0) g1 ⟨l0, l1, l2, l3, l4⟩ i1 i2 (by omega) (by omega)
  refine ⟨o, ok, ?_⟩
  refine lz_al (pc := 713) rfl l1 ?_
  refine lz_arg (pc := 714) (L := L) (xs := xs) (k := 1) rfl rfl rfl rfl rfl rfl l0 l4 (by omega) hL ?_
  refine lz_iv (pc := 720) (v := some _) rfl rfl ((B_K hn).1 s) (Nat.le_of_ble_eq_true rfl) b1 ?_
  refine lz_al (pc := 723) rfl l2 ?_
  refine lz_arg (pc := 724) (L := L) (xs := xs) (k := 1) rfl rfl rfl rfl rfl rfl l0 l4 (by omega) hL ?_
  refine lz_iv (pc := 730) (v := some _) rfl rfl ((B_m hn1).1 s1) (Nat.le_of_ble_eq_true rfl) b2 ?_
  exact lz_b2t (pc := 733) rfl (decide_eq_true rfl) l
set_option maxRecDepth 20000 in
theorem lc_14 (hl : lvF lv i) (hi : i + 6 ≤ L) (hL : L ≤ 384) (hI : IN s n g) (h8 : g < 800) (H : aft L xs i g c sl) : nx L xs 738 lv (mk s, n, c, sl) := by
  obtain ⟨l0, l1, l2, l3, l4⟩ := hl
  obtain ⟨r, s1, n1, c1, sl1, g1, s2, b1, b2, hn, hn1, i1, i2, i3, i4⟩ := p_way (x := xs (i + 1)) (y := xs (i + 2)) hI
  obtain ⟨o, ok, l⟩ := H lv s2 n1 (c + c1 + 0) (sl + sl1 + 0) g1 ⟨l0, l1, l2, l3, l4⟩ i1 i2 (by omega) (by omega)
  refine ⟨o, ok, ?_⟩
  refine lz_al (pc := 738) rfl l1 ?_
  refine lz_arg (pc := 739) (L := L) (xs := xs) (k := 1) rfl rfl rfl rfl rfl rfl l0 l4 (by omega) hL ?_
  refine lz_arg (pc := 745) (L := L) (xs := xs) (k := 2) rfl rfl rfl rfl rfl rfl l0 l4 (by omega) hL ?_
  refine lz_iv (pc := 751) (v := some _) rfl rfl ((B_K hn).1 s) (Nat.le_of_ble_eq_true rfl) b1 ?_
  refine lz_al (pc := 754) rfl l2 ?_
  refine lz_arg (pc := 755) (L := L) (xs := xs) (k := 1) rfl rfl rfl rfl rfl rfl l0 l4 (by omega) hL ?_
  refine lz_arg (pc := 761) (L := L) (xs := xs) (k := 2) rfl rfl rfl rfl rfl rfl l0 l4 (by omega) hL ?_
  refine lz_iv (pc := 767) (v := some _) rfl rfl ((B_m hn1).1 s1) (Nat.le_of_ble_eq_true rfl) b2 ?_
  exact lz_b2t (pc := 770) rfl (decide_eq_true rfl) l
set_option maxRecDepth 20000 in
theorem lc_15 (hl : lvF lv i) (hi : i + 6 ≤ L) (hL : L ≤ 384) (hI : IN s n g) (h8 : g < 800) (H : aft L xs i g c sl) : nx L xs 775 lv (mk s, n, c, sl) := by
  obtain ⟨l0, l1, l2, l3, l4⟩ := hl
  obtain ⟨r, s1, n1, c1, sl1, g1, s2, b1, b2, hn, hn1, i1, i2, i3, i4⟩ := p_round (x := xs (i + 1)) (y := xs (i + 2)) (z := xs (i + 3)) hI
  obtain ⟨o, ok, l⟩ := H lv s2 n1 (c + c1 + 0) (sl + sl1 + 0) g1 ⟨l0, l1, l2, l3, l4⟩ i1 i2 (by omega) (by omega)
  refine ⟨o, ok, ?_⟩
  refine lz_al (pc := 775) rfl l1 ?_
  refine lz_arg (pc := 776) (L := L) (xs := xs) (k := 1) rfl rfl rfl rfl rfl rfl l0 l4 (by omega) hL ?_
  refine lz_arg (pc := 782) (L := L) (xs := xs) (k := 2) rfl rfl rfl rfl rfl rfl l0 l4 (by omega) hL ?_
  refine lz_arg (pc := 788) (L := L) (xs := xs) (k := 3) rfl rfl rfl rfl rfl rfl l0 l4 (by omega) hL ?_
  refine lz_iv (pc := 794) (v := some _) rfl rfl ((B_K hn).1 s) (Nat.le_of_ble_eq_true rfl) b1 ?_
  refine lz_al (pc := 797) rfl l2 ?_
  refine lz_arg (pc := 798) (L := L) (xs := xs) (k := 1) rfl rfl rfl rfl rfl rfl l0 l4 (by omega) hL ?_
  refine lz_arg (pc := 804) (L := L) (xs := xs) (k := 2) rfl rfl rfl rfl rfl rfl l0 l4 (by omega) hL ?_
  refine lz_arg (pc := 810) (L := L) (xs := xs) (k := 3) rfl rfl rfl rfl rfl rfl l0 l4 (by omega) hL ?_
  refine lz_iv (pc := 816) (v := some _) rfl rfl ((B_m hn1).1 s1) (Nat.le_of_ble_eq_true rfl) b2 ?_
  exact lz_b2t (pc := 819) rfl (decide_eq_true rfl) l
set_option maxRecDepth 20000 in
theorem lc_16 (hl : lvF lv i) (hi : i + 6 ≤ L) (hL : L ≤ 384) (hI : IN s n g) (h8 : g < 800) (H : aft L xs i g c sl) : nx L xs 824 lv (mk s, n, c, sl) := by
  obtain ⟨l0, l1, l2, l3, l4⟩ := hl
  obtain ⟨r, s1, n1, c1, sl1, g1, s2, b1, b2, hn, hn1, i1, i2, i3, i4⟩ := p_needed (x := xs (i + 1)) hI
  obtain ⟨o, ok, l⟩ := H lv s2 n1 (c + c1 + 0) (sl + sl1 + 0) g1 ⟨l0, l1, l2, l3, l4⟩ i1 i2 (by omega) (by omega)
  refine ⟨o, ok, ?_⟩
  refine lz_al (pc := 824) rfl l1 ?_
  refine lz_arg (pc := 825) (L := L) (xs := xs) (k := 1) rfl rfl rfl rfl rfl rfl l0 l4 (by omega) hL ?_
  refine lz_iv (pc := 831) (v := some _) rfl rfl ((B_K hn).1 s) (Nat.le_of_ble_eq_true rfl) b1 ?_
  refine lz_al (pc := 834) rfl l2 ?_
  refine lz_arg (pc := 835) (L := L) (xs := xs) (k := 1) rfl rfl rfl rfl rfl rfl l0 l4 (by omega) hL ?_
  refine lz_iv (pc := 841) (v := some _) rfl rfl ((B_m hn1).1 s1) (Nat.le_of_ble_eq_true rfl) b2 ?_
  exact lz_b2t (pc := 844) rfl (decide_eq_true rfl) l
set_option maxRecDepth 20000 in
theorem lc_17 (hl : lvF lv i) (hi : i + 6 ≤ L) (hL : L ≤ 384) (hI : IN s n g) (h8 : g < 800) (H : aft L xs i g c sl) : nx L xs 849 lv (mk s, n, c, sl) := by
  obtain ⟨l0, l1, l2, l3, l4⟩ := hl
  obtain ⟨r, s1, n1, c1, sl1, g1, s2, b1, b2, hn, hn1, i1, i2, i3, i4⟩ := p_blind hI
  obtain ⟨o, ok, l⟩ := H lv s2 n1 (c + c1 + 0) (sl + sl1 + 0) g1 ⟨l0, l1, l2, l3, l4⟩ i1 i2 (by omega) (by omega)
  refine ⟨o, ok, ?_⟩
  refine lz_al (pc := 849) rfl l1 ?_
  refine lz_iv (pc := 850) (v := some _) rfl rfl ((B_K hn).1 s) (Nat.le_of_ble_eq_true rfl) b1 ?_
  refine lz_al (pc := 853) rfl l2 ?_
  refine lz_iv (pc := 854) (v := some _) rfl rfl ((B_m hn1).1 s1) (Nat.le_of_ble_eq_true rfl) b2 ?_
  exact lz_b2t (pc := 857) rfl (decide_eq_true rfl) l
end Lm
