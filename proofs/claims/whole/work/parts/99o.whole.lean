/-! ===== the law, whole ===== -/
section Lo2
variable {L i g c sl n k j : Nat} {xs : Nat → Int32} {lv : ai_L} {s : zS} {D pc : Nat} {T : List (Nat × ai_Op)} {hd : Nat → Nat → Option (Option (Nat × Nat))} {o : ai_Ou} {st : List Value} {r : ai_Hp}
theorem lz_swc {lo : Int} {ts : List Nat} {dd t : Nat} {x : Int32} (c : Int32) (hk : ai_lk T pc = some (op_sw lo ts dd)) (hc : x = c) (ht : (if c.toInt < lo then dd else ts.getD (c.toInt - lo).toNat dd) = t) (g : lz D T hd o t lv st r) : lz D T hd o pc lv (.int x :: st) r := lz_st hk (by subst hc; simp only [ai_sw, ht]) g
theorem lz_scr (hk : ai_lk T pc = some (ai_sp (ai_scr L xs))) (hi : i < L) (hL : L ≤ 384) (g : lz D T hd o (pc + 1) lv (.int (xs i) :: st) r) : lz D T hd o pc lv (.int (nI i) :: .ref 0 :: st) r := by
  refine lz_st (f := ai_scr L xs) (pc' := pc + 1) (lv' := lv) (st' := .int (xs i) :: st) (r' := r) hk ?_ g
  show (if ai_in (nI i) L = true then some (pc + 1, lv, .int (xs (nI i).toNatClampNeg) :: st, r) else none) = _
  rw [if_pos (in_nI hi (by omega)), nI_clamp (by omega)]
def swT : List Nat := [200, 273, 298, 323, 360, 428, 465, 515, 552, 577, 614, 639, 688, 713, 738, 775, 824, 849, 862, 875, 900, 961, 998, 1047, 1072, 1110, 1187, 1212, 1237, 1262, 1311, 1372, 1421, 1434, 1447, 1460]
theorem le_lim (hL : L ≤ 384) (hk : k ≤ 66) : (nI L - 6 < nI (6 * k)) ↔ L < 6 * k + 6 := by
  by_cases h6 : 6 ≤ L
  · have e : nI L - 6 = nI (L - 6) := n_sub h6
    rw [e, n_lt (by omega) (by omega)]
    omega
  · have neg : nI L - 6 < nI 0 := by
      rcases (by omega : L = 0 ∨ L = 1 ∨ L = 2 ∨ L = 3 ∨ L = 4 ∨ L = 5) with e | e | e | e | e | e <;> rw [e] <;> decide
    have pos : nI 0 ≤ nI (6 * k) := by rw [n_le (by omega) (by omega)]; omega
    exact ⟨fun _ => by omega, fun _ => Int32.lt_of_lt_of_le neg pos⟩
set_option maxRecDepth 20000 in
theorem lw_sw (hl : lvF lv i) (hi : i + 6 ≤ L) (hL : L ≤ 384) (hI : IN s n g) (h8 : g < 800) (H : aft L xs i g c sl) : nx L xs 33 lv (mk s, n, c, sl) := by
  obtain ⟨j, hj, ej⟩ := and_63 (xs i)
  have l0 := hl.1
  have l4 := hl.2.2.2.2
  have head : ∀ pc', (if (nI j).toInt < 0 then 1485 else swT.getD ((nI j).toInt - 0).toNat 1485) = pc' → nx L xs pc' lv (mk s, n, c, sl) → nx L xs 33 lv (mk s, n, c, sl) := fun pc' ht h => by
    obtain ⟨o, ok, l⟩ := h
    refine ⟨o, ok, ?_⟩
    exact lz_al (pc := 33) rfl l0 (lz_il rfl l4 (lz_scr rfl (by omega) hL (lz_pi rfl (lz_st (f := ai_ib (fun x y => x &&& y)) rfl rfl (lz_swc (ts := swT) (nI j) rfl ej ht l)))))
  by_cases d36 : 36 ≤ j
  · refine head 1485 ?_ ?_
    · rw [nI_toInt (by omega), if_neg (by omega)]
      have e : ((j : Int) - 0).toNat = j := by omega
      rw [e, List.getD_eq_getElem?_getD, List.getElem?_eq_none (by exact d36)]
      rfl
    · exact H lv s n c sl g hl hI (by omega) (by omega) (by omega)
  rcases (by omega : j = 0 ∨ j = 1 ∨ j = 2 ∨ j = 3 ∨ j = 4 ∨ j = 5 ∨ j = 6 ∨ j = 7 ∨ j = 8 ∨ j = 9 ∨ j = 10 ∨ j = 11 ∨ j = 12 ∨ j = 13 ∨ j = 14 ∨ j = 15 ∨ j = 16 ∨ j = 17 ∨ j = 18 ∨ j = 19 ∨ j = 20 ∨ j = 21 ∨ j = 22 ∨ j = 23 ∨ j = 24 ∨ j = 25 ∨ j = 26 ∨ j = 27 ∨ j = 28 ∨ j = 29 ∨ j = 30 ∨ j = 31 ∨ j = 32 ∨ j = 33 ∨ j = 34 ∨ j = 35) with rfl | rfl | rfl | rfl | rfl | rfl | rfl | rfl | rfl | rfl | rfl | rfl | rfl | rfl | rfl | rfl | rfl | rfl | rfl | rfl | rfl | rfl | rfl | rfl | rfl | rfl | rfl | rfl | rfl | rfl | rfl | rfl | rfl | rfl | rfl | rfl
  · exact head 200 (by decide) (lc_0 hl hi hL hI h8 H)
  · exact head 273 (by decide) (lc_1 hl hi hL hI h8 H)
  · exact head 298 (by decide) (lc_2 hl hi hL hI h8 H)
  · exact head 323 (by decide) (lc_3 hl hi hL hI h8 H)
  · exact head 360 (by decide) (lc_4 hl hi hL hI h8 H)
  · exact head 428 (by decide) (lc_5 hl hi hL hI h8 H)
  · exact head 465 (by decide) (lc_6 hl hi hL hI h8 H)
  · exact head 515 (by decide) (lc_7 hl hi hL hI h8 H)
  · exact head 552 (by decide) (lc_8 hl hi hL hI h8 H)
  · exact head 577 (by decide) (lc_9 hl hi hL hI h8 H)
  · exact head 614 (by decide) (lc_10 hl hi hL hI h8 H)
  · exact head 639 (by decide) (lc_11 hl hi hL hI h8 H)
  · exact head 688 (by decide) (lc_12 hl hi hL hI h8 H)
  · exact head 713 (by decide) (lc_13 hl hi hL hI h8 H)
  · exact head 738 (by decide) (lc_14 hl hi hL hI h8 H)
  · exact head 775 (by decide) (lc_15 hl hi hL hI h8 H)
  · exact head 824 (by decide) (lc_16 hl hi hL hI h8 H)
  · exact head 849 (by decide) (lc_17 hl hi hL hI h8 H)
  · exact head 862 (by decide) (lc_18 hl hi hL hI h8 H)
  · exact head 875 (by decide) (lc_19 hl hi hL hI h8 H)
  · exact head 900 (by decide) (lc_20 hl hi hL hI h8 H)
  · exact head 961 (by decide) (lc_21 hl hi hL hI h8 H)
  · exact head 998 (by decide) (lc_22 hl hi hL hI h8 H)
  · exact head 1047 (by decide) (lc_23 hl hi hL hI h8 H)
  · exact head 1072 (by decide) (lc_24 hl hi hL hI h8 H)
  · exact head 1110 (by decide) (lc_25 hl hi hL hI h8 H)
  · exact head 1187 (by decide) (lc_26 hl hi hL hI h8 H)
  · exact head 1212 (by decide) (lc_27 hl hi hL hI h8 H)
  · exact head 1237 (by decide) (lc_28 hl hi hL hI h8 H)
  · exact head 1262 (by decide) (lc_29 hl hi hL hI h8 H)
  · exact head 1311 (by decide) (lc_30 hl hi hL hI h8 H)
  · exact head 1372 (by decide) (lc_31 hl hi hL hI h8 H)
  · exact head 1421 (by decide) (lc_32 hl hi hL hI h8 H)
  · exact head 1434 (by decide) (lc_33 hl hi hL hI h8 H)
  · exact head 1447 (by decide) (lc_34 hl hi hL hI h8 H)
  · exact head 1460 (by decide) (lc_35 hl hi hL hI h8 H)
set_option maxRecDepth 20000 in
theorem lw_loop (hL : L ≤ 384) : ∀ (m k : Nat) (lv : ai_L) (s : zS) (n c sl g : Nat), m + k = 66 → lvF lv (6 * k) → IN s n g → g ≤ k → c ≤ 300 + 3 * k → sl ≤ 60000 + 20199 * k → nx L xs 23 lv (mk s, n, c, sl) := by
  intro m
  induction m with
  | zero =>
    intro k lv s n c sl g hm hl hI hg hc hs
    have lt := (le_lim hL (show k ≤ 66 by omega)).2 (by omega)
    refine ⟨(.inl (some (.int 1)), mk s, n, c, sl), ⟨rfl, by show c ≤ 600128; omega, by show sl ≤ 7301098; omega⟩, ?_⟩
    exact lz_il (pc := 23) rfl hl.2.2.2.2 (lz_al rfl hl.1 (lz_st (f := ai_sln L) rfl rfl (lz_pi rfl (lz_st (f := ai_ib (fun x y => x - y)) rfl rfl (lz_b2t rfl (decide_eq_true lt) (lz_pi rfl (lz_ret rfl rfl rfl)))))))
  | succ m ih =>
    intro k lv s n c sl g hm hl hI hg hc hs
    by_cases hk : L < 6 * k + 6
    · have lt := (le_lim hL (show k ≤ 66 by omega)).2 hk
      refine ⟨(.inl (some (.int 1)), mk s, n, c, sl), ⟨rfl, by show c ≤ 600128; omega, by show sl ≤ 7301098; omega⟩, ?_⟩
      exact lz_il (pc := 23) rfl hl.2.2.2.2 (lz_al rfl hl.1 (lz_st (f := ai_sln L) rfl rfl (lz_pi rfl (lz_st (f := ai_ib (fun x y => x - y)) rfl rfl (lz_b2t rfl (decide_eq_true lt) (lz_pi rfl (lz_ret rfl rfl rfl)))))))
    · have nlt : ¬ nI L - 6 < nI (6 * k) := fun h => hk ((le_lim hL (show k ≤ 66 by omega)).1 h)
      obtain ⟨o, ok, l⟩ := lw_sw (xs := xs) (s := s) (n := n) (c := c) (sl := sl) (g := g) (i := 6 * k) (lv := lv) hl (by omega) hL hI (by omega) (fun lv' s' n' c' sl' g' hl' hI' hg' hc' hs' => by
        have ad : nI (6 * k) + 6 = nI (6 * (k + 1)) := by
          show nI (6 * k) + nI 6 = _
          rw [nI_add]
          congr 1
        have lf : lvF (ai_s1 4 (.int (nI (6 * k) + 6)) lv') (6 * (k + 1)) := ⟨bi_k1 hl'.1 rfl rfl, bi_k1 hl'.2.1 rfl rfl, bi_k1 hl'.2.2.1 rfl rfl, bi_k1 hl'.2.2.2.1 rfl rfl, by rw [bi_e1, ad]⟩
        have q1 : m + (k + 1) = 66 := by omega
        have q2 : g' ≤ k + 1 := by omega
        have q3 : c' ≤ 300 + 3 * (k + 1) := by omega
        have q4 : sl' ≤ 60000 + 20199 * (k + 1) := by
          rw [Nat.mul_add_one, ← Nat.add_assoc]
          exact Nat.le_trans hs' (Nat.add_le_add_right hs 20199)
        obtain ⟨o, ok, l⟩ := ih (k + 1) (ai_s1 4 (.int (nI (6 * k) + 6)) lv') s' n' c' sl' g' q1 lf hI' q2 q3 q4
        exact ⟨o, ok, lz_inc (pc := 1485) rfl hl'.2.2.2.2 (lz_goto rfl l)⟩)
      refine ⟨o, ok, ?_⟩
      exact lz_il (pc := 23) rfl hl.2.2.2.2 (lz_al rfl hl.1 (lz_st (f := ai_sln L) rfl rfl (lz_pi rfl (lz_st (f := ai_ib (fun x y => x - y)) rfl rfl (lz_b2f rfl (decide_eq_false nlt) l)))))
end Lo2
theorem h0_hL : ai_h0 = hL LP0 := by
  funext a
  unfold hL LP0
  rw [List.getD_eq_getElem?_getD]
  by_cases h : a = 0
  · rw [h]; rfl
  · rw [List.getElem?_eq_none (by show 1 ≤ a; omega)]
    rfl
/-- the rows when the law has its array -/
def sOut (s : zS) : zS := (s.1, va_up s.2.1 238 (fun _ => 0), s.2.2)
theorem sOut_mk {s : zS} : va_up (MP s) 238 (.inl (2, 1, .inr (.inl (fun _ => 0)))) = mk (sOut s) := by
  funext a
  unfold va_up
  by_cases e : a = 238
  · rw [if_pos e, e]
    rfl
  · rw [if_neg e]
    unfold MP va_up
    rw [if_neg e]
    exact (mk_congr (s := s) (s' := sOut s) rfl (if_neg e) rfl rfl).symm
set_option maxRecDepth 20000 in
theorem lw_start {L : Nat} {xs : Nat → Int32} (h384 : L ≤ 384) : nx L xs 0 [(0, .ref 0)] (ai_h0, 1, 0, 0) := by
  obtain ⟨s1, b1, b2, b3, b4⟩ := first_ref (fun o g => h11 (P := LP1) (by rw [LP1_len]; omega) g)
  have e5 : ∀ k, k < 22 → (sOut s1).1 5 k = nI (WD k) := fun k hk => by
    show s1.1 5 k = _
    rw [b3 5 (by omega), s00_w.1, wdR_is k hk]
  have e6 : ∀ k, k < 108 → (sOut s1).1 189 k = nI (WC k) := fun k hk => by
    show s1.1 189 k = _
    rw [b3 189 (by omega), s00_w.2.1]
    unfold gw
    rw [if_pos hk]
  have hI : IN (sOut s1) 239 0 := ⟨6, A00, s00_cK (fun a ha => b3 a (Or.inl ha)) b2, mK_G2 b4 rfl (fun a ha => if_neg ha), A00_wf, ⟨rfl, by show s1.1 85 0 = nI 0; rw [b3 85 (by omega)]; rfl⟩, e5, e6⟩
  obtain ⟨o, ok, l⟩ := lw_loop (xs := xs) h384 66 0 (ai_s1 4 (.int 0) (ai_s1 3 (.ref 238) (ai_s1 2 (.ref 187) (ai_s1 1 (.ref 1) [(0, .ref 0)])))) (sOut s1) 239 (0 + 1 + 185 + 1 + 50 + 1) (0 + 15 + 7866 + 96 + 29574 + 1) 0 (by omega) ⟨rfl, rfl, rfl, rfl, rfl⟩ hI (Nat.le_refl _) (by omega) (by omega)
  refine ⟨o, ok, ?_⟩
  rw [h0_hL]
  refine lz_new (pc := 0) rfl ?_
  have n1 : va_up (hL LP0) 1 (.inr (10, [.null, .int 0, .null, .null, .null, .null, .null, .null, .int 0, .null, .int 0, .null, .null, .null, .null])) = hL (LP0 ++ [.inr (10, [.null, .int 0, .null, .null, .null, .null, .null, .null, .int 0, .null, .int 0, .null, .null, .null, .null])]) := hL_new (L := LP0)
  rw [n1]
  have sp := nX10_init LP0 (by decide)
  rw [lenR] at sp
  refine lz_dup rfl rfl (lz_ii (v := none) rfl rfl (Nat.le_of_ble_eq_true rfl) (bi_up sp (Nat.le_of_ble_eq_true rfl)) (lz_as rfl ?_))
  refine lz_new (pc := 8) rfl ?_
  have n2 : va_up (hL LP1) 187 (.inr (11, [.null, .int 0, .int 0, .null, .int 0, .int 0, .int 0, .int 0, .int 0, .int 0, .int 0, .int 0, .int 0, .int 0, .int 0, .int 0, .int 0, .int 0, .int 0, .int 0, .int 0, .int 0, .int 0, .int 0, .null, .null, .null, .null, .null, .null, .null, .null, .null, .null, .null, .null, .null, .null, .null, .null, .null, .null, .null, .null, .null, .null, .null, .null, .null, .null, .null, .int 0, .int 0, .int 0, .int 0, .int 0, .int 0, .null, .null, .int 0, .null, .null, .null, .null, .null, .null, .null, .null, .long 0, .int 0, .int 0, .int 0, .int 0, .int 0, .int 0, .int 0, .int 0, .null, .null, .null, .null, .null, .int 0, .null, .int 0, .int 0, .null, .null, .null, .int 0, .null, .int 0, .null, .int 0, .int 0, .long 0])) = hL (LP1 ++ [.inr (11, [.null, .int 0, .int 0, .null, .int 0, .int 0, .int 0, .int 0, .int 0, .int 0, .int 0, .int 0, .int 0, .int 0, .int 0, .int 0, .int 0, .int 0, .int 0, .int 0, .int 0, .int 0, .int 0, .int 0, .null, .null, .null, .null, .null, .null, .null, .null, .null, .null, .null, .null, .null, .null, .null, .null, .null, .null, .null, .null, .null, .null, .null, .null, .null, .null, .null, .int 0, .int 0, .int 0, .int 0, .int 0, .int 0, .null, .null, .int 0, .null, .null, .null, .null, .null, .null, .null, .null, .long 0, .int 0, .int 0, .int 0, .int 0, .int 0, .int 0, .int 0, .int 0, .null, .null, .null, .null, .null, .int 0, .null, .int 0, .int 0, .null, .null, .null, .int 0, .null, .int 0, .null, .int 0, .int 0, .long 0])]) := by
    have := hL_new (L := LP1) (x := .inr (11, [.null, .int 0, .int 0, .null, .int 0, .int 0, .int 0, .int 0, .int 0, .int 0, .int 0, .int 0, .int 0, .int 0, .int 0, .int 0, .int 0, .int 0, .int 0, .int 0, .int 0, .int 0, .int 0, .int 0, .null, .null, .null, .null, .null, .null, .null, .null, .null, .null, .null, .null, .null, .null, .null, .null, .null, .null, .null, .null, .null, .null, .null, .null, .null, .null, .null, .int 0, .int 0, .int 0, .int 0, .int 0, .int 0, .null, .null, .int 0, .null, .null, .null, .null, .null, .null, .null, .null, .long 0, .int 0, .int 0, .int 0, .int 0, .int 0, .int 0, .int 0, .int 0, .null, .null, .null, .null, .null, .int 0, .null, .int 0, .int 0, .null, .null, .null, .int 0, .null, .int 0, .null, .int 0, .int 0, .long 0]))
    rw [LP1_len] at this
    exact this
  show lz _ _ _ _ _ _ _ (va_up (hL LP1) 187 (.inr (11, [.null, .int 0, .int 0, .null, .int 0, .int 0, .int 0, .int 0, .int 0, .int 0, .int 0, .int 0, .int 0, .int 0, .int 0, .int 0, .int 0, .int 0, .int 0, .int 0, .int 0, .int 0, .int 0, .int 0, .null, .null, .null, .null, .null, .null, .null, .null, .null, .null, .null, .null, .null, .null, .null, .null, .null, .null, .null, .null, .null, .null, .null, .null, .null, .null, .null, .int 0, .int 0, .int 0, .int 0, .int 0, .int 0, .null, .null, .int 0, .null, .null, .null, .null, .null, .null, .null, .null, .long 0, .int 0, .int 0, .int 0, .int 0, .int 0, .int 0, .int 0, .int 0, .null, .null, .null, .null, .null, .int 0, .null, .int 0, .int 0, .null, .null, .null, .int 0, .null, .int 0, .null, .int 0, .int 0, .long 0])), 187 + 1, _, _)
  rw [n2]
  refine lz_dup rfl rfl (lz_ii (v := none) rfl rfl (Nat.le_of_ble_eq_true rfl) (bi_up (D := 10) (D' := 308) b1 (by decide)) (lz_as rfl ?_))
  refine lz_pi (pc := 16) rfl (lz_na (zn := 1) rfl (by decide) (by decide) (by decide) ?_)
  rw [sOut_mk]
  exact lz_as (pc := 19) rfl (lz_pi rfl (lz_is rfl l))
theorem all_Goal (L : Nat) (xs : Nat → Int32) (hL : L ≤ 384) : ai_Goal L xs := by
  obtain ⟨o, ok, l⟩ := lw_start (xs := xs) hL
  obtain ⟨k, hk⟩ := l 308 (Nat.le_refl _)
  exact ⟨308, k, o, by decide, ok.1, ok.2.1, ok.2.2, hk⟩
