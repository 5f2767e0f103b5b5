/-! ===== the law's cases, the others ===== -/
section Ln
variable {L i g c sl n : Nat} {xs : Nat → Int32} {lv : ai_L} {s : zS}
set_option maxRecDepth 20000 in
theorem lc_18 (hl : lvF lv i) (hi : i + 6 ≤ L) (hL : L ≤ 384) (hI : IN s n g) (h8 : g < 800) (H : aft L xs i g c sl) : nx L xs 862 lv (mk s, n, c, sl) := by
  obtain ⟨l0, l1, l2, l3, l4⟩ := hl
  obtain ⟨r, s1, n1, c1, sl1, g1, s2, b1, b2, hn, hn1, i1, i2, i3, i4⟩ := p_watch hI
  obtain ⟨o, ok, l⟩ := H lv s2 n1 (c + c1 + 0) (sl + sl1 + 0) g1 ⟨l0, l1, l2, l3, l4⟩ i1 i2 (by omega) (by omega)
  refine ⟨o, ok, ?_⟩
  refine lz_al (pc := 862) rfl l1 ?_
  refine lz_iv (pc := 863) (v := some _) rfl rfl ((B_K hn).1 s) (Nat.le_of_ble_eq_true rfl) b1 ?_
  refine lz_al (pc := 866) rfl l2 ?_
  refine lz_iv (pc := 867) (v := some _) rfl rfl ((B_m hn1).1 s1) (Nat.le_of_ble_eq_true rfl) b2 ?_
  exact lz_b2t (pc := 870) rfl (decide_eq_true rfl) l
set_option maxRecDepth 20000 in
theorem lc_19 (hl : lvF lv i) (hi : i + 6 ≤ L) (hL : L ≤ 384) (hI : IN s n g) (h8 : g < 800) (H : aft L xs i g c sl) : nx L xs 875 lv (mk s, n, c, sl) := by
  obtain ⟨l0, l1, l2, l3, l4⟩ := hl
  obtain ⟨r, s1, n1, c1, sl1, g1, s2, b1, b2, hn, hn1, i1, i2, i3, i4⟩ := p_match (x := xs (i + 1)) hI
  obtain ⟨o, ok, l⟩ := H lv s2 n1 (c + c1 + 0) (sl + sl1 + 0) g1 ⟨l0, l1, l2, l3, l4⟩ i1 i2 (by omega) (by omega)
  refine ⟨o, ok, ?_⟩
  refine lz_al (pc := 875) rfl l1 ?_
  refine lz_arg (pc := 876) (L := L) (xs := xs) (k := 1) rfl rfl rfl rfl rfl rfl l0 l4 (by omega) hL ?_
  refine lz_iv (pc := 882) (v := some _) rfl rfl ((B_K hn).1 s) (Nat.le_of_ble_eq_true rfl) b1 ?_
  refine lz_al (pc := 885) rfl l2 ?_
  refine lz_arg (pc := 886) (L := L) (xs := xs) (k := 1) rfl rfl rfl rfl rfl rfl l0 l4 (by omega) hL ?_
  refine lz_iv (pc := 892) (v := some _) rfl rfl ((B_m hn1).1 s1) (Nat.le_of_ble_eq_true rfl) b2 ?_
  exact lz_b2t (pc := 895) rfl (decide_eq_true rfl) l
set_option maxRecDepth 20000 in
theorem lc_20 (hl : lvF lv i) (hi : i + 6 ≤ L) (hL : L ≤ 384) (hI : IN s n g) (h8 : g < 800) (H : aft L xs i g c sl) : nx L xs 900 lv (mk s, n, c, sl) := by
  obtain ⟨l0, l1, l2, l3, l4⟩ := hl
  obtain ⟨r, s1, n1, c1, sl1, g1, s2, b1, b2, hn, hn1, i1, i2, i3, i4⟩ := p_game (x := xs (i + 1)) (y := xs (i + 2)) (z := xs (i + 3)) (a := xs (i + 4)) hI
  obtain ⟨o, ok, l⟩ := H lv s2 n1 (c + c1 + 0) (sl + sl1 + 0) g1 ⟨l0, l1, l2, l3, l4⟩ i1 i2 (by omega) (by omega)
  refine ⟨o, ok, ?_⟩
  refine lz_al (pc := 900) rfl l1 ?_
  refine lz_arg (pc := 901) (L := L) (xs := xs) (k := 1) rfl rfl rfl rfl rfl rfl l0 l4 (by omega) hL ?_
  refine lz_arg (pc := 907) (L := L) (xs := xs) (k := 2) rfl rfl rfl rfl rfl rfl l0 l4 (by omega) hL ?_
  refine lz_arg (pc := 913) (L := L) (xs := xs) (k := 3) rfl rfl rfl rfl rfl rfl l0 l4 (by omega) hL ?_
  refine lz_arg (pc := 919) (L := L) (xs := xs) (k := 4) rfl rfl rfl rfl rfl rfl l0 l4 (by omega) hL ?_
  refine lz_iv (pc := 925) (v := some _) rfl rfl ((B_K hn).1 s) (Nat.le_of_ble_eq_true rfl) b1 ?_
  refine lz_al (pc := 928) rfl l2 ?_
  refine lz_arg (pc := 929) (L := L) (xs := xs) (k := 1) rfl rfl rfl rfl rfl rfl l0 l4 (by omega) hL ?_
  refine lz_arg (pc := 935) (L := L) (xs := xs) (k := 2) rfl rfl rfl rfl rfl rfl l0 l4 (by omega) hL ?_
  refine lz_arg (pc := 941) (L := L) (xs := xs) (k := 3) rfl rfl rfl rfl rfl rfl l0 l4 (by omega) hL ?_
  refine lz_arg (pc := 947) (L := L) (xs := xs) (k := 4) rfl rfl rfl rfl rfl rfl l0 l4 (by omega) hL ?_
  refine lz_iv (pc := 953) (v := some _) rfl rfl ((B_m hn1).1 s1) (Nat.le_of_ble_eq_true rfl) b2 ?_
  exact lz_b2t (pc := 956) rfl (decide_eq_true rfl) l
set_option maxRecDepth 20000 in
theorem lc_21 (hl : lvF lv i) (hi : i + 6 ≤ L) (hL : L ≤ 384) (hI : IN s n g) (h8 : g < 800) (H : aft L xs i g c sl) : nx L xs 961 lv (mk s, n, c, sl) := by
  obtain ⟨l0, l1, l2, l3, l4⟩ := hl
  obtain ⟨r, s1, n1, c1, sl1, g1, s2, b1, b2, hn, hn1, i1, i2, i3, i4⟩ := p_rests (x := xs (i + 1)) (y := xs (i + 2)) hI
  obtain ⟨o, ok, l⟩ := H lv s2 n1 (c + c1 + 0) (sl + sl1 + 0) g1 ⟨l0, l1, l2, l3, l4⟩ i1 i2 (by omega) (by omega)
  refine ⟨o, ok, ?_⟩
  refine lz_al (pc := 961) rfl l1 ?_
  refine lz_arg (pc := 962) (L := L) (xs := xs) (k := 1) rfl rfl rfl rfl rfl rfl l0 l4 (by omega) hL ?_
  refine lz_arg (pc := 968) (L := L) (xs := xs) (k := 2) rfl rfl rfl rfl rfl rfl l0 l4 (by omega) hL ?_
  refine lz_iv (pc := 974) (v := some _) rfl rfl ((B_K hn).1 s) (Nat.le_of_ble_eq_true rfl) b1 ?_
  refine lz_al (pc := 977) rfl l2 ?_
  refine lz_arg (pc := 978) (L := L) (xs := xs) (k := 1) rfl rfl rfl rfl rfl rfl l0 l4 (by omega) hL ?_
  refine lz_arg (pc := 984) (L := L) (xs := xs) (k := 2) rfl rfl rfl rfl rfl rfl l0 l4 (by omega) hL ?_
  refine lz_iv (pc := 990) (v := some _) rfl rfl ((B_m hn1).1 s1) (Nat.le_of_ble_eq_true rfl) b2 ?_
  exact lz_b2t (pc := 993) rfl (decide_eq_true rfl) l
set_option maxRecDepth 20000 in
theorem lc_22 (hl : lvF lv i) (hi : i + 6 ≤ L) (hL : L ≤ 384) (hI : IN s n g) (h8 : g < 800) (H : aft L xs i g c sl) : nx L xs 998 lv (mk s, n, c, sl) := by
  obtain ⟨l0, l1, l2, l3, l4⟩ := hl
  obtain ⟨r, s1, n1, c1, sl1, g1, s2, b1, b2, hn, hn1, i1, i2, i3, i4⟩ := p_rest (x := xs (i + 1)) (y := xs (i + 2)) (z := xs (i + 3)) hI
  obtain ⟨o, ok, l⟩ := H lv s2 n1 (c + c1 + 0) (sl + sl1 + 0) g1 ⟨l0, l1, l2, l3, l4⟩ i1 i2 (by omega) (by omega)
  refine ⟨o, ok, ?_⟩
  refine lz_al (pc := 998) rfl l1 ?_
  refine lz_arg (pc := 999) (L := L) (xs := xs) (k := 1) rfl rfl rfl rfl rfl rfl l0 l4 (by omega) hL ?_
  refine lz_arg (pc := 1005) (L := L) (xs := xs) (k := 2) rfl rfl rfl rfl rfl rfl l0 l4 (by omega) hL ?_
  refine lz_arg (pc := 1011) (L := L) (xs := xs) (k := 3) rfl rfl rfl rfl rfl rfl l0 l4 (by omega) hL ?_
  refine lz_iv (pc := 1017) (v := some _) rfl rfl ((B_K hn).1 s) (Nat.le_of_ble_eq_true rfl) b1 ?_
  refine lz_al (pc := 1020) rfl l2 ?_
  refine lz_arg (pc := 1021) (L := L) (xs := xs) (k := 1) rfl rfl rfl rfl rfl rfl l0 l4 (by omega) hL ?_
  refine lz_arg (pc := 1027) (L := L) (xs := xs) (k := 2) rfl rfl rfl rfl rfl rfl l0 l4 (by omega) hL ?_
  refine lz_arg (pc := 1033) (L := L) (xs := xs) (k := 3) rfl rfl rfl rfl rfl rfl l0 l4 (by omega) hL ?_
  refine lz_iv (pc := 1039) (v := some _) rfl rfl ((B_m hn1).1 s1) (Nat.le_of_ble_eq_true rfl) b2 ?_
  exact lz_b2t (pc := 1042) rfl (decide_eq_true rfl) l
set_option maxRecDepth 20000 in
theorem lc_23 (hl : lvF lv i) (hi : i + 6 ≤ L) (hL : L ≤ 384) (hI : IN s n g) (h8 : g < 800) (H : aft L xs i g c sl) : nx L xs 1047 lv (mk s, n, c, sl) := by
  obtain ⟨l0, l1, l2, l3, l4⟩ := hl
  obtain ⟨r, s1, n1, c1, sl1, g1, s2, b1, b2, hn, hn1, i1, i2, i3, i4⟩ := p_tries (x := xs (i + 1)) hI
  obtain ⟨o, ok, l⟩ := H lv s2 n1 (c + c1 + 0) (sl + sl1 + 0) g1 ⟨l0, l1, l2, l3, l4⟩ i1 i2 (by omega) (by omega)
  refine ⟨o, ok, ?_⟩
  refine lz_al (pc := 1047) rfl l1 ?_
  refine lz_arg (pc := 1048) (L := L) (xs := xs) (k := 1) rfl rfl rfl rfl rfl rfl l0 l4 (by omega) hL ?_
  refine lz_iv (pc := 1054) (v := some _) rfl rfl ((B_K hn).1 s) (Nat.le_of_ble_eq_true rfl) b1 ?_
  refine lz_al (pc := 1057) rfl l2 ?_
  refine lz_arg (pc := 1058) (L := L) (xs := xs) (k := 1) rfl rfl rfl rfl rfl rfl l0 l4 (by omega) hL ?_
  refine lz_iv (pc := 1064) (v := some _) rfl rfl ((B_m hn1).1 s1) (Nat.le_of_ble_eq_true rfl) b2 ?_
  exact lz_b2t (pc := 1067) rfl (decide_eq_true rfl) l
set_option maxRecDepth 20000 in
theorem lc_24 (hl : lvF lv i) (hi : i + 6 ≤ L) (hL : L ≤ 384) (hI : IN s n g) (h8 : g < 800) (H : aft L xs i g c sl) : nx L xs 1072 lv (mk s, n, c, sl) := by
  obtain ⟨l0, l1, l2, l3, l4⟩ := hl
  obtain ⟨r, s1, n1, c1, sl1, g1, s2, b1, b2, hn, hn1, i1, i2, i3, i4⟩ := p_clear (x := xs (i + 1)) (y := xs (i + 2)) hI
  obtain ⟨o, ok, l⟩ := H lv s2 n1 (c + c1 + 0) (sl + sl1 + 0) g1 ⟨l0, l1, l2, l3, l4⟩ i1 i2 (by omega) (by omega)
  refine ⟨o, ok, ?_⟩
  refine lz_al (pc := 1072) rfl l1 ?_
  refine lz_arg (pc := 1073) (L := L) (xs := xs) (k := 1) rfl rfl rfl rfl rfl rfl l0 l4 (by omega) hL ?_
  refine lz_arg (pc := 1079) (L := L) (xs := xs) (k := 2) rfl rfl rfl rfl rfl rfl l0 l4 (by omega) hL ?_
  refine lz_iv (pc := 1085) (v := some _) rfl rfl ((B_K hn).1 s) (Nat.le_of_ble_eq_true rfl) b1 ?_
  refine lz_al (pc := 1088) rfl l2 ?_
  refine lz_arg (pc := 1089) (L := L) (xs := xs) (k := 1) rfl rfl rfl rfl rfl rfl l0 l4 (by omega) hL ?_
  refine lz_arg (pc := 1095) (L := L) (xs := xs) (k := 2) rfl rfl rfl rfl rfl rfl l0 l4 (by omega) hL ?_
  refine lz_iv (pc := 1101) (v := some _) rfl rfl ((B_m hn1).1 s1) (Nat.le_of_ble_eq_true rfl) b2 ?_
  refine lz_st (f := ai_lI lg_cmp) (pc := 1104) rfl rfl ?_
  exact lz_b1t (pc := 1105) rfl (by rw [lg_self]; rfl) l
set_option maxRecDepth 20000 in
theorem lc_25 (hl : lvF lv i) (hi : i + 6 ≤ L) (hL : L ≤ 384) (hI : IN s n g) (h8 : g < 800) (H : aft L xs i g c sl) : nx L xs 1110 lv (mk s, n, c, sl) := by
  obtain ⟨l0, l1, l2, l3, l4⟩ := hl
  by_cases q : xs (i + 4) = 0
  · obtain ⟨r, s1, n1, c1, sl1, g1, s2, b1, b2, hn, hn1, i1, i2, i3, i4⟩ := p_see (x := xs (i + 1)) (y := xs (i + 2)) (z := xs (i + 3)) (b := (0 : Int32)) hI
    obtain ⟨o, ok, l⟩ := H lv s2 n1 (c + c1 + 0) (sl + sl1 + 0) g1 ⟨l0, l1, l2, l3, l4⟩ i1 i2 (by omega) (by omega)
    refine ⟨o, ok, ?_⟩
    refine lz_al (pc := 1110) rfl l1 ?_
    refine lz_arg (pc := 1111) (L := L) (xs := xs) (k := 1) rfl rfl rfl rfl rfl rfl l0 l4 (by omega) hL ?_
    refine lz_arg (pc := 1117) (L := L) (xs := xs) (k := 2) rfl rfl rfl rfl rfl rfl l0 l4 (by omega) hL ?_
    refine lz_arg (pc := 1123) (L := L) (xs := xs) (k := 3) rfl rfl rfl rfl rfl rfl l0 l4 (by omega) hL ?_
    refine lz_arg (pc := 1129) (L := L) (xs := xs) (k := 4) rfl rfl rfl rfl rfl rfl l0 l4 (by omega) hL ?_
    refine lz_b1t (pc := 1135) rfl (decide_eq_true q) (lz_pi rfl ?_)
    refine lz_iv (pc := 1143) (v := some _) rfl rfl ((B_K hn).1 s) (Nat.le_of_ble_eq_true rfl) b1 ?_
    refine lz_al (pc := 1146) rfl l2 ?_
    refine lz_arg (pc := 1147) (L := L) (xs := xs) (k := 1) rfl rfl rfl rfl rfl rfl l0 l4 (by omega) hL ?_
    refine lz_arg (pc := 1153) (L := L) (xs := xs) (k := 2) rfl rfl rfl rfl rfl rfl l0 l4 (by omega) hL ?_
    refine lz_arg (pc := 1159) (L := L) (xs := xs) (k := 3) rfl rfl rfl rfl rfl rfl l0 l4 (by omega) hL ?_
    refine lz_arg (pc := 1165) (L := L) (xs := xs) (k := 4) rfl rfl rfl rfl rfl rfl l0 l4 (by omega) hL ?_
    refine lz_b1t (pc := 1171) rfl (decide_eq_true q) (lz_pi rfl ?_)
    refine lz_iv (pc := 1179) (v := some _) rfl rfl ((B_m hn1).1 s1) (Nat.le_of_ble_eq_true rfl) b2 ?_
    exact lz_b2t (pc := 1182) rfl (decide_eq_true rfl) l
  · obtain ⟨r, s1, n1, c1, sl1, g1, s2, b1, b2, hn, hn1, i1, i2, i3, i4⟩ := p_see (x := xs (i + 1)) (y := xs (i + 2)) (z := xs (i + 3)) (b := (1 : Int32)) hI
    obtain ⟨o, ok, l⟩ := H lv s2 n1 (c + c1 + 0) (sl + sl1 + 0) g1 ⟨l0, l1, l2, l3, l4⟩ i1 i2 (by omega) (by omega)
    refine ⟨o, ok, ?_⟩
    refine lz_al (pc := 1110) rfl l1 ?_
    refine lz_arg (pc := 1111) (L := L) (xs := xs) (k := 1) rfl rfl rfl rfl rfl rfl l0 l4 (by omega) hL ?_
    refine lz_arg (pc := 1117) (L := L) (xs := xs) (k := 2) rfl rfl rfl rfl rfl rfl l0 l4 (by omega) hL ?_
    refine lz_arg (pc := 1123) (L := L) (xs := xs) (k := 3) rfl rfl rfl rfl rfl rfl l0 l4 (by omega) hL ?_
    refine lz_arg (pc := 1129) (L := L) (xs := xs) (k := 4) rfl rfl rfl rfl rfl rfl l0 l4 (by omega) hL ?_
    refine lz_b1f (pc := 1135) rfl (decide_eq_false q) (lz_pi rfl (lz_goto rfl ?_))
    refine lz_iv (pc := 1143) (v := some _) rfl rfl ((B_K hn).1 s) (Nat.le_of_ble_eq_true rfl) b1 ?_
    refine lz_al (pc := 1146) rfl l2 ?_
    refine lz_arg (pc := 1147) (L := L) (xs := xs) (k := 1) rfl rfl rfl rfl rfl rfl l0 l4 (by omega) hL ?_
    refine lz_arg (pc := 1153) (L := L) (xs := xs) (k := 2) rfl rfl rfl rfl rfl rfl l0 l4 (by omega) hL ?_
    refine lz_arg (pc := 1159) (L := L) (xs := xs) (k := 3) rfl rfl rfl rfl rfl rfl l0 l4 (by omega) hL ?_
    refine lz_arg (pc := 1165) (L := L) (xs := xs) (k := 4) rfl rfl rfl rfl rfl rfl l0 l4 (by omega) hL ?_
    refine lz_b1f (pc := 1171) rfl (decide_eq_false q) (lz_pi rfl (lz_goto rfl ?_))
    refine lz_iv (pc := 1179) (v := some _) rfl rfl ((B_m hn1).1 s1) (Nat.le_of_ble_eq_true rfl) b2 ?_
    exact lz_b2t (pc := 1182) rfl (decide_eq_true rfl) l
set_option maxRecDepth 20000 in
theorem lc_26 (hl : lvF lv i) (hi : i + 6 ≤ L) (hL : L ≤ 384) (hI : IN s n g) (h8 : g < 800) (H : aft L xs i g c sl) : nx L xs 1187 lv (mk s, n, c, sl) := by
  obtain ⟨l0, l1, l2, l3, l4⟩ := hl
  obtain ⟨r, s1, n1, c1, sl1, g1, s2, b1, b2, hn, hn1, i1, i2, i3, i4⟩ := p_strike (x := xs (i + 1)) hI
  obtain ⟨o, ok, l⟩ := H lv s2 n1 (c + c1 + 0) (sl + sl1 + 0) g1 ⟨l0, l1, l2, l3, l4⟩ i1 i2 (by omega) (by omega)
  refine ⟨o, ok, ?_⟩
  refine lz_al (pc := 1187) rfl l1 ?_
  refine lz_arg (pc := 1188) (L := L) (xs := xs) (k := 1) rfl rfl rfl rfl rfl rfl l0 l4 (by omega) hL ?_
  refine lz_iv (pc := 1194) (v := some _) rfl rfl ((B_K hn).1 s) (Nat.le_of_ble_eq_true rfl) b1 ?_
  refine lz_al (pc := 1197) rfl l2 ?_
  refine lz_arg (pc := 1198) (L := L) (xs := xs) (k := 1) rfl rfl rfl rfl rfl rfl l0 l4 (by omega) hL ?_
  refine lz_iv (pc := 1204) (v := some _) rfl rfl ((B_m hn1).1 s1) (Nat.le_of_ble_eq_true rfl) b2 ?_
  exact lz_b2t (pc := 1207) rfl (decide_eq_true rfl) l
set_option maxRecDepth 20000 in
theorem lc_27 (hl : lvF lv i) (hi : i + 6 ≤ L) (hL : L ≤ 384) (hI : IN s n g) (h8 : g < 800) (H : aft L xs i g c sl) : nx L xs 1212 lv (mk s, n, c, sl) := by
  obtain ⟨l0, l1, l2, l3, l4⟩ := hl
  obtain ⟨r, s1, n1, c1, sl1, g1, s2, b1, b2, hn, hn1, i1, i2, i3, i4⟩ := p_known (x := xs (i + 1)) hI
  obtain ⟨o, ok, l⟩ := H lv s2 n1 (c + c1 + 0) (sl + sl1 + 0) g1 ⟨l0, l1, l2, l3, l4⟩ i1 i2 (by omega) (by omega)
  refine ⟨o, ok, ?_⟩
  refine lz_al (pc := 1212) rfl l1 ?_
  refine lz_arg (pc := 1213) (L := L) (xs := xs) (k := 1) rfl rfl rfl rfl rfl rfl l0 l4 (by omega) hL ?_
  refine lz_iv (pc := 1219) (v := some _) rfl rfl ((B_K hn).1 s) (Nat.le_of_ble_eq_true rfl) b1 ?_
  refine lz_al (pc := 1222) rfl l2 ?_
  refine lz_arg (pc := 1223) (L := L) (xs := xs) (k := 1) rfl rfl rfl rfl rfl rfl l0 l4 (by omega) hL ?_
  refine lz_iv (pc := 1229) (v := some _) rfl rfl ((B_m hn1).1 s1) (Nat.le_of_ble_eq_true rfl) b2 ?_
  exact lz_b2t (pc := 1232) rfl (decide_eq_true rfl) l
set_option maxRecDepth 20000 in
theorem lc_28 (hl : lvF lv i) (hi : i + 6 ≤ L) (hL : L ≤ 384) (hI : IN s n g) (h8 : g < 800) (H : aft L xs i g c sl) : nx L xs 1237 lv (mk s, n, c, sl) := by
  obtain ⟨l0, l1, l2, l3, l4⟩ := hl
  obtain ⟨r, s1, n1, c1, sl1, g1, s2, b1, b2, hn, hn1, i1, i2, i3, i4⟩ := p_legs (x := xs (i + 1)) hI
  obtain ⟨o, ok, l⟩ := H lv s2 n1 (c + c1 + 0) (sl + sl1 + 0) g1 ⟨l0, l1, l2, l3, l4⟩ i1 i2 (by omega) (by omega)
  refine ⟨o, ok, ?_⟩
  refine lz_al (pc := 1237) rfl l1 ?_
  refine lz_arg (pc := 1238) (L := L) (xs := xs) (k := 1) rfl rfl rfl rfl rfl rfl l0 l4 (by omega) hL ?_
  refine lz_iv (pc := 1244) (v := some _) rfl rfl ((B_K hn).1 s) (Nat.le_of_ble_eq_true rfl) b1 ?_
  refine lz_al (pc := 1247) rfl l2 ?_
  refine lz_arg (pc := 1248) (L := L) (xs := xs) (k := 1) rfl rfl rfl rfl rfl rfl l0 l4 (by omega) hL ?_
  refine lz_iv (pc := 1254) (v := some _) rfl rfl ((B_m hn1).1 s1) (Nat.le_of_ble_eq_true rfl) b2 ?_
  exact lz_b2t (pc := 1257) rfl (decide_eq_true rfl) l
set_option maxRecDepth 20000 in
theorem lc_29 (hl : lvF lv i) (hi : i + 6 ≤ L) (hL : L ≤ 384) (hI : IN s n g) (h8 : g < 800) (H : aft L xs i g c sl) : nx L xs 1262 lv (mk s, n, c, sl) := by
  obtain ⟨l0, l1, l2, l3, l4⟩ := hl
  obtain ⟨r, s1, n1, c1, sl1, g1, s2, b1, b2, hn, hn1, i1, i2, i3, i4⟩ := p_sit (x := xs (i + 1)) (y := xs (i + 2)) (z := xs (i + 3)) hI
  obtain ⟨o, ok, l⟩ := H lv s2 n1 (c + c1 + 0) (sl + sl1 + 0) g1 ⟨l0, l1, l2, l3, l4⟩ i1 i2 (by omega) (by omega)
  refine ⟨o, ok, ?_⟩
  refine lz_al (pc := 1262) rfl l1 ?_
  refine lz_arg (pc := 1263) (L := L) (xs := xs) (k := 1) rfl rfl rfl rfl rfl rfl l0 l4 (by omega) hL ?_
  refine lz_arg (pc := 1269) (L := L) (xs := xs) (k := 2) rfl rfl rfl rfl rfl rfl l0 l4 (by omega) hL ?_
  refine lz_arg (pc := 1275) (L := L) (xs := xs) (k := 3) rfl rfl rfl rfl rfl rfl l0 l4 (by omega) hL ?_
  refine lz_iv (pc := 1281) (v := some _) rfl rfl ((B_K hn).1 s) (Nat.le_of_ble_eq_true rfl) b1 ?_
  refine lz_al (pc := 1284) rfl l2 ?_
  refine lz_arg (pc := 1285) (L := L) (xs := xs) (k := 1) rfl rfl rfl rfl rfl rfl l0 l4 (by omega) hL ?_
  refine lz_arg (pc := 1291) (L := L) (xs := xs) (k := 2) rfl rfl rfl rfl rfl rfl l0 l4 (by omega) hL ?_
  refine lz_arg (pc := 1297) (L := L) (xs := xs) (k := 3) rfl rfl rfl rfl rfl rfl l0 l4 (by omega) hL ?_
  refine lz_iv (pc := 1303) (v := some _) rfl rfl ((B_m hn1).1 s1) (Nat.le_of_ble_eq_true rfl) b2 ?_
  exact lz_b2t (pc := 1306) rfl (decide_eq_true rfl) l
set_option maxRecDepth 20000 in
theorem lc_30 (hl : lvF lv i) (hi : i + 6 ≤ L) (hL : L ≤ 384) (hI : IN s n g) (h8 : g < 800) (H : aft L xs i g c sl) : nx L xs 1311 lv (mk s, n, c, sl) := by
  obtain ⟨l0, l1, l2, l3, l4⟩ := hl
  obtain ⟨r, s1, n1, c1, sl1, g1, s2, b1, b2, hn, hn1, i1, i2, i3, i4⟩ := p_chance (x := xs (i + 1)) (y := xs (i + 2)) (z := xs (i + 3)) (a := xs (i + 4)) hI
  obtain ⟨o, ok, l⟩ := H lv s2 n1 (c + c1 + 0) (sl + sl1 + 0) g1 ⟨l0, l1, l2, l3, l4⟩ i1 i2 (by omega) (by omega)
  refine ⟨o, ok, ?_⟩
  refine lz_al (pc := 1311) rfl l1 ?_
  refine lz_arg (pc := 1312) (L := L) (xs := xs) (k := 1) rfl rfl rfl rfl rfl rfl l0 l4 (by omega) hL ?_
  refine lz_arg (pc := 1318) (L := L) (xs := xs) (k := 2) rfl rfl rfl rfl rfl rfl l0 l4 (by omega) hL ?_
  refine lz_arg (pc := 1324) (L := L) (xs := xs) (k := 3) rfl rfl rfl rfl rfl rfl l0 l4 (by omega) hL ?_
  refine lz_arg (pc := 1330) (L := L) (xs := xs) (k := 4) rfl rfl rfl rfl rfl rfl l0 l4 (by omega) hL ?_
  refine lz_iv (pc := 1336) (v := some _) rfl rfl ((B_K hn).1 s) (Nat.le_of_ble_eq_true rfl) b1 ?_
  refine lz_al (pc := 1339) rfl l2 ?_
  refine lz_arg (pc := 1340) (L := L) (xs := xs) (k := 1) rfl rfl rfl rfl rfl rfl l0 l4 (by omega) hL ?_
  refine lz_arg (pc := 1346) (L := L) (xs := xs) (k := 2) rfl rfl rfl rfl rfl rfl l0 l4 (by omega) hL ?_
  refine lz_arg (pc := 1352) (L := L) (xs := xs) (k := 3) rfl rfl rfl rfl rfl rfl l0 l4 (by omega) hL ?_
  refine lz_arg (pc := 1358) (L := L) (xs := xs) (k := 4) rfl rfl rfl rfl rfl rfl l0 l4 (by omega) hL ?_
  refine lz_iv (pc := 1364) (v := some _) rfl rfl ((B_m hn1).1 s1) (Nat.le_of_ble_eq_true rfl) b2 ?_
  exact lz_b2t (pc := 1367) rfl (decide_eq_true rfl) l
set_option maxRecDepth 20000 in
theorem lc_31 (hl : lvF lv i) (hi : i + 6 ≤ L) (hL : L ≤ 384) (hI : IN s n g) (h8 : g < 800) (H : aft L xs i g c sl) : nx L xs 1372 lv (mk s, n, c, sl) := by
  obtain ⟨l0, l1, l2, l3, l4⟩ := hl
  obtain ⟨r, s1, n1, c1, sl1, g1, s2, b1, b2, hn, hn1, i1, i2, i3, i4⟩ := p_tried (x := xs (i + 1)) (y := xs (i + 2)) (z := xs (i + 3)) hI
  obtain ⟨o, ok, l⟩ := H lv s2 n1 (c + c1 + 0) (sl + sl1 + 0) g1 ⟨l0, l1, l2, l3, l4⟩ i1 i2 (by omega) (by omega)
  refine ⟨o, ok, ?_⟩
  refine lz_al (pc := 1372) rfl l1 ?_
  refine lz_arg (pc := 1373) (L := L) (xs := xs) (k := 1) rfl rfl rfl rfl rfl rfl l0 l4 (by omega) hL ?_
  refine lz_arg (pc := 1379) (L := L) (xs := xs) (k := 2) rfl rfl rfl rfl rfl rfl l0 l4 (by omega) hL ?_
  refine lz_arg (pc := 1385) (L := L) (xs := xs) (k := 3) rfl rfl rfl rfl rfl rfl l0 l4 (by omega) hL ?_
  refine lz_iv (pc := 1391) (v := some _) rfl rfl ((B_K hn).1 s) (Nat.le_of_ble_eq_true rfl) b1 ?_
  refine lz_al (pc := 1394) rfl l2 ?_
  refine lz_arg (pc := 1395) (L := L) (xs := xs) (k := 1) rfl rfl rfl rfl rfl rfl l0 l4 (by omega) hL ?_
  refine lz_arg (pc := 1401) (L := L) (xs := xs) (k := 2) rfl rfl rfl rfl rfl rfl l0 l4 (by omega) hL ?_
  refine lz_arg (pc := 1407) (L := L) (xs := xs) (k := 3) rfl rfl rfl rfl rfl rfl l0 l4 (by omega) hL ?_
  refine lz_iv (pc := 1413) (v := some _) rfl rfl ((B_m hn1).1 s1) (Nat.le_of_ble_eq_true rfl) b2 ?_
  exact lz_b2t (pc := 1416) rfl (decide_eq_true rfl) l
set_option maxRecDepth 20000 in
theorem lc_32 (hl : lvF lv i) (hi : i + 6 ≤ L) (hL : L ≤ 384) (hI : IN s n g) (h8 : g < 800) (H : aft L xs i g c sl) : nx L xs 1421 lv (mk s, n, c, sl) := by
  obtain ⟨l0, l1, l2, l3, l4⟩ := hl
  obtain ⟨r, s1, n1, c1, sl1, g1, s2, b1, b2, hn, hn1, i1, i2, i3, i4⟩ := p_undo hI
  obtain ⟨o, ok, l⟩ := H lv s2 n1 (c + c1 + 0) (sl + sl1 + 0) g1 ⟨l0, l1, l2, l3, l4⟩ i1 i2 (by omega) (by omega)
  refine ⟨o, ok, ?_⟩
  refine lz_al (pc := 1421) rfl l1 ?_
  refine lz_iv (pc := 1422) (v := some _) rfl rfl ((B_K hn).1 s) (Nat.le_of_ble_eq_true rfl) b1 ?_
  refine lz_al (pc := 1425) rfl l2 ?_
  refine lz_iv (pc := 1426) (v := some _) rfl rfl ((B_m hn1).1 s1) (Nat.le_of_ble_eq_true rfl) b2 ?_
  exact lz_b2t (pc := 1429) rfl (decide_eq_true rfl) l
set_option maxRecDepth 20000 in
theorem lc_33 (hl : lvF lv i) (hi : i + 6 ≤ L) (hL : L ≤ 384) (hI : IN s n g) (h8 : g < 800) (H : aft L xs i g c sl) : nx L xs 1434 lv (mk s, n, c, sl) := by
  obtain ⟨l0, l1, l2, l3, l4⟩ := hl
  obtain ⟨r, s1, n1, c1, sl1, g1, s2, b1, b2, hn, hn1, i1, i2, i3, i4⟩ := p_keep hI
  obtain ⟨o, ok, l⟩ := H lv s2 n1 (c + c1 + 0) (sl + sl1 + 0) g1 ⟨l0, l1, l2, l3, l4⟩ i1 i2 (by omega) (by omega)
  refine ⟨o, ok, ?_⟩
  refine lz_al (pc := 1434) rfl l1 ?_
  refine lz_iv (pc := 1435) (v := some _) rfl rfl ((B_K hn).1 s) (Nat.le_of_ble_eq_true rfl) b1 ?_
  refine lz_al (pc := 1438) rfl l2 ?_
  refine lz_iv (pc := 1439) (v := some _) rfl rfl ((B_m hn1).1 s1) (Nat.le_of_ble_eq_true rfl) b2 ?_
  exact lz_b2t (pc := 1442) rfl (decide_eq_true rfl) l
set_option maxRecDepth 20000 in
theorem lc_34 (hl : lvF lv i) (hi : i + 6 ≤ L) (hL : L ≤ 384) (hI : IN s n g) (h8 : g < 800) (H : aft L xs i g c sl) : nx L xs 1447 lv (mk s, n, c, sl) := by
  obtain ⟨l0, l1, l2, l3, l4⟩ := hl
  obtain ⟨r, s1, n1, c1, sl1, g1, s2, b1, b2, hn, hn1, i1, i2, i3, i4⟩ := p_back hI
  obtain ⟨o, ok, l⟩ := H lv s2 n1 (c + c1 + 0) (sl + sl1 + 0) g1 ⟨l0, l1, l2, l3, l4⟩ i1 i2 (by omega) (by omega)
  refine ⟨o, ok, ?_⟩
  refine lz_al (pc := 1447) rfl l1 ?_
  refine lz_iv (pc := 1448) (v := some _) rfl rfl ((B_K hn).1 s) (Nat.le_of_ble_eq_true rfl) b1 ?_
  refine lz_al (pc := 1451) rfl l2 ?_
  refine lz_iv (pc := 1452) (v := some _) rfl rfl ((B_m hn1).1 s1) (Nat.le_of_ble_eq_true rfl) b2 ?_
  exact lz_b2t (pc := 1455) rfl (decide_eq_true rfl) l
set_option maxRecDepth 20000 in
theorem lc_35 (hl : lvF lv i) (hi : i + 6 ≤ L) (hL : L ≤ 384) (hI : IN s n g) (h8 : g < 800) (H : aft L xs i g c sl) : nx L xs 1460 lv (mk s, n, c, sl) := by
  obtain ⟨l0, l1, l2, l3, l4⟩ := hl
  obtain ⟨r, s1, n1, c1, sl1, g1, s2, b1, b2, hn, hn1, i1, i2, i3, i4⟩ := p_count (x := xs (i + 1)) hI
  obtain ⟨o, ok, l⟩ := H lv s2 n1 (c + c1 + 0) (sl + sl1 + 0) g1 ⟨l0, l1, l2, l3, l4⟩ i1 i2 (by omega) (by omega)
  refine ⟨o, ok, ?_⟩
  refine lz_al (pc := 1460) rfl l1 ?_
  refine lz_arg (pc := 1461) (L := L) (xs := xs) (k := 1) rfl rfl rfl rfl rfl rfl l0 l4 (by omega) hL ?_
  refine lz_iv (pc := 1467) (v := some _) rfl rfl ((B_K hn).1 s) (Nat.le_of_ble_eq_true rfl) b1 ?_
  refine lz_al (pc := 1470) rfl l2 ?_
  refine lz_arg (pc := 1471) (L := L) (xs := xs) (k := 1) rfl rfl rfl rfl rfl rfl l0 l4 (by omega) hL ?_
  refine lz_iv (pc := 1477) (v := some _) rfl rfl ((B_m hn1).1 s1) (Nat.le_of_ble_eq_true rfl) b2 ?_
  exact lz_b2t (pc := 1480) rfl (decide_eq_true rfl) l
end Ln
