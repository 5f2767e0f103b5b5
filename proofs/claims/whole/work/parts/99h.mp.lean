/-! ===== the heap before the law has its array of longs (printed by wip/gen/first.py) ===== -/
def MP (s : zS) : ai_H := va_up (mk s) 238 (.inr (0, []))
section Lo
variable {s s' : zS} {a c k : Nat} {j x : Int32} {ty : FieldType} {v : Value} {y : Int64}
theorem mp_a (h : a < 238) : MP s a = mk s a := if_neg (by omega)
theorem lo_ob (h : a < 238) : ai_ob (MP s, 238, 0, 0) a c = ai_ob (mk s, 239, 0, 0) a c := by
  unfold ai_ob
  dsimp only
  rw [mp_a h]
  by_cases h0 : 0 < a
  · rw [if_pos ⟨h0, h⟩, if_pos ⟨h0, by omega⟩]
  · rw [if_neg (by omega), if_neg (by omega)]
theorem lo_ar (h : a < 238) : ai_ar (MP s, 238, 0, 0) a = ai_ar (mk s, 239, 0, 0) a := by
  unfold ai_ar
  dsimp only
  rw [mp_a h]
  by_cases h0 : 0 < a
  · rw [if_pos ⟨h0, h⟩, if_pos ⟨h0, by omega⟩]
  · rw [if_neg (by omega), if_neg (by omega)]
theorem lo_up {x : va_E} (h : a < 238) (e : va_up (mk s) a x = mk s') : va_up (MP s) a x = MP s' := by
  funext b
  show va_up (MP s) a x b = va_up (mk s') 238 (.inr (0, [])) b
  rw [← e]
  unfold MP va_up
  by_cases h1 : b = a
  · rw [if_pos h1, if_neg (by omega), if_pos h1]
  · rw [if_neg h1]
    by_cases h2 : b = 238
    · rw [if_pos h2, if_pos h2]
    · rw [if_neg h2, if_neg h2, if_neg h1]
theorem lo_kO (h : a < 238) : kO 238 (MP s) a c = kO 239 (mk s) a c := by unfold kO; rw [lo_ob h]
theorem lo_pI (h : a < 238) : pI 238 (MP s) a c k = pI 239 (mk s) a c k := by unfold pI; rw [lo_ob h]
theorem lo_pJ (h : a < 238) : pJ 238 (MP s) a c k = pJ 239 (mk s) a c k := by unfold pJ; rw [lo_ob h]
theorem lo_pR (h : a < 238) : pR 238 (MP s) a c k = pR 239 (mk s) a c k := by unfold pR; rw [lo_ob h]
theorem lo_lA (h : a < 238) : lA 238 (MP s) a = lA 239 (mk s) a := by unfold lA; rw [lo_ar h]
theorem lo_gX (h : a < 238) : gX k 238 (MP s) a j = gX k 239 (mk s) a j := by unfold gX; rw [lo_ar h]
theorem lo_gB (h : a < 238) : gB 238 (MP s) a j = gB 239 (mk s) a j := by unfold gB; rw [lo_gX h, lo_gX h]
theorem lo_gJ (h : a < 238) : gJ 238 (MP s) a j = gJ 239 (mk s) a j := by unfold gJ; rw [lo_ar h]
theorem lo_sF (h : a < 238) (e : sF 239 (mk s) a c k ty v = some (mk s')) : sF 238 (MP s) a c k ty v = some (MP s') := by
  unfold sF at e ⊢
  rw [lo_ob h]
  split at e
  · split at e
    · rename_i hc
      rw [if_pos hc, lo_up h (Option.some.inj e)]
    · cases e
  · cases e
theorem lo_wX0 {g : Int32 → Int32} {h1 : ai_H} (h : a < 238) (e : wX k g 239 (mk s) a j x = some h1) : wX k g 238 (MP s) a j x = some (va_up h1 238 (.inr (0, []))) := by
  unfold wX at e ⊢
  rw [lo_ar h]
  split at e
  · split at e
    · rename_i hc
      rw [if_pos hc, ← Option.some.inj e]
      congr 1
      funext b
      unfold MP va_up
      by_cases h1 : b = a
      · rw [if_pos h1, if_neg (by omega), if_pos h1]
      · rw [if_neg h1]
        by_cases h2 : b = 238
        · rw [if_pos h2, if_pos h2]
        · rw [if_neg h2, if_neg h2, if_neg h1]
    · cases e
  · cases e
theorem lo_wXn {g : Int32 → Int32} (h : a < 238) (e : wX k g 239 (mk s) a j x = none) : wX k g 238 (MP s) a j x = none := by
  unfold wX at e ⊢
  rw [lo_ar h]
  split at e
  · split at e
    · cases e
    · rename_i hc
      rw [if_neg hc]
  · rfl
theorem lo_wX {g : Int32 → Int32} (h : a < 238) (e : wX k g 239 (mk s) a j x = some (mk s')) : wX k g 238 (MP s) a j x = some (MP s') := lo_wX0 h e
theorem lo_wB (h : a < 238) (e : wB 239 (mk s) a j x = some (mk s')) : wB 238 (MP s) a j x = some (MP s') := by
  unfold wB at e ⊢
  cases h1 : wX 3 (vp_nar .boolean) 239 (mk s) a j x with
  | some q =>
    rw [h1] at e
    cases e
    rw [lo_wX0 h h1]
    rfl
  | none =>
    rw [h1] at e
    rw [lo_wXn h h1]
    exact lo_wX0 h e
theorem lo_wJ (h : a < 238) (e : wJ 239 (mk s) a j y = some (mk s')) : wJ 238 (MP s) a j y = some (MP s') := by
  unfold wJ at e ⊢
  rw [lo_ar h]
  split at e
  · split at e
    · rename_i hc
      rw [if_pos hc, lo_up h (Option.some.inj e)]
    · cases e
  · cases e
end Lo
set_option maxRecDepth 20000 in
theorem bMPm : bMm MP 238 := by
  obtain ⟨h0, h1, h2, h3, h4, h5, h6, h7, h8, h9, h10, h11, h12, h13, h14, h15, h16, h17, h18, h19, h20, h21, h22, h23, h24, h25, h26, h27, h28, h29, h30, h31, h32, h33, h34, h35, h36, h37, h38, h39, h40, h41, h42, h43, h44, h45, h46, h47, h48, h49, h50, h51, h52, h53, h54, h55, h56, h57, h58, h59, h60, h61, h62, h63, h64, h65, h66, h67, h68, h69, h70, h71, h72, h73, h74, h75, h76, h77, h78, h79, h80, h81, h82, h83, h84, h85, h86, h87, h88, h89, h90, h91, h92, h93, h94, h95, h96, h97, h98, h99, h100, h101, h102, h103, h104, h105, h106, h107, h108, h109, h110, h111, h112, h113, h114, h115, h116, h117, h118, h119, h120, h121, h122, h123, h124, h125, h126, h127, h128, h129, h130, h131, h132, h133, h134, h135, h136, h137, h138, h139, h140, h141, h142, h143, h144, h145, h146, h147, h148, h149, h150, h151⟩ := B_m (n := 239) (Nat.le_refl _)
  exact ⟨(fun s => (lo_kO (by omega)).trans (h0 s)),
   (fun s => (lo_pR (by omega)).trans (h1 s)),
   (fun s => (lo_pI (by omega)).trans (h2 s)),
   (fun s x => lo_sF (by omega) (h3 s x)),
   (fun s => (lo_pI (by omega)).trans (h4 s)),
   (fun s x => lo_sF (by omega) (h5 s x)),
   (fun s => (lo_pR (by omega)).trans (h6 s)),
   (fun s => (lo_pI (by omega)).trans (h7 s)),
   (fun s x => lo_sF (by omega) (h8 s x)),
   (fun s => (lo_pI (by omega)).trans (h9 s)),
   (fun s x => lo_sF (by omega) (h10 s x)),
   (fun s => (lo_pI (by omega)).trans (h11 s)),
   (fun s x => lo_sF (by omega) (h12 s x)),
   (fun s => (lo_pI (by omega)).trans (h13 s)),
   (fun s x => lo_sF (by omega) (h14 s x)),
   (fun s => (lo_pI (by omega)).trans (h15 s)),
   (fun s x => lo_sF (by omega) (h16 s x)),
   (fun s => (lo_pI (by omega)).trans (h17 s)),
   (fun s x => lo_sF (by omega) (h18 s x)),
   (fun s => (lo_pI (by omega)).trans (h19 s)),
   (fun s x => lo_sF (by omega) (h20 s x)),
   (fun s => (lo_pI (by omega)).trans (h21 s)),
   (fun s x => lo_sF (by omega) (h22 s x)),
   (fun s => (lo_pI (by omega)).trans (h23 s)),
   (fun s x => lo_sF (by omega) (h24 s x)),
   (fun s => (lo_pI (by omega)).trans (h25 s)),
   (fun s x => lo_sF (by omega) (h26 s x)),
   (fun s => (lo_pI (by omega)).trans (h27 s)),
   (fun s x => lo_sF (by omega) (h28 s x)),
   (fun s => (lo_pI (by omega)).trans (h29 s)),
   (fun s x => lo_sF (by omega) (h30 s x)),
   (fun s => (lo_pI (by omega)).trans (h31 s)),
   (fun s x => lo_sF (by omega) (h32 s x)),
   (fun s => (lo_pI (by omega)).trans (h33 s)),
   (fun s x => lo_sF (by omega) (h34 s x)),
   (fun s => (lo_pI (by omega)).trans (h35 s)),
   (fun s x => lo_sF (by omega) (h36 s x)),
   (fun s => (lo_pI (by omega)).trans (h37 s)),
   (fun s x => lo_sF (by omega) (h38 s x)),
   (fun s => (lo_pI (by omega)).trans (h39 s)),
   (fun s x => lo_sF (by omega) (h40 s x)),
   (fun s => (lo_pI (by omega)).trans (h41 s)),
   (fun s x => lo_sF (by omega) (h42 s x)),
   (fun s => (lo_pI (by omega)).trans (h43 s)),
   (fun s x => lo_sF (by omega) (h44 s x)),
   (fun s => (lo_pI (by omega)).trans (h45 s)),
   (fun s x => lo_sF (by omega) (h46 s x)),
   (fun s => (lo_pR (by omega)).trans (h47 s)),
   (fun s => (lo_pR (by omega)).trans (h48 s)),
   (fun s => (lo_pR (by omega)).trans (h49 s)),
   (fun s => (lo_pR (by omega)).trans (h50 s)),
   (fun s => (lo_pR (by omega)).trans (h51 s)),
   (fun s => (lo_pR (by omega)).trans (h52 s)),
   (fun s => (lo_pR (by omega)).trans (h53 s)),
   (fun s => (lo_pR (by omega)).trans (h54 s)),
   (fun s => (lo_pR (by omega)).trans (h55 s)),
   (fun s => (lo_pR (by omega)).trans (h56 s)),
   (fun s => (lo_pR (by omega)).trans (h57 s)),
   (fun s => (lo_pR (by omega)).trans (h58 s)),
   (fun s => (lo_pR (by omega)).trans (h59 s)),
   (fun s => (lo_pR (by omega)).trans (h60 s)),
   (fun s => (lo_pR (by omega)).trans (h61 s)),
   (fun s => (lo_pR (by omega)).trans (h62 s)),
   (fun s => (lo_pR (by omega)).trans (h63 s)),
   (fun s => (lo_pR (by omega)).trans (h64 s)),
   (fun s => (lo_pR (by omega)).trans (h65 s)),
   (fun s => (lo_pR (by omega)).trans (h66 s)),
   (fun s => (lo_pR (by omega)).trans (h67 s)),
   (fun s => (lo_pR (by omega)).trans (h68 s)),
   (fun s => (lo_pR (by omega)).trans (h69 s)),
   (fun s => (lo_pR (by omega)).trans (h70 s)),
   (fun s => (lo_pR (by omega)).trans (h71 s)),
   (fun s => (lo_pR (by omega)).trans (h72 s)),
   (fun s => (lo_pR (by omega)).trans (h73 s)),
   (fun s => (lo_pI (by omega)).trans (h74 s)),
   (fun s x => lo_sF (by omega) (h75 s x)),
   (fun s => (lo_pI (by omega)).trans (h76 s)),
   (fun s x => lo_sF (by omega) (h77 s x)),
   (fun s => (lo_pI (by omega)).trans (h78 s)),
   (fun s x => lo_sF (by omega) (h79 s x)),
   (fun s => (lo_pI (by omega)).trans (h80 s)),
   (fun s x => lo_sF (by omega) (h81 s x)),
   (fun s => (lo_pI (by omega)).trans (h82 s)),
   (fun s => lo_sF (by omega) (h83 s)),
   (fun s => lo_sF (by omega) (h84 s)),
   (fun s => (lo_pI (by omega)).trans (h85 s)),
   (fun s => lo_sF (by omega) (h86 s)),
   (fun s => lo_sF (by omega) (h87 s)),
   (fun s => (lo_pR (by omega)).trans (h88 s)),
   (fun s => (lo_pR (by omega)).trans (h89 s)),
   (fun s => (lo_pI (by omega)).trans (h90 s)),
   (fun s => lo_sF (by omega) (h91 s)),
   (fun s => lo_sF (by omega) (h92 s)),
   (fun s => (lo_pR (by omega)).trans (h93 s)),
   (fun s => (lo_pR (by omega)).trans (h94 s)),
   (fun s => (lo_pR (by omega)).trans (h95 s)),
   (fun s => (lo_pR (by omega)).trans (h96 s)),
   (fun s => (lo_pR (by omega)).trans (h97 s)),
   (fun s => (lo_pR (by omega)).trans (h98 s)),
   (fun s => (lo_pR (by omega)).trans (h99 s)),
   (fun s => (lo_pR (by omega)).trans (h100 s)),
   (fun s => (lo_pJ (by omega)).trans (h101 s)),
   (fun s x => lo_sF (by omega) (h102 s x)),
   (fun s => (lo_pI (by omega)).trans (h103 s)),
   (fun s => lo_sF (by omega) (h104 s)),
   (fun s => lo_sF (by omega) (h105 s)),
   (fun s => (lo_pI (by omega)).trans (h106 s)),
   (fun s => lo_sF (by omega) (h107 s)),
   (fun s => lo_sF (by omega) (h108 s)),
   (fun s => (lo_pI (by omega)).trans (h109 s)),
   (fun s => lo_sF (by omega) (h110 s)),
   (fun s => lo_sF (by omega) (h111 s)),
   (fun s => (lo_pI (by omega)).trans (h112 s)),
   (fun s => lo_sF (by omega) (h113 s)),
   (fun s => lo_sF (by omega) (h114 s)),
   (fun s => (lo_pI (by omega)).trans (h115 s)),
   (fun s => lo_sF (by omega) (h116 s)),
   (fun s => lo_sF (by omega) (h117 s)),
   (fun s => (lo_pI (by omega)).trans (h118 s)),
   (fun s x => lo_sF (by omega) (h119 s x)),
   (fun s => (lo_pI (by omega)).trans (h120 s)),
   (fun s x => lo_sF (by omega) (h121 s x)),
   (fun s => (lo_pI (by omega)).trans (h122 s)),
   (fun s x => lo_sF (by omega) (h123 s x)),
   (fun s => (lo_pR (by omega)).trans (h124 s)),
   (fun s => (lo_pR (by omega)).trans (h125 s)),
   (fun s => (lo_pR (by omega)).trans (h126 s)),
   (fun s => (lo_pR (by omega)).trans (h127 s)),
   (fun s => (lo_pR (by omega)).trans (h128 s)),
   (fun s => (lo_pI (by omega)).trans (h129 s)),
   (fun s x => lo_sF (by omega) (h130 s x)),
   (fun s => (lo_pR (by omega)).trans (h131 s)),
   (fun s => (lo_pI (by omega)).trans (h132 s)),
   (fun s x => lo_sF (by omega) (h133 s x)),
   (fun s => (lo_pI (by omega)).trans (h134 s)),
   (fun s x => lo_sF (by omega) (h135 s x)),
   (fun s => (lo_pR (by omega)).trans (h136 s)),
   (fun s => (lo_pR (by omega)).trans (h137 s)),
   (fun s => (lo_pR (by omega)).trans (h138 s)),
   (fun s => (lo_pI (by omega)).trans (h139 s)),
   (fun s x => lo_sF (by omega) (h140 s x)),
   (fun s => (lo_pR (by omega)).trans (h141 s)),
   (fun s => (lo_pI (by omega)).trans (h142 s)),
   (fun s => lo_sF (by omega) (h143 s)),
   (fun s => lo_sF (by omega) (h144 s)),
   (fun s => (lo_pR (by omega)).trans (h145 s)),
   (fun s => (lo_pI (by omega)).trans (h146 s)),
   (fun s x => lo_sF (by omega) (h147 s x)),
   (fun s => (lo_pI (by omega)).trans (h148 s)),
   (fun s x => lo_sF (by omega) (h149 s x)),
   (fun s => (lo_pJ (by omega)).trans (h150 s)),
   (fun s x => lo_sF (by omega) (h151 s x))⟩
set_option maxRecDepth 20000 in
theorem bMPma : bMma MP 238 := by
  obtain ⟨h0, h1, h2, h3, h4, h5, h6, h7, h8, h9, h10, h11, h12, h13, h14, h15, h16, h17, h18, h19, h20, h21, h22, h23, h24, h25, h26, h27, h28, h29, h30, h31, h32, h33, h34, h35, h36, h37, h38, h39, h40, h41, h42, h43, h44, h45, h46, h47, h48, h49, h50, h51, h52, h53, h54, h55, h56, h57, h58, h59, h60, h61, h62, h63, h64, h65, h66, h67, h68, h69, h70, h71⟩ := B_ma (n := 239) (Nat.le_refl _)
  exact ⟨(fun s j g0 => (lo_gX (by omega)).trans (h0 s j g0)),
   (fun s j x g0 => lo_wX (by omega) (h1 s j x g0)),
   (fun s => (lo_lA (by omega)).trans (h2 s)),
   (fun s j g0 => (lo_gX (by omega)).trans (h3 s j g0)),
   (fun s j x g0 => lo_wX (by omega) (h4 s j x g0)),
   (fun s => (lo_lA (by omega)).trans (h5 s)),
   (fun s j g0 => (lo_gB (by omega)).trans (h6 s j g0)),
   (fun s j x g0 => lo_wB (by omega) (h7 s j x g0)),
   (fun s => (lo_lA (by omega)).trans (h8 s)),
   (fun s j g0 => (lo_gX (by omega)).trans (h9 s j g0)),
   (fun s j x g0 => lo_wX (by omega) (h10 s j x g0)),
   (fun s => (lo_lA (by omega)).trans (h11 s)),
   (fun s j g0 => (lo_gX (by omega)).trans (h12 s j g0)),
   (fun s j x g0 => lo_wX (by omega) (h13 s j x g0)),
   (fun s => (lo_lA (by omega)).trans (h14 s)),
   (fun s j g0 => (lo_gX (by omega)).trans (h15 s j g0)),
   (fun s j x g0 => lo_wX (by omega) (h16 s j x g0)),
   (fun s => (lo_lA (by omega)).trans (h17 s)),
   (fun s j g0 => (lo_gX (by omega)).trans (h18 s j g0)),
   (fun s j x g0 => lo_wX (by omega) (h19 s j x g0)),
   (fun s => (lo_lA (by omega)).trans (h20 s)),
   (fun s j g0 => (lo_gX (by omega)).trans (h21 s j g0)),
   (fun s j x g0 => lo_wX (by omega) (h22 s j x g0)),
   (fun s => (lo_lA (by omega)).trans (h23 s)),
   (fun s j g0 => (lo_gX (by omega)).trans (h24 s j g0)),
   (fun s j x g0 => lo_wX (by omega) (h25 s j x g0)),
   (fun s => (lo_lA (by omega)).trans (h26 s)),
   (fun s j g0 => (lo_gX (by omega)).trans (h27 s j g0)),
   (fun s j x g0 => lo_wX (by omega) (h28 s j x g0)),
   (fun s => (lo_lA (by omega)).trans (h29 s)),
   (fun s j g0 => (lo_gX (by omega)).trans (h30 s j g0)),
   (fun s j x g0 => lo_wX (by omega) (h31 s j x g0)),
   (fun s => (lo_lA (by omega)).trans (h32 s)),
   (fun s j g0 => (lo_gX (by omega)).trans (h33 s j g0)),
   (fun s j x g0 => lo_wX (by omega) (h34 s j x g0)),
   (fun s => (lo_lA (by omega)).trans (h35 s)),
   (fun s j g0 => (lo_gX (by omega)).trans (h36 s j g0)),
   (fun s j x g0 => lo_wX (by omega) (h37 s j x g0)),
   (fun s => (lo_lA (by omega)).trans (h38 s)),
   (fun s j g0 => (lo_gX (by omega)).trans (h39 s j g0)),
   (fun s j x g0 => lo_wX (by omega) (h40 s j x g0)),
   (fun s => (lo_lA (by omega)).trans (h41 s)),
   (fun s j g0 => (lo_gX (by omega)).trans (h42 s j g0)),
   (fun s j x g0 => lo_wX (by omega) (h43 s j x g0)),
   (fun s => (lo_lA (by omega)).trans (h44 s)),
   (fun s j g0 => (lo_gX (by omega)).trans (h45 s j g0)),
   (fun s j x g0 => lo_wX (by omega) (h46 s j x g0)),
   (fun s => (lo_lA (by omega)).trans (h47 s)),
   (fun s j g0 => (lo_gX (by omega)).trans (h48 s j g0)),
   (fun s j x g0 => lo_wX (by omega) (h49 s j x g0)),
   (fun s => (lo_lA (by omega)).trans (h50 s)),
   (fun s j g0 => (lo_gX (by omega)).trans (h51 s j g0)),
   (fun s j x g0 => lo_wX (by omega) (h52 s j x g0)),
   (fun s => (lo_lA (by omega)).trans (h53 s)),
   (fun s j g0 => (lo_gX (by omega)).trans (h54 s j g0)),
   (fun s j x g0 => lo_wX (by omega) (h55 s j x g0)),
   (fun s => (lo_lA (by omega)).trans (h56 s)),
   (fun s j g0 => (lo_gX (by omega)).trans (h57 s j g0)),
   (fun s j x g0 => lo_wX (by omega) (h58 s j x g0)),
   (fun s => (lo_lA (by omega)).trans (h59 s)),
   (fun s j g0 => (lo_gX (by omega)).trans (h60 s j g0)),
   (fun s j x g0 => lo_wX (by omega) (h61 s j x g0)),
   (fun s => (lo_lA (by omega)).trans (h62 s)),
   (fun s j g0 => (lo_gB (by omega)).trans (h63 s j g0)),
   (fun s j x g0 => lo_wB (by omega) (h64 s j x g0)),
   (fun s => (lo_lA (by omega)).trans (h65 s)),
   (fun s j g0 => (lo_gX (by omega)).trans (h66 s j g0)),
   (fun s j x g0 => lo_wX (by omega) (h67 s j x g0)),
   (fun s => (lo_lA (by omega)).trans (h68 s)),
   (fun s j g0 => (lo_gX (by omega)).trans (h69 s j g0)),
   (fun s j x g0 => lo_wX (by omega) (h70 s j x g0)),
   (fun s => (lo_lA (by omega)).trans (h71 s))⟩
set_option maxRecDepth 20000 in
theorem bMPmb : bMmb MP 238 := by
  obtain ⟨h0, h1, h2, h3, h4, h5, h6, h7, h8, h9, h10, h11, h12, h13, h14, h15, h16, h17, h18, h19, h20, h21, h22, h23, h24, h25, h26, h27, h28, h29, h30, h31, h32, h33, h34, h35, h36, h37, h38, h39⟩ := B_mb (n := 239) (Nat.le_refl _)
  exact ⟨(fun s j g0 => (lo_gX (by omega)).trans (h0 s j g0)),
   (fun s j x g0 => lo_wX (by omega) (h1 s j x g0)),
   (fun s => (lo_lA (by omega)).trans (h2 s)),
   (fun s j g0 => (lo_gX (by omega)).trans (h3 s j g0)),
   (fun s j x g0 => lo_wX (by omega) (h4 s j x g0)),
   (fun s => (lo_lA (by omega)).trans (h5 s)),
   (fun s j g0 => (lo_gX (by omega)).trans (h6 s j g0)),
   (fun s j x g0 => lo_wX (by omega) (h7 s j x g0)),
   (fun s => (lo_lA (by omega)).trans (h8 s)),
   (fun s j g0 => (lo_gX (by omega)).trans (h9 s j g0)),
   (fun s j x g0 => lo_wX (by omega) (h10 s j x g0)),
   (fun s => (lo_lA (by omega)).trans (h11 s)),
   (fun s j g0 => (lo_gX (by omega)).trans (h12 s j g0)),
   (fun s j x g0 => lo_wX (by omega) (h13 s j x g0)),
   (fun s => (lo_lA (by omega)).trans (h14 s)),
   (fun s j g0 => (lo_gJ (by omega)).trans (h15 s j g0)),
   (fun s j x g0 => lo_wJ (by omega) (h16 s j x g0)),
   (fun s j g0 => (lo_gJ (by omega)).trans (h17 s j g0)),
   (fun s j x g0 => lo_wJ (by omega) (h18 s j x g0)),
   (fun s j g0 => (lo_gX (by omega)).trans (h19 s j g0)),
   (fun s j x g0 => lo_wX (by omega) (h20 s j x g0)),
   (fun s => (lo_lA (by omega)).trans (h21 s)),
   (fun s j g0 => (lo_gX (by omega)).trans (h22 s j g0)),
   (fun s j x g0 => lo_wX (by omega) (h23 s j x g0)),
   (fun s => (lo_lA (by omega)).trans (h24 s)),
   (fun s j g0 => (lo_gX (by omega)).trans (h25 s j g0)),
   (fun s j x g0 => lo_wX (by omega) (h26 s j x g0)),
   (fun s => (lo_lA (by omega)).trans (h27 s)),
   (fun s j g0 => (lo_gB (by omega)).trans (h28 s j g0)),
   (fun s j x g0 => lo_wB (by omega) (h29 s j x g0)),
   (fun s => (lo_lA (by omega)).trans (h30 s)),
   (fun s j g0 => (lo_gX (by omega)).trans (h31 s j g0)),
   (fun s j x g0 => lo_wX (by omega) (h32 s j x g0)),
   (fun s => (lo_lA (by omega)).trans (h33 s)),
   (fun s j g0 => (lo_gX (by omega)).trans (h34 s j g0)),
   (fun s j x g0 => lo_wX (by omega) (h35 s j x g0)),
   (fun s => (lo_lA (by omega)).trans (h36 s)),
   (fun s j g0 => (lo_gX (by omega)).trans (h37 s j g0)),
   (fun s j x g0 => lo_wX (by omega) (h38 s j x g0)),
   (fun s => (lo_lA (by omega)).trans (h39 s))⟩
set_option maxRecDepth 20000 in
theorem bMPmc : bMmc MP 238 := by
  obtain ⟨h0, h1, h2, h3, h4, h5, h6, h7, h8, h9, h10, h11, h12, h13, h14, h15, h16, h17, h18, h19, h20, h21, h22, h23, h24, h25, h26, h27, h28, h29, h30, h31, h32, h33, h34, h35⟩ := B_mc (n := 239) (Nat.le_refl _)
  exact ⟨(fun s j g0 => (lo_gX (by omega)).trans (h0 s j g0)),
   (fun s j x g0 => lo_wX (by omega) (h1 s j x g0)),
   (fun s => (lo_lA (by omega)).trans (h2 s)),
   (fun s j g0 => (lo_gX (by omega)).trans (h3 s j g0)),
   (fun s j x g0 => lo_wX (by omega) (h4 s j x g0)),
   (fun s => (lo_lA (by omega)).trans (h5 s)),
   (fun s j g0 => (lo_gB (by omega)).trans (h6 s j g0)),
   (fun s j x g0 => lo_wB (by omega) (h7 s j x g0)),
   (fun s => (lo_lA (by omega)).trans (h8 s)),
   (fun s j g0 => (lo_gX (by omega)).trans (h9 s j g0)),
   (fun s j x g0 => lo_wX (by omega) (h10 s j x g0)),
   (fun s => (lo_lA (by omega)).trans (h11 s)),
   (fun s j g0 => (lo_gX (by omega)).trans (h12 s j g0)),
   (fun s j x g0 => lo_wX (by omega) (h13 s j x g0)),
   (fun s => (lo_lA (by omega)).trans (h14 s)),
   (fun s j g0 => (lo_gX (by omega)).trans (h15 s j g0)),
   (fun s j x g0 => lo_wX (by omega) (h16 s j x g0)),
   (fun s => (lo_lA (by omega)).trans (h17 s)),
   (fun s j g0 => (lo_gB (by omega)).trans (h18 s j g0)),
   (fun s j x g0 => lo_wB (by omega) (h19 s j x g0)),
   (fun s => (lo_lA (by omega)).trans (h20 s)),
   (fun s j g0 => (lo_gX (by omega)).trans (h21 s j g0)),
   (fun s j x g0 => lo_wX (by omega) (h22 s j x g0)),
   (fun s => (lo_lA (by omega)).trans (h23 s)),
   (fun s j g0 => (lo_gB (by omega)).trans (h24 s j g0)),
   (fun s j x g0 => lo_wB (by omega) (h25 s j x g0)),
   (fun s => (lo_lA (by omega)).trans (h26 s)),
   (fun s j g0 => (lo_gX (by omega)).trans (h27 s j g0)),
   (fun s j x g0 => lo_wX (by omega) (h28 s j x g0)),
   (fun s => (lo_lA (by omega)).trans (h29 s)),
   (fun s j g0 => (lo_gX (by omega)).trans (h30 s j g0)),
   (fun s j x g0 => lo_wX (by omega) (h31 s j x g0)),
   (fun s => (lo_lA (by omega)).trans (h32 s)),
   (fun s j g0 => (lo_gX (by omega)).trans (h33 s j g0)),
   (fun s j x g0 => lo_wX (by omega) (h34 s j x g0)),
   (fun s => (lo_lA (by omega)).trans (h35 s))⟩
set_option maxRecDepth 20000 in
theorem bMPmz : bMmz MP 238 := by
  obtain ⟨h0, h1, h2, h3, h4, h5, h6, h7, h8⟩ := B_mz (n := 239) (Nat.le_refl _)
  exact ⟨(fun s b g0 => lo_sF (by omega) (h0 s b g0)),
   (fun s b g0 => lo_sF (by omega) (h1 s b g0)),
   (fun s b g0 => lo_sF (by omega) (h2 s b g0)),
   (fun s b g0 => lo_sF (by omega) (h3 s b g0)),
   (fun s b g0 => lo_sF (by omega) (h4 s b g0)),
   (fun s b g0 => lo_sF (by omega) (h5 s b g0)),
   (fun s b g0 => lo_sF (by omega) (h6 s b g0)),
   (fun s b g0 => lo_sF (by omega) (h7 s b g0)),
   (fun s b g0 => lo_sF (by omega) (h8 s b g0))⟩
theorem bM_MP : bM MP 238 := ⟨bMPm, bMPma, bMPmb, bMPmc, bMPmz⟩
