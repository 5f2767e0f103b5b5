/-! ===== throws of the class's own ===== -/
theorem ai_th_ok {l : Launch} (hl : l.stackTraces = false) {cc : ByteArray} {own : String × String} {nL pc E ik is ic : Nat} {tx : String} {names : List String} (hcls : Bundle.fit (ai_xn E) = true) (hnames : ∀ n ∈ names, Bundle.fit n = true) (hk : Cond.classLink own.1 ik (ai_xn E) ∈ lw_tbl) (hini : Cond.initialized (ai_xn E) ∈ lw_tbl)
    (hs : (own.1, is, tx) ∈ ([("PathsKept$Reader", 59, "a fault"), ("PathsKept", 137, "no such path"), ("PathsKept", 165, "no such what")] : List (String × Nat × String))) (hat : ∀ w ∈ vx_atS own.1 ic (ai_xn E) names, w ∈ lw_tbl ∧ ai_mv w = true) (hgood : ∀ w ∈ vx_atS own.1 ic (ai_xn E) names, vx_ot w = true) (hlen : names.length ≤ 3)
    (d0 : decode cc pc = .ok (.new ik, 3)) (d3 : decode cc (pc + 3) = .ok (.dup, 1)) (d4 : decode cc (pc + 4) = .ok (.ldc is, 2)) (d6 : decode cc (pc + 6) = .ok (.invokespecial ic, 3)) (d9 : decode cc (pc + 9) = .ok (.athrow, 1)) : ai_To l cc own nL pc (ai_th E) := by
  refine ⟨fun pc lv st r x h => ?_, ?_⟩
  · simp only [ai_th] at h
    split at h
    · cases h
      exact ⟨_, rfl⟩
    · cases h
  · intro p e R s m args below meth c D aC A X hout lv st r r' E' hf ad H locs ls Qc XC free mc ms hS hls hc1 hs1 hx hfr hc hs2
    simp only [ai_th] at hf
    split at hf
    · rename_i hcat
      cases hf
      obtain ⟨hx0, hb, hown, hwd, hK, hml, hlk, hnm, hA, hfr0, hlo0, hE⟩ := X
      obtain ⟨sa, hsa⟩ := hE.2.2.2.2.1 _ hs
      refine vx_throwS (sa := sa) (text := tx) (names := names) hx0 hb hl hown hcls hnames (hwd _ hk rfl) (hwd _ hini rfl) hsa (fun w hw => hwd w (hat w hw).1 (hat w hw).2) ?_ hE.2.2.1 hE.2.2.2.1 hS (hls.trans hml.symm) d0 d3 d4 d6 d9 hout ?_ ?_ hc1 hs1 hlk hx hfr hc hs2
      · intro w hw
        rcases List.mem_cons.mp hw with rfl | hw
        · rfl
        rcases List.mem_cons.mp hw with rfl | hw
        · rfl
        exact hgood w hw
      · omega
      · rw [ai_cats]
        omega
    · cases hf
def ai_nx : List String := ["java/lang/RuntimeException", "java/lang/Exception"]
theorem ai_nx_fit : ∀ n ∈ ai_nx, Bundle.fit n = true := by decide +kernel
set_option maxRecDepth 100000 in
theorem k_thw0 : ∀ w ∈ vx_atS "PathsKept$Reader" 61 (ai_xn 0) ai_nx, w ∈ lw_tbl ∧ ai_mv w = true := by decide +kernel
theorem k_thg0 : ∀ w ∈ vx_atS "PathsKept$Reader" 61 (ai_xn 0) ai_nx, vx_ot w = true := by decide +kernel
set_option maxRecDepth 100000 in
theorem k_throw0 {l : Launch} (hl : l.stackTraces = false) {Mt : Nat → ai_Md} {nL : Nat} {ret : Option FieldType} : ai_Ok l Mt cX3_fail (yX3_fail.cls, yX3_fail.name) nL ret 16 (ai_th 0) := Or.inr (Or.inr (Or.inr (ai_th_ok (tx := "a fault") (ik := 57) (is := 59) (ic := 61) hl (by decide +kernel) ai_nx_fit (ai_in_at 684 (by decide +kernel)) (ai_in_at 144 (by decide +kernel)) (by decide +kernel) k_thw0 k_thg0 (by decide) (by decide +kernel) (by decide +kernel) (by decide +kernel) (by decide +kernel) (by decide +kernel))))
set_option maxRecDepth 100000 in
theorem k_thw1 : ∀ w ∈ vx_atS "PathsKept" 139 (ai_xn 1) ai_nx, w ∈ lw_tbl ∧ ai_mv w = true := by decide +kernel
theorem k_thg1 : ∀ w ∈ vx_atS "PathsKept" 139 (ai_xn 1) ai_nx, vx_ot w = true := by decide +kernel
set_option maxRecDepth 100000 in
theorem k_throw1 {l : Launch} (hl : l.stackTraces = false) {Mt : Nat → ai_Md} {nL : Nat} {ret : Option FieldType} : ai_Ok l Mt cX10_path (yX10_path.cls, yX10_path.name) nL ret 8 (ai_th 1) := Or.inr (Or.inr (Or.inr (ai_th_ok (tx := "no such path") (ik := 135) (is := 137) (ic := 139) hl (by decide +kernel) ai_nx_fit (ai_in_at 1255 (by decide +kernel)) (ai_in_at 145 (by decide +kernel)) (by decide +kernel) k_thw1 k_thg1 (by decide) (by decide +kernel) (by decide +kernel) (by decide +kernel) (by decide +kernel) (by decide +kernel))))
set_option maxRecDepth 100000 in
theorem k_thw2 : ∀ w ∈ ax_atS "PathsKept" 167 (ai_xn 2) "java/lang/RuntimeException" 13 prog_31_method_4_code ["java/lang/Exception"], w ∈ lw_tbl ∧ ai_mv w = true := by decide +kernel
theorem k_thg2 : ∀ w ∈ ax_atS "PathsKept" 167 (ai_xn 2) "java/lang/RuntimeException" 13 prog_31_method_4_code ["java/lang/Exception"], vx_ot w = true := by decide +kernel
set_option maxRecDepth 100000 in
theorem k_throw2 {l : Launch} (hl : l.stackTraces = false) {Mt : Nat → ai_Md} {nL : Nat} {ret : Option FieldType} : ai_Ok l Mt cX10_path (yX10_path.cls, yX10_path.name) nL ret 177 (ai_th 2) := Or.inr (Or.inr (Or.inr (ai_th2_ok (tx := "no such what") (ik := 163) (is := 165) (ic := 167) (ix := 13) hl (by decide +kernel) (by decide +kernel) (by decide +kernel) (by decide +kernel) (by decide +kernel) (by decide +kernel) (by decide +kernel) (ai_in_at 1272 (by decide +kernel)) (ai_in_at 146 (by decide +kernel)) (by decide +kernel) k_thw2 k_thg2 (by decide) (by decide +kernel) (by decide +kernel) (by decide +kernel) (by decide +kernel) (by decide +kernel))))
