/-! ===== the words' text: its length, its letters ===== -/
abbrev sg_N : Nat → Prop := fun _ => False
def sg_P (aK aV : Nat) (vs : List Value) : Array Value → State → Prop := va_Pc vs (fun U => ai_wd #[] U ∧ sg_E sg_N aK aV U)
def sg_Q (v : Int32) : Array Value → State → Outcome → State → Prop := va_Qi (S := Unit) (fun r _ => r = v) (fun _ _ => True) sg_N
def sg_QV : Array Value → State → Outcome → State → Prop := va_Qv (S := Unit) (fun _ => True) (fun _ _ => True) sg_N
theorem sg_blind {aK aV : Nat} {vs : List Value} : FrameBlind (sg_P aK aV vs) := by
  intro a U g mk q
  obtain ⟨q0, q1, q2⟩ := q
  exact ⟨q0, ai_wd_at (s := U) (U := U.calling g mk a) (State.WarmedH.refl U) q1, sg_E_at (U := U.calling g mk a) q2 (State.WarmedH.refl U) (fun _ _ _ => rfl)⟩
theorem sg_P_at {aK aV : Nat} {args : Array Value} {s : State} {H : Heap} {locs : List Loc} {A : Nat → Prop} (vs : List Value) (hwd : ai_wd args s) (hE : sg_E A aK aV s) (hS : va_S A s.heap H locs) : ∀ U : State, U.heap = H → s.WarmedH U.vm → sg_P aK aV vs vs.toArray U := by
  intro U hU hW
  exact ⟨rfl, ai_wd_at hW hwd, sg_E_less (sg_E_at hE hW (fun a h1 h2 => by rw [hU]; exact hS.2.1 a h1 h2)) (fun _ h => h.elim)⟩
def sg_rm (f x : Nat) : Room := { frames := f, cells := 0, slots := 0, locals := x }
theorem sg_wm {s : State} {args : Array Value} {w : Cond} (hm : ai_mv w = true) (hw : w.before args s = true) : ∀ v ∈ [w], ∀ (a' : Array Value) (U : State), s.WarmedH U.vm → v.before a' U = true := by
  intro v hv a' U hW
  rw [List.mem_singleton.mp hv]
  exact ai_mv_at hW hm hw
theorem sg_par {y : MethodName} {n : Nat} (h : (parseMethodDescriptor y.desc).map (fun d => d.parameters.length) = some n) : ∀ sig, parseMethodDescriptor y.desc = some sig → n = sig.parameters.length := by
  intro sig hs
  rw [hs] at h
  exact (Option.some.inj h).symm
theorem sg_back {v : Int32} {s t : State} {H : Heap} {locs : List Loc} {args : Array Value} (hS : va_S sg_N s.heap H locs) (ht : t.heap = H) : sg_Q v args s (.returned (some (.int v))) t := ⟨⟨v, (), rfl, rfl, trivial⟩, hS.F ht⟩
theorem sg_coder (l : Launch) (aK aV : Nat) : Met l yJ0_coder_7d493 [Cond.code yJ0_coder_7d493 cJ0_coder_7d493 1 (some .byte)] (sg_rm 0 0) (sg_P aK aV [.ref aK]) (sg_Q 0) 0 0 sg_N := by
  refine Met.ofW (cc := cJ0_coder_7d493) (maxL := 1) (ret := some .byte) (by decide +kernel) rfl ?_
  intro p e s m args below meth c s₁ B hml hv
  obtain ⟨rfl, hwd0, hE⟩ := hv
  have hwd : ai_wd [Value.ref aK].toArray s := ai_wd_at (State.WarmedH.refl s) hwd0
  have hx := B.exec
  have hb := B.bytes
  have hown : s.vm.findClass RJ0 = some m.cls := findClass_of_methodNamed B.named
  have hS : va_S sg_N s.heap s.heap [] := va_S.rf
  rw [lg_entry_eq]
  have hl := lv_entry [Value.ref aK] (n := 1) (Nat.le_refl _)
  refine va_gets hx hb hE.1 hS hown (hwd _ tw_56 rfl) (fun _ h => h) (show decode _ 0 = .ok (.getstatic 38, 3) by decide +kernel) ?_
  refine lv_if_eq hx hb (tgt := 13) (show decode _ 3 = .ok (.ifCond .eq 10, 3) by decide +kernel) (by decide) (fun h => absurd h (by decide)) (fun _ => ?_)
  refine lv_aload_n hx hb (show decode _ 6 = .ok (.aload_n 0, 1) by decide +kernel) rfl (lv_at hl 0 rfl) ?_
  refine vk_getf hx hb hE.2.2.2.1 hS hown (hwd _ tw_1987 rfl) (fun _ h => h) (show decode _ 7 = .ok (.getfield 15, 3) by decide +kernel) ?_
  refine lv_goto hx hb (tgt := 14) (show decode _ 10 = .ok (.goto 4, 3) by decide +kernel) (by decide) ?_
  exact W.zret hx hb B.returns (by decide +kernel) (fun t ht _ => sg_back hS ht) (fun _ h => by cases h) (show decode _ 14 = .ok (.ireturn, 1) by decide +kernel) B.notSynchronized
theorem sg_latin (l : Launch) (aK aV : Nat) : Met l yJ0_isLatin1_aae02 [Cond.code yJ0_isLatin1_aae02 cJ0_isLatin1_aae02 1 (some .boolean)] (sg_rm 0 0) (sg_P aK aV [.ref aK]) (sg_Q 1) 0 0 sg_N := by
  refine Met.ofW (cc := cJ0_isLatin1_aae02) (maxL := 1) (ret := some .boolean) (by decide +kernel) rfl ?_
  intro p e s m args below meth c s₁ B hml hv
  obtain ⟨rfl, hwd0, hE⟩ := hv
  have hwd : ai_wd [Value.ref aK].toArray s := ai_wd_at (State.WarmedH.refl s) hwd0
  have hx := B.exec
  have hb := B.bytes
  have hown : s.vm.findClass RJ0 = some m.cls := findClass_of_methodNamed B.named
  have hS : va_S sg_N s.heap s.heap [] := va_S.rf
  rw [lg_entry_eq]
  have hl := lv_entry [Value.ref aK] (n := 1) (Nat.le_refl _)
  refine va_gets hx hb hE.1 hS hown (hwd _ tw_56 rfl) (fun _ h => h) (show decode _ 0 = .ok (.getstatic 38, 3) by decide +kernel) ?_
  refine lv_if_eq hx hb (tgt := 17) (show decode _ 3 = .ok (.ifCond .eq 14, 3) by decide +kernel) (by decide) (fun h => absurd h (by decide)) (fun _ => ?_)
  refine lv_aload_n hx hb (show decode _ 6 = .ok (.aload_n 0, 1) by decide +kernel) rfl (lv_at hl 0 rfl) ?_
  refine vk_getf hx hb hE.2.2.2.1 hS hown (hwd _ tw_1987 rfl) (fun _ h => h) (show decode _ 7 = .ok (.getfield 15, 3) by decide +kernel) ?_
  refine lv_if_ne hx hb (tgt := 17) (show decode _ 10 = .ok (.ifCond .ne 7, 3) by decide +kernel) (by decide) (fun h => absurd rfl h) (fun _ => ?_)
  refine lv_iconst hx hb (show decode _ 13 = .ok (.iconst 1, 1) by decide +kernel) rfl ?_
  refine lv_goto hx hb (tgt := 18) (show decode _ 14 = .ok (.goto 4, 3) by decide +kernel) (by decide) ?_
  exact W.zret hx hb B.returns (by decide +kernel) (fun t ht _ => sg_back hS ht) (fun _ h => by cases h) (show decode _ 18 = .ok (.ireturn, 1) by decide +kernel) B.notSynchronized
theorem sg_length (l : Launch) (aK aV : Nat) : Met l yJ0_length_8abf5 [Cond.code yJ0_length_8abf5 cJ0_length_8abf5 1 (some .int)] (sg_rm 1 32) (sg_P aK aV [.ref aK]) (sg_Q 108) 0 0 sg_N := by
  refine Met.ofW (cc := cJ0_length_8abf5) (maxL := 1) (ret := some .int) (by decide +kernel) rfl ?_
  intro p e s m args below meth c s₁ B hml hv
  obtain ⟨rfl, hwd0, hE⟩ := hv
  have hwd : ai_wd [Value.ref aK].toArray s := ai_wd_at (State.WarmedH.refl s) hwd0
  have hx := B.exec
  have hb := B.bytes
  have hown : s.vm.findClass RJ0 = some m.cls := findClass_of_methodNamed B.named
  have hS : va_S sg_N s.heap s.heap [] := va_S.rf
  rw [lg_entry_eq]
  have hl := lv_entry [Value.ref aK] (n := 1) (Nat.le_refl _)
  refine lv_aload_n hx hb (show decode _ 0 = .ok (.aload_n 0, 1) by decide +kernel) rfl (lv_at hl 0 rfl) ?_
  refine vk_getf hx hb hE.2.2.2.2.1 hS hown (hwd _ tw_1986 rfl) (fun _ h => h) (show decode _ 1 = .ok (.getfield 9, 3) by decide +kernel) ?_
  refine va_tlen hx hb hE.2.2.2.2.2 hS (v := 108) rfl (show decode _ 4 = .ok (.arraylength, 1) by decide +kernel) ?_
  refine lv_aload_n hx hb (show decode _ 5 = .ok (.aload_n 0, 1) by decide +kernel) rfl (lv_at hl 0 rfl) ?_
  refine va_calli (va_runV (Ts := []) (n := 0) (own := RJ0) (C := RJ0) (index := 335) (As := []) (b := aK) ⟨hx, hb, hml, hown, fun _ h => by cases h⟩ (sg_coder l aK aV)
    ⟨⟨rfl, rfl, by decide +kernel, by decide +kernel, sg_wm rfl (hwd _ tw_55 rfl), List.mem_cons_self, hwd _ tw_55 rfl, hwd _ tw_4 rfl, ⟨by decide +kernel, by decide +kernel⟩, sg_par (by decide +kernel), hwd _ tw_52 rfl⟩, hwd _ tw_53 rfl, hwd _ tw_54 rfl⟩
    ⟨sg_blind, ?_, sg_P_at [.ref aK] hwd hE hS⟩ rfl rfl hl.1 rfl (Nat.le_of_ble_eq_true rfl) (show decode _ 6 = .ok (.invokevirtual 335, 3) by decide +kernel) ⟨Nat.le_refl _, Nat.le_refl _⟩) hS (fun _ _ h => h) (fun _ h => h) ?_
  · obtain ⟨cell, h1, h2, h3, -⟩ := hE.2.2.1
    exact ⟨cell, h1, h2, h3⟩
  · intro r u t H1 locs1 ht hal hr _ _ _ hS1
    subst hr
    refine lv_ishr hx hb (show decode _ 9 = .ok (.ishr, 1) by decide +kernel) ?_
    exact W.iret hx hb B.returns (fun t ht _ => sg_back hS1 ht) (fun q h => hS1.2.2 q h) (show decode _ 10 = .ok (.ireturn, 1) by decide +kernel) B.notSynchronized
def yJ32_check : MethodName := ⟨"jdk/internal/util/Preconditions", "checkIndex", "(IILjava/util/function/BiFunction;)I"⟩
theorem sg_in {x : Int32} (h : vp_in x 108) : ¬ x < 0 ∧ x < 108 := by
  have h0 : ¬ x < 0 := fun hx => h (Or.inl hx)
  have h1 : x.toNatClampNeg < 108 := Nat.lt_of_not_le (fun hx => h (Or.inr hx))
  refine ⟨h0, ?_⟩
  have h2 : (0 : Int) ≤ x.toInt := by
    have := Int32.not_lt.mp h0
    simpa using Int32.le_iff_toInt_le.mp this
  have h3 : x.toInt.toNat < 108 := h1
  rw [Int32.lt_iff_toInt_lt]
  show x.toInt < 108
  omega
theorem sg_check1 (l : Launch) (aK aV : Nat) (x : Int32) (w : Value) (hw : w.category = 1) (h : vp_in x 108) : Met l yJ32_check [Cond.code yJ32_check prog_32_method_11_code 3 (some .int)] (sg_rm 0 0) (sg_P aK aV [.int x, .int 108, w]) (sg_Q x) 0 0 sg_N := by
  refine Met.ofW (cc := prog_32_method_11_code) (maxL := 3) (ret := some .int) (by decide +kernel) rfl ?_
  intro p e s m args below meth c s₁ B hml hv
  obtain ⟨rfl, hwd0, hE⟩ := hv
  have hx := B.exec
  have hb := B.bytes
  have hS : va_S sg_N s.heap s.heap [] := va_S.rf
  rw [lg_entry_eq]
  have hl := lv_entry [Value.int x, .int 108, w] (n := 3) (by cases w <;> first | exact Nat.le_refl _ | cases hw)
  have hx0 : ¬ x < 0 ∧ x < 108 := sg_in h
  refine lv_iload_n hx hb (show decode _ 0 = .ok (.iload_n 0, 1) by decide +kernel) rfl (lv_at hl 0 rfl) ?_
  refine lv_if_lt hx hb (tgt := 9) (show decode _ 1 = .ok (.ifCond .lt 8, 3) by decide +kernel) (by decide) (fun h => absurd h hx0.1) (fun _ => ?_)
  refine lv_iload_n hx hb (show decode _ 4 = .ok (.iload_n 0, 1) by decide +kernel) rfl (lv_at hl 0 rfl) ?_
  refine lv_iload_n hx hb (show decode _ 5 = .ok (.iload_n 1, 1) by decide +kernel) rfl (lv_at hl 1 rfl) ?_
  refine lv_icmp_lt hx hb (tgt := 16) (show decode _ 6 = .ok (.if_icmp .lt 10, 3) by decide +kernel) (by decide) (fun _ => ?_) (fun h => absurd hx0.2 h)
  refine lv_iload_n hx hb (show decode _ 16 = .ok (.iload_n 0, 1) by decide +kernel) rfl (lv_at hl 0 rfl) ?_
  exact W.iret hx hb B.returns (fun t ht _ => sg_back hS ht) (fun _ h => by cases h) (show decode _ 17 = .ok (.ireturn, 1) by decide +kernel) B.notSynchronized
theorem sg_check (l : Launch) (aK aV : Nat) (x : Int32) (h : vp_in x 108) : Met l yJ0_checkIndex_df160 [Cond.code yJ0_checkIndex_df160 cJ0_checkIndex_df160 2 none] (sg_rm 1 32) (sg_P aK aV [.int x, .int 108]) sg_QV 0 0 sg_N := by
  refine Met.ofW (cc := cJ0_checkIndex_df160) (maxL := 2) (ret := none) (by decide +kernel) rfl ?_
  intro p e s m args below meth c s₁ B hml hv
  obtain ⟨rfl, hwd0, hE⟩ := hv
  have hwd : ai_wd [Value.int x, .int 108].toArray s := ai_wd_at (State.WarmedH.refl s) hwd0
  have hx := B.exec
  have hb := B.bytes
  have hown : s.vm.findClass RJ0 = some m.cls := findClass_of_methodNamed B.named
  have hS : va_S sg_N s.heap s.heap [] := va_S.rf
  rw [lg_entry_eq]
  have hl := lv_entry [Value.int x, .int 108] (n := 2) (Nat.le_refl _)
  refine lv_iload_n hx hb (show decode _ 0 = .ok (.iload_n 0, 1) by decide +kernel) rfl (lv_at hl 0 rfl) ?_
  refine lv_iload_n hx hb (show decode _ 1 = .ok (.iload_n 1, 1) by decide +kernel) rfl (lv_at hl 1 rfl) ?_
  obtain ⟨w, hw, hz⟩ : ∃ w : Value, w.category = 1 ∧ va_Z "jdk/internal/util/Preconditions" "SIOOBE_FORMATTER" "Ljava/util/function/BiFunction;" w sg_N s s.heap := by
    rcases hE.2.1 with hz | ⟨z, hz⟩
    · exact ⟨_, rfl, hz⟩
    · exact ⟨_, rfl, hz⟩
  refine va_gets hx hb hz hS hown (hwd _ tw_72 rfl) (fun _ h => h) (show decode _ 2 = .ok (.getstatic 1053, 3) by decide +kernel) ?_
  refine va_calli (va_runS (Ts := []) (n := 3) (own := RJ0) (index := 1059) (As := [.int x, .int 108, w]) ⟨hx, hb, hml, hown, fun _ h => by cases h⟩ (sg_check1 l aK aV x w hw h)
    ⟨⟨rfl, rfl, by decide +kernel, by decide +kernel, sg_wm rfl (hwd _ tw_76 rfl), List.mem_cons_self, hwd _ tw_76 rfl, hwd _ tw_6 rfl, ⟨by decide +kernel, by decide +kernel⟩, sg_par (by decide +kernel), hwd _ tw_74 rfl⟩, hwd _ tw_75 rfl⟩
    ⟨sg_blind, sg_P_at [.int x, .int 108, w] hwd hE hS⟩ rfl rfl hl.1 rfl (Nat.le_of_ble_eq_true rfl) (show decode _ 5 = .ok (.invokestatic 1059, 3) by decide +kernel) ⟨Nat.le_refl _, Nat.le_refl _⟩) hS (fun _ _ h => h) (fun _ h => h) ?_
  intro r u t H1 locs1 ht hal hr _ _ _ hS1
  refine lv_pop hx hb (show decode _ 8 = .ok (.pop, 1) by decide +kernel) rfl ?_
  exact W.vret hx hb B.returns (fun t ht _ => ⟨⟨(), rfl, trivial, trivial⟩, hS1.F ht⟩) (fun q h => hS1.2.2 q h) (show decode _ 9 = .ok (.return_, 1) by decide +kernel) B.notSynchronized
theorem sg_byte : ∀ b ∈ ai_wds, ((b &&& 255).toUInt32 % 65536).toInt32 = b ∧ narrow .char (.int b) = .int b := by decide +kernel
theorem sg_byte_at {x : Int32} (h : vp_in x 108) : (((ai_wds.getD x.toNatClampNeg 0) &&& 255).toUInt32 % 65536).toInt32 = ai_wds.getD x.toNatClampNeg 0 ∧ narrow .char (.int (ai_wds.getD x.toNatClampNeg 0)) = .int (ai_wds.getD x.toNatClampNeg 0) := by
  have h1 : x.toNatClampNeg < 108 := Nat.lt_of_not_le (fun hx => h (Or.inr hx))
  have h2 : x.toNatClampNeg < ai_wds.length := h1
  apply sg_byte
  rw [List.getD_eq_getElem?_getD, List.getElem?_eq_getElem h2, Option.getD_some]
  exact List.getElem_mem h2
theorem sg_char1 (l : Launch) (aK aV : Nat) (x : Int32) (h : vp_in x 108) : Met l yJ1_charAt_3b067 [Cond.code yJ1_charAt_3b067 cJ1_charAt_3b067 2 (some .char)] (sg_rm 2 64) (sg_P aK aV [.ref aV, .int x]) (sg_Q (ai_wds.getD x.toNatClampNeg 0)) 0 0 sg_N := by
  refine Met.ofW (cc := cJ1_charAt_3b067) (maxL := 2) (ret := some .char) (by decide +kernel) rfl ?_
  intro p e s m args below meth c s₁ B hml hv
  obtain ⟨rfl, hwd0, hE⟩ := hv
  have hwd : ai_wd [Value.ref aV, .int x].toArray s := ai_wd_at (State.WarmedH.refl s) hwd0
  have hx := B.exec
  have hb := B.bytes
  have hown : s.vm.findClass RJ1 = some m.cls := findClass_of_methodNamed B.named
  have hS : va_S sg_N s.heap s.heap [] := va_S.rf
  rw [lg_entry_eq]
  have hl := lv_entry [Value.ref aV, .int x] (n := 2) (Nat.le_refl _)
  refine lv_iload_n hx hb (show decode _ 0 = .ok (.iload_n 1, 1) by decide +kernel) rfl (lv_at hl 1 rfl) ?_
  refine lv_aload_n hx hb (show decode _ 1 = .ok (.aload_n 0, 1) by decide +kernel) rfl (lv_at hl 0 rfl) ?_
  refine va_tlen hx hb hE.2.2.2.2.2 hS (v := 108) rfl (show decode _ 2 = .ok (.arraylength, 1) by decide +kernel) ?_
  refine va_callv (va_runS (Ts := []) (n := 2) (own := RJ1) (index := 9) (As := [.int x, .int 108]) ⟨hx, hb, hml, hown, fun _ h => by cases h⟩ (sg_check l aK aV x h)
    ⟨⟨rfl, rfl, by decide +kernel, by decide +kernel, sg_wm rfl (hwd _ tw_71 rfl), List.mem_cons_self, hwd _ tw_71 rfl, hwd _ tw_4 rfl, ⟨by decide +kernel, by decide +kernel⟩, sg_par (by decide +kernel), hwd _ tw_69 rfl⟩, hwd _ tw_70 rfl⟩
    ⟨sg_blind, sg_P_at [.int x, .int 108] hwd hE hS⟩ rfl rfl hl.1 rfl (Nat.le_of_ble_eq_true rfl) (show decode _ 3 = .ok (.invokestatic 9, 3) by decide +kernel) ⟨Nat.le_refl _, Nat.le_refl _⟩) hS (fun _ _ h => h) (fun _ h => h) ?_
  intro u t H1 locs1 ht hal _ _ _ _ hS1
  refine lv_aload_n hx hb (show decode _ 6 = .ok (.aload_n 0, 1) by decide +kernel) rfl (lv_at hl 0 rfl) ?_
  refine lv_iload_n hx hb (show decode _ 7 = .ok (.iload_n 1, 1) by decide +kernel) rfl (lv_at hl 1 rfl) ?_
  refine va_tb hx hb hE.2.2.2.2.2 hS1 h rfl (show decode _ 8 = .ok (.baload, 1) by decide +kernel) ?_
  refine lv_sipush hx hb (show decode _ 9 = .ok (.sipush 255, 3) by decide +kernel) (v := 255) rfl ?_
  refine lv_iand hx hb (show decode _ 12 = .ok (.iand, 1) by decide +kernel) ?_
  refine lv_i2c hx hb (show decode _ 13 = .ok (.i2c, 1) by decide +kernel) (sg_byte_at h).1 ?_
  exact W.zret hx hb B.returns (sg_byte_at h).2 (fun t ht _ => sg_back hS1 ht) (fun q h => hS1.2.2 q h) (show decode _ 14 = .ok (.ireturn, 1) by decide +kernel) B.notSynchronized
theorem sg_char (l : Launch) (aK aV : Nat) (x : Int32) (h : vp_in x 108) : Met l yJ0_charAt_5068e [Cond.code yJ0_charAt_5068e cJ0_charAt_5068e 2 (some .char)] (sg_rm 3 96) (sg_P aK aV [.ref aK, .int x]) (sg_Q (ai_wds.getD x.toNatClampNeg 0)) 0 0 sg_N := by
  refine Met.ofW (cc := cJ0_charAt_5068e) (maxL := 2) (ret := some .char) (by decide +kernel) rfl ?_
  intro p e s m args below meth c s₁ B hml hv
  obtain ⟨rfl, hwd0, hE⟩ := hv
  have hwd : ai_wd [Value.ref aK, .int x].toArray s := ai_wd_at (State.WarmedH.refl s) hwd0
  have hx := B.exec
  have hb := B.bytes
  have hown : s.vm.findClass RJ0 = some m.cls := findClass_of_methodNamed B.named
  have hS : va_S sg_N s.heap s.heap [] := va_S.rf
  rw [lg_entry_eq]
  have hl := lv_entry [Value.ref aK, .int x] (n := 2) (Nat.le_refl _)
  refine lv_aload_n hx hb (show decode _ 0 = .ok (.aload_n 0, 1) by decide +kernel) rfl (lv_at hl 0 rfl) ?_
  refine va_calli (va_runV (Ts := []) (n := 0) (own := RJ0) (C := RJ0) (index := 492) (As := []) (b := aK) ⟨hx, hb, hml, hown, fun _ h => by cases h⟩ (sg_latin l aK aV)
    ⟨⟨rfl, rfl, by decide +kernel, by decide +kernel, sg_wm rfl (hwd _ tw_65 rfl), List.mem_cons_self, hwd _ tw_65 rfl, hwd _ tw_4 rfl, ⟨by decide +kernel, by decide +kernel⟩, sg_par (by decide +kernel), hwd _ tw_62 rfl⟩, hwd _ tw_63 rfl, hwd _ tw_64 rfl⟩
    ⟨sg_blind, ?_, sg_P_at [.ref aK] hwd hE hS⟩ rfl rfl hl.1 rfl (Nat.le_of_ble_eq_true rfl) (show decode _ 1 = .ok (.invokevirtual 492, 3) by decide +kernel) ⟨Nat.le_refl _, Nat.le_refl _⟩) hS (fun _ _ h => h) (fun _ h => h) ?_
  · obtain ⟨cell, h1, h2, h3, -⟩ := hE.2.2.1
    exact ⟨cell, h1, h2, h3⟩
  · intro r u t H1 locs1 ht hal hr _ _ _ hS1
    subst hr
    refine lv_if_eq hx hb (tgt := 16) (show decode _ 4 = .ok (.ifCond .eq 12, 3) by decide +kernel) (by decide) (fun h => absurd h (by decide)) (fun _ => ?_)
    refine lv_aload_n hx hb (show decode _ 7 = .ok (.aload_n 0, 1) by decide +kernel) rfl (lv_at hl 0 rfl) ?_
    refine vk_getf hx hb hE.2.2.2.2.1 hS1 hown (hwd _ tw_1986 rfl) (fun _ h => h) (show decode _ 8 = .ok (.getfield 9, 3) by decide +kernel) ?_
    refine lv_iload_n hx hb (show decode _ 11 = .ok (.iload_n 1, 1) by decide +kernel) rfl (lv_at hl 1 rfl) ?_
    refine va_calli (va_runS (Ts := []) (n := 2) (own := RJ0) (index := 495) (As := [.ref aV, .int x]) ⟨hx, hb, hml, hown, fun _ h => by cases h⟩ (sg_char1 l aK aV x h)
      ⟨⟨rfl, rfl, by decide +kernel, by decide +kernel, sg_wm rfl (hwd _ tw_68 rfl), List.mem_cons_self, hwd _ tw_68 rfl, hwd _ tw_5 rfl, ⟨by decide +kernel, by decide +kernel⟩, sg_par (by decide +kernel), hwd _ tw_66 rfl⟩, hwd _ tw_67 rfl⟩
      ⟨sg_blind, sg_P_at [.ref aV, .int x] hwd hE hS1⟩ rfl rfl hl.1 rfl (Nat.le_of_ble_eq_true rfl) (show decode _ 12 = .ok (.invokestatic 495, 3) by decide +kernel) ⟨Nat.le_refl _, Nat.le_refl _⟩) hS1 (fun _ _ h => h) (fun _ h => h) ?_
    intro r u t H2 locs2 ht hal hr _ _ _ hS2
    subst hr
    exact W.zret hx hb B.returns (sg_byte_at h).2 (fun t ht _ => sg_back hS2 ht) (fun q h => hS2.2.2 q h) (show decode _ 15 = .ok (.ireturn, 1) by decide +kernel) B.notSynchronized
/-- the text's length, one of its letters: each an operation of its own -/
def op_wl : ai_Op := ai_sp (fun pc lv st r => if (st.map fun v => v.category).sum ≤ 8 then some (pc + 5, lv, .int 108 :: st, r) else none)
def op_wc (i : Nat) : ai_Op := ai_sp (fun pc lv st r => match ai_ld i lv with
  | some (.int x) => if ai_in x 108 = true ∧ (st.map fun v => v.category).sum ≤ 8 then some (pc + 6, lv, .int (ai_wds.getD x.toNatClampNeg 0) :: st, r) else none
  | _ => none)
theorem k_wl {l : Launch} {Mt : Nat → ai_Md} {cc : ByteArray} {nL pc : Nat} {ret : Option FieldType} {nm : String} (d0 : decode cc pc = .ok (.ldc 13, 2)) (d1 : decode cc (pc + 2) = .ok (.invokevirtual 15, 3)) : ai_Ok l Mt cc ("PathsKept$Tokens", nm) nL ret pc op_wl := by
  refine Or.inl ⟨_, rfl, ?_, ?_⟩
  · intro p l e R s m args below meth c D aC A ad0 n0 Q X lv st r pc' lv' st' r' hf hR hG ad H locs ls hI
    simp only at hf
    split at hf
    · rename_i hcat
      cases hf
      obtain ⟨i1, i2, i3, i4, i5, i6, i7, i8⟩ := hI
      obtain ⟨hx, hb, hown, hwd, hK, hml, -, -, hA, hfr, hlo, hE0⟩ := X
      obtain ⟨aK, aV, hRf, hE⟩ := hE0.2.2.2.2.2.2
      refine va_ldcS hx hb hown hRf d0 ?_
      refine va_calli (va_runV (Ts := []) (n := 0) (own := "PathsKept$Tokens") (C := RJ0) (index := 15) (As := []) (b := aK) ⟨hx, hb, hml, hown, fun _ h => by cases h⟩ (sg_length l aK aV)
        ⟨⟨rfl, rfl, ?_, ?_, sg_wm rfl (hwd _ tw_51 rfl), List.mem_cons_self, hwd _ tw_51 rfl, hwd _ tw_4 rfl, ⟨by decide +kernel, by decide +kernel⟩, sg_par (by decide +kernel), hwd _ tw_48 rfl⟩, hwd _ tw_49 rfl, hwd _ tw_50 rfl⟩
        ⟨sg_blind, ?_, sg_P_at [.ref aK] hwd hE i4⟩ rfl rfl i5.1 rfl ?_ d1 hR) i4 (fun _ _ h => h.elim) (fun _ h => h.elim) ?_
      · show 1 + 1 ≤ R.frames
        omega
      · show 8 + (1 + 11) + 32 ≤ R.locals
        omega
      · obtain ⟨cell, h1, h2, h3, -⟩ := hE.2.2.1.kept i4.2.1
        exact ⟨cell, h1, h2, h3⟩
      · show 2 * 0 + _ ≤ 8
        rw [ai_cats]
        omega
      · intro v u t H1 locs1 ht hal hr _ hz hq hS1
        subst hr
        exact hG ad H1 locs1 ls ⟨i1, i2.kept (fun k q hk => hq q.1 ((i2 k q hk).lt) (fun h => h)), i3, hS1, i5, ai_wS_c ai_lt_i i6, i7, i8⟩
    · cases hf
  · intro pc lv st r pc' lv' st' r' h
    simp only at h
    split at h
    · cases h; exact ⟨Nat.le_refl _, Nat.le_refl _⟩
    · cases h
theorem k_wc {l : Launch} {Mt : Nat → ai_Md} {cc : ByteArray} {nL pc i : Nat} {k : Fin 4} {ret : Option FieldType} {nm : String} (d0 : decode cc pc = .ok (.ldc 13, 2)) (d1 : decode cc (pc + 2) = .ok (.iload_n k, 1)) (hk : (k : Nat) = i) (d2 : decode cc (pc + 3) = .ok (.invokevirtual 21, 3)) : ai_Ok l Mt cc ("PathsKept$Tokens", nm) nL ret pc (op_wc i) := by
  refine Or.inl ⟨_, rfl, ?_, ?_⟩
  · intro p l e R s m args below meth c D aC A ad0 n0 Q X lv st r pc' lv' st' r' hf hR hG ad H locs ls hI
    simp only at hf
    split at hf
    · rename_i x hx0
      split at hf
      · rename_i hcat
        cases hf
        obtain ⟨i1, i2, i3, i4, i5, i6, i7, i8⟩ := hI
        obtain ⟨hx, hb, hown, hwd, hK, hml, -, -, hA, hfr, hlo, hE0⟩ := X
        obtain ⟨aK, aV, hRf, hE⟩ := hE0.2.2.2.2.2.2
        refine va_ldcS hx hb hown hRf d0 ?_
        refine lv_iload_n hx hb d1 hk (ai_ld_at i5 hx0) ?_
        refine va_calli (va_runV (Ts := []) (n := 1) (own := "PathsKept$Tokens") (C := RJ0) (index := 21) (As := [.int x]) (b := aK) ⟨hx, hb, hml, hown, fun _ h => by cases h⟩ (sg_char l aK aV x (ai_in_vp hcat.1))
          ⟨⟨rfl, rfl, ?_, ?_, sg_wm rfl (hwd _ tw_61 rfl), List.mem_cons_self, hwd _ tw_61 rfl, hwd _ tw_4 rfl, ⟨by decide +kernel, by decide +kernel⟩, sg_par (by decide +kernel), hwd _ tw_58 rfl⟩, hwd _ tw_59 rfl, hwd _ tw_60 rfl⟩
          ⟨sg_blind, ?_, sg_P_at [.ref aK, .int x] hwd hE i4⟩ rfl rfl i5.1 rfl ?_ d2 hR) i4 (fun _ _ h => h.elim) (fun _ h => h.elim) ?_
        · show 3 + 1 ≤ R.frames
          omega
        · show 8 + (2 + 11) + 96 ≤ R.locals
          omega
        · obtain ⟨cell, h1, h2, h3, -⟩ := hE.2.2.1.kept i4.2.1
          exact ⟨cell, h1, h2, h3⟩
        · show 2 * 0 + _ ≤ 8
          rw [ai_cats]
          omega
        · intro v u t H1 locs1 ht hal hr _ hz hq hS1
          subst hr
          exact hG ad H1 locs1 ls ⟨i1, i2.kept (fun k q hk => hq q.1 ((i2 k q hk).lt) (fun h => h)), i3, hS1, i5, ai_wS_c ai_lt_i i6, i7, i8⟩
      · cases hf
    · cases hf
  · intro pc lv st r pc' lv' st' r' h
    simp only at h
    split at h
    · split at h
      · cases h; exact ⟨Nat.le_refl _, Nat.le_refl _⟩
      · cases h
    · cases h
