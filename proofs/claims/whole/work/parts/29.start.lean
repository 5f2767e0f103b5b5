/-! ===== the law's start: what the Statement gives there, as the machine's own facts ===== -/
theorem st_R {args : Array Value} {s : State} {own tx : String} {k : Nat} (h : (Cond.stringRef own k tx).before args s = true) : ∃ a : Nat, vk_R own k tx a s := by
  have hcur : ∃ cur, s.vm.findClass own = some cur := by
    have h1 := h
    simp only [Cond.before, Cond.holds, Cond.value] at h1
    cases hc : s.vm.findClass own with
    | none => simp [hc] at h1
    | some cur => exact ⟨cur, rfl⟩
  obtain ⟨cur, hcur⟩ := hcur
  obtain ⟨k, cf, j, a, hk, -, -, -, hr, hev⟩ := Cond.stringRef_spec hcur h
  exact ⟨a, vk_R.of h hev⟩
theorem st_arr {args : Array Value} {s : State} {ty : FieldType} (h : (Cond.arrayClass ty).before args s = true) (hty : ∀ C, ty ≠ .object C) : ∃ c : ClassId, ArrOfT s c ty ∧ va_RA s c ty := by
  obtain ⟨c, k, comp, h1, h2, h3⟩ := Cond.arrayClass_spec h
  refine ⟨c, fun n z => ⟨fun k h => (by cases h), k, h2, comp, h3⟩, ?_⟩
  cases ty with
  | object C => exact absurd rfl (hty C)
  | _ => exact h1
theorem st_arrO {args : Array Value} {s : State} {C : String} (h : (Cond.arrayOver (.object C)).before args s = true) : ∃ c : ClassId, ArrOfT s c (.object C) ∧ va_RA s c (.object C) := by
  obtain ⟨comp, c, k, h1, h2, h3, h4, h5⟩ := Cond.arrayOver_spec h
  exact ⟨c, fun n z => ⟨fun k h => (by cases h), k, h3, comp, h4⟩, k, comp, h3, h4, h1, h5⟩
set_option maxRecDepth 100000 in
theorem st_i0 : (Cond.instantiable "PathsKept$Days" (8 : Nat)) ∈ lw_tbl := ts_2 (ai_nth_mem 88 rfl)
set_option maxRecDepth 100000 in
theorem st_i1 : (Cond.instantiable "PathsKept$Game" (3 : Nat)) ∈ lw_tbl := ts_2 (ai_nth_mem 189 rfl)
set_option maxRecDepth 100000 in
theorem st_i2 : (Cond.instantiable "PathsKept$Laws" (8 : Nat)) ∈ lw_tbl := ts_1 (ai_nth_mem 175 rfl)
set_option maxRecDepth 100000 in
theorem st_i3 : (Cond.instantiable "PathsKept$Reader" (5 : Nat)) ∈ lw_tbl := ts_1 (ai_nth_mem 36 rfl)
set_option maxRecDepth 100000 in
theorem st_i4 : (Cond.instantiable "PathsKept$Seen" (9 : Nat)) ∈ lw_tbl := ts_2 (ai_nth_mem 120 rfl)
set_option maxRecDepth 100000 in
theorem st_i5 : (Cond.instantiable "PathsKept$Standing" (9 : Nat)) ∈ lw_tbl := ts_2 (ai_nth_mem 33 rfl)
set_option maxRecDepth 100000 in
theorem st_i6 : (Cond.instantiable "PathsKept$Table" (5 : Nat)) ∈ lw_tbl := ts_1 (ai_nth_mem 148 rfl)
set_option maxRecDepth 100000 in
theorem st_i7 : (Cond.instantiable "PathsKept$Tokens" (7 : Nat)) ∈ lw_tbl := ts_1 (ai_nth_mem 42 rfl)
set_option maxRecDepth 100000 in
theorem st_i8 : (Cond.instantiable "PathsKept$Told" (10 : Nat)) ∈ lw_tbl := ts_1 (ai_nth_mem 142 rfl)
set_option maxRecDepth 100000 in
theorem st_i9 : (Cond.instantiable "PathsKept$Ways" (7 : Nat)) ∈ lw_tbl := ts_2 (ai_nth_mem 159 rfl)
set_option maxRecDepth 100000 in
theorem st_i10 : (Cond.instantiable "PathsKept" (15 : Nat)) ∈ lw_tbl := ts_1 (ai_nth_mem 28 rfl)
set_option maxRecDepth 100000 in
theorem st_i11 : (Cond.instantiable "PathsKeptModel" (96 : Nat)) ∈ lw_tbl := ts_5 (ai_nth_mem 207 rfl)
theorem st_cl {args : Array Value} {s : State} (hts : ∀ w ∈ lw_tbl, w.before args s = true) (c : Nat) : ∃ q : ClassId × (Nat → Nat), ∀ w : vw_C, vwCl[c]? = some w → u_Kn s w.1 w.2.1 w.2.2 q.1 q.2 := by
  match c with
  | 0 =>
    obtain ⟨cC, iS, h⟩ := u_known hts (fun w hw => (ck0.2.2.2 w hw).1) (hts _ st_i0)
    exact ⟨(cC, iS), fun w hw => by cases hw; exact h⟩
  | 1 =>
    obtain ⟨cC, iS, h⟩ := u_known hts (fun w hw => (ck1.2.2.2 w hw).1) (hts _ st_i1)
    exact ⟨(cC, iS), fun w hw => by cases hw; exact h⟩
  | 2 =>
    obtain ⟨cC, iS, h⟩ := u_known hts (fun w hw => (ck2.2.2.2 w hw).1) (hts _ st_i2)
    exact ⟨(cC, iS), fun w hw => by cases hw; exact h⟩
  | 3 =>
    obtain ⟨cC, iS, h⟩ := u_known hts (fun w hw => (ck3.2.2.2 w hw).1) (hts _ st_i3)
    exact ⟨(cC, iS), fun w hw => by cases hw; exact h⟩
  | 4 =>
    obtain ⟨cC, iS, h⟩ := u_known hts (fun w hw => (ck4.2.2.2 w hw).1) (hts _ st_i4)
    exact ⟨(cC, iS), fun w hw => by cases hw; exact h⟩
  | 5 =>
    obtain ⟨cC, iS, h⟩ := u_known hts (fun w hw => (ck5.2.2.2 w hw).1) (hts _ st_i5)
    exact ⟨(cC, iS), fun w hw => by cases hw; exact h⟩
  | 6 =>
    obtain ⟨cC, iS, h⟩ := u_known hts (fun w hw => (ck6.2.2.2 w hw).1) (hts _ st_i6)
    exact ⟨(cC, iS), fun w hw => by cases hw; exact h⟩
  | 7 =>
    obtain ⟨cC, iS, h⟩ := u_known hts (fun w hw => (ck7.2.2.2 w hw).1) (hts _ st_i7)
    exact ⟨(cC, iS), fun w hw => by cases hw; exact h⟩
  | 8 =>
    obtain ⟨cC, iS, h⟩ := u_known hts (fun w hw => (ck8.2.2.2 w hw).1) (hts _ st_i8)
    exact ⟨(cC, iS), fun w hw => by cases hw; exact h⟩
  | 9 =>
    obtain ⟨cC, iS, h⟩ := u_known hts (fun w hw => (ck9.2.2.2 w hw).1) (hts _ st_i9)
    exact ⟨(cC, iS), fun w hw => by cases hw; exact h⟩
  | 10 =>
    obtain ⟨cC, iS, h⟩ := u_known hts (fun w hw => (ck10.2.2.2 w hw).1) (hts _ st_i10)
    exact ⟨(cC, iS), fun w hw => by cases hw; exact h⟩
  | 11 =>
    obtain ⟨cC, iS, h⟩ := u_known hts (fun w hw => (ck11.2.2.2 w hw).1) (hts _ st_i11)
    exact ⟨(cC, iS), fun w hw => by cases hw; exact h⟩
  | c + 12 => exact ⟨(0, fun _ => 0), fun w hw => by cases hw⟩
set_option maxRecDepth 100000 in
theorem st_ab : (Cond.arrayClass Jvm.ClassFile.FieldType.byte) ∈ lw_tbl := ts_1 (ai_nth_mem 121 rfl)
set_option maxRecDepth 100000 in
theorem st_ai : (Cond.arrayClass Jvm.ClassFile.FieldType.int) ∈ lw_tbl := ts_1 (ai_nth_mem 122 rfl)
set_option maxRecDepth 100000 in
theorem st_al : (Cond.arrayClass Jvm.ClassFile.FieldType.long) ∈ lw_tbl := ts_1 (ai_nth_mem 211 rfl)
set_option maxRecDepth 100000 in
theorem st_az : (Cond.arrayClass Jvm.ClassFile.FieldType.boolean) ∈ lw_tbl := ts_2 (ai_nth_mem 157 rfl)
set_option maxRecDepth 100000 in
theorem st_ao : (Cond.arrayOver (Jvm.ClassFile.FieldType.object "PathsKept$Standing")) ∈ lw_tbl := ts_2 (ai_nth_mem 86 rfl)
set_option maxRecDepth 100000 in
theorem st_l1 : (Cond.laysStatic "java/lang/String" "COMPACT_STRINGS" "Z") ∈ lw_tbl := ts_1 (ai_nth_mem 57 rfl)
set_option maxRecDepth 100000 in
theorem st_l2 : (Cond.laysStatic "jdk/internal/util/Preconditions" "SIOOBE_FORMATTER" "Ljava/util/function/BiFunction;") ∈ lw_tbl := ts_1 (ai_nth_mem 73 rfl)
set_option maxRecDepth 100000 in
theorem st_l3 : (Cond.laysStatic "java/lang/Throwable" "UNASSIGNED_STACK" "[Ljava/lang/StackTraceElement;") ∈ lw_tbl := ts_3 (ai_nth_mem 109 rfl)
set_option maxRecDepth 100000 in
theorem st_l4 : (Cond.laysStatic "java/lang/Throwable" "SUPPRESSED_SENTINEL" "Ljava/util/List;") ∈ lw_tbl := ts_3 (ai_nth_mem 111 rfl)
set_option maxRecDepth 100000 in
theorem st_l5 : (Cond.laysStatic "PathsKept$Game" "POWERS_OF_THREE" "[I") ∈ lw_tbl := ts_5 (ai_nth_mem 82 rfl)
set_option maxRecDepth 100000 in
theorem st_n1 : (Cond.initialized "java/lang/String") ∈ lw_tbl := ts_1 (ai_nth_mem 4 rfl)
set_option maxRecDepth 100000 in
theorem st_n2 : (Cond.initialized "jdk/internal/util/Preconditions") ∈ lw_tbl := ts_1 (ai_nth_mem 6 rfl)
set_option maxRecDepth 100000 in
theorem st_n3 : (Cond.initialized "java/lang/Throwable") ∈ lw_tbl := ts_1 (ai_nth_mem 19 rfl)
set_option maxRecDepth 100000 in
theorem st_n5 : (Cond.initialized "PathsKept$Game") ∈ lw_tbl := ts_1 (ai_nth_mem 15 rfl)
set_option maxRecDepth 100000 in
theorem st_s0 : (Cond.stringRef "PathsKept$Tokens" (13 : Nat) "place path walker walk bull year snow seed law term may cost or and not length stile age legs pace gone day ") ∈ lw_tbl := ts_1 (ai_nth_mem 47 rfl)
set_option maxRecDepth 100000 in
theorem st_s1 : (Cond.stringRef "PathsKept$Reader" (59 : Nat) "a fault") ∈ lw_tbl := ts_3 (ai_nth_mem 123 rfl)
set_option maxRecDepth 100000 in
theorem st_s2 : (Cond.stringRef "PathsKept" (137 : Nat) "no such path") ∈ lw_tbl := ts_5 (ai_nth_mem 182 rfl)
set_option maxRecDepth 100000 in
theorem st_s3 : (Cond.stringRef "PathsKept" (165 : Nat) "no such what") ∈ lw_tbl := ts_5 (ai_nth_mem 199 rfl)
theorem st_K {args : Array Value} {s : State} (hts : ∀ w ∈ lw_tbl, w.before args s = true) : ∃ (D : va_G) (aC : Nat → ClassId), va_K D vwCl (ai_tys aC) s := by
  obtain ⟨q, hq⟩ := Classical.axiomOfChoice (st_cl hts)
  obtain ⟨c0, a0, b0⟩ := st_arr (hts _ st_ab) (fun C h => by cases h)
  obtain ⟨c1, a1, b1⟩ := st_arr (hts _ st_ai) (fun C h => by cases h)
  obtain ⟨c2, a2, b2⟩ := st_arr (hts _ st_al) (fun C h => by cases h)
  obtain ⟨c3, a3, b3⟩ := st_arr (hts _ st_az) (fun C h => by cases h)
  obtain ⟨c4, a4, b4⟩ := st_arrO (hts _ st_ao)
  refine ⟨(fun c => (q c).1, fun c => (q c).2), fun k => match k with | 0 => c0 | 1 => c1 | 2 => c2 | 3 => c3 | _ => c4, hq, ?_⟩
  intro k x hx
  match k with
  | 0 => cases hx; exact ⟨a0, b0⟩
  | 1 => cases hx; exact ⟨a1, b1⟩
  | 2 => cases hx; exact ⟨a2, b2⟩
  | 3 => cases hx; exact ⟨a3, b3⟩
  | 4 => cases hx; exact ⟨a4, b4⟩
  | k + 5 => cases hx
abbrev st_g : Jvm.Cond := Jvm.Cond.and given_1 narrow_1
abbrev st_tP : Term := .static "PathsKept$Game" "POWERS_OF_THREE" "[I"
abbrev st_tW : Term := .string "PathsKept$Tokens" 13
abbrev st_tV : Term := .field st_tW "java/lang/String" "value" "[B"
set_option maxRecDepth 100000 in
theorem st_m1 : ∀ w ∈ ([Cond.arrayOf st_tP .int, .eq (.length st_tP) (.int 9), .isRef (.static "java/lang/Throwable" "UNASSIGNED_STACK" "[Ljava/lang/StackTraceElement;"), .isRef (.static "java/lang/Throwable" "SUPPRESSED_SENTINEL" "Ljava/util/List;"), .isRef (.static "jdk/internal/util/Preconditions" "SIOOBE_FORMATTER" "Ljava/util/function/BiFunction;"), .eq (.static "java/lang/String" "COMPACT_STRINGS" "Z") (.int 1),
  .not (.castable "java/util/NoSuchElementException" "java/lang/IndexOutOfBoundsException"), .exactly st_tW "java/lang/String", .eq (.field st_tW "java/lang/String" "coder" "B") (.int 0), .arrayOf st_tV .byte, .eq (.length st_tV) (.int 108)] : List Cond), w ∈ flatC st_g := by decide +kernel
set_option maxRecDepth 100000 in
theorem st_m2 : ∀ j, j < 9 → Cond.eq (.elem st_tP (.int (Int32.ofNat j))) (.int (nI (3 ^ j))) ∈ flatC st_g := by decide +kernel
set_option maxRecDepth 100000 in
theorem st_m3 : ∀ j, j < 108 → Cond.eq (.elem st_tV (.int (Int32.ofNat j))) (.int (ai_wds.getD j 0)) ∈ flatC st_g := by decide +kernel
theorem st_E {args : Array Value} {s : State} {A : Nat → Prop} (hts : ∀ w ∈ lw_tbl, w.before args s = true) (hg : st_g.before args s = true) (hA : ∀ a : Nat, a < s.heap.size → ¬ A a) : ai_E A s := by
  have hf := flat_of_before _ hg
  have r0 := fun (w : Cond) hw => hf w (st_m1 w hw)
  obtain ⟨p1, r1⟩ := List.forall_mem_cons.mp r0
  obtain ⟨p2, r2⟩ := List.forall_mem_cons.mp r1
  obtain ⟨p3, r3⟩ := List.forall_mem_cons.mp r2
  obtain ⟨p4, r4⟩ := List.forall_mem_cons.mp r3
  obtain ⟨p5, r5⟩ := List.forall_mem_cons.mp r4
  obtain ⟨p6, r6⟩ := List.forall_mem_cons.mp r5
  obtain ⟨p7, r7⟩ := List.forall_mem_cons.mp r6
  obtain ⟨p8, r8⟩ := List.forall_mem_cons.mp r7
  obtain ⟨p9, r9⟩ := List.forall_mem_cons.mp r8
  obtain ⟨p10, r10⟩ := List.forall_mem_cons.mp r9
  obtain ⟨p11, r11⟩ := List.forall_mem_cons.mp r10
  obtain ⟨tP, e1, e2⟩ := va_Tof (tm := st_tP) (ty := .int) (N := 9) (f := fun j => .int (nI (3 ^ j))) (A := A) (by decide) p1 (va_eqt (z := 9) p2) (fun j hj => va_eqt (hf _ (st_m2 j hj))) hA
  obtain ⟨aV, w1, w2⟩ := va_Tof (tm := st_tV) (ty := .byte) (N := 108) (f := fun j => .int (ai_wds.getD j 0)) (A := A) (by decide) p10 (va_eqt (z := 108) p11) (fun j hj => va_eqt (hf _ (st_m3 j hj))) hA
  obtain ⟨aK, c, cA, kA, q1, q2, q3, q4, q5, q6, -⟩ := Cond.exactly_spec (args := args) (first := s) (o := none) (s := s) (idx := []) (t := st_tW) (cls := "java/lang/String") p8
  refine ⟨va_AO.of (hts _ st_ao), ⟨tP, va_Zof (hts _ st_l5) (hts _ st_n5) e1 hA, e2⟩, vx_Zqof (hts _ st_l3) (hts _ st_n3) p3 hA, vx_Zqof (hts _ st_l4) (hts _ st_n3) p4 hA, ?_, va_Nc.of p7, aK, aV, vk_R.of (hts _ st_s0) q1, va_Zof (hts _ st_l1) (hts _ st_n1) (va_eqt p6) hA, va_Zqof (hts _ st_l2) (hts _ st_n2) p5 hA, ⟨cA, q3, q5, by rw [q6]; exact q2, hA aK (Array.getElem?_eq_some_iff.mp q3).1⟩, vk_OFof q1 (va_eqt p9) hA, vk_OFof q1 w1 hA, w2⟩
  intro q hq
  simp only [List.mem_cons, List.not_mem_nil, or_false] at hq
  rcases hq with rfl | rfl | rfl
  · exact st_R (hts _ st_s1)
  · exact st_R (hts _ st_s2)
  · exact st_R (hts _ st_s3)

