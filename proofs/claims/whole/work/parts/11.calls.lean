/-! ===== calls ===== -/
/-- a method: its name, bytes, locals, what it returns, its table of handlers -/
abbrev ai_Md : Type := MethodName × ByteArray × Nat × Option FieldType × List (Nat × Nat × Nat × Nat)
def ai_wm (q : ai_Md) : Cond := match q.2.2.2.2 with
  | [] => .code q.1 q.2.1 q.2.2.1 q.2.2.2.1
  | t => .codeWith q.1 q.2.1 q.2.2.1 q.2.2.2.1 t
/-- a method's contract, at these arguments in this heap -/
def ai_C (l : Launch) (D : va_G) (aC : Nat → ClassId) (A : Nat → Prop) (Mt : Nat → ai_Md) (d y : Nat) (vs : List Value) (h : ai_H) (n : Nat) (o : ai_Ou) : Prop :=
  ∀ ad : Nat → Nat, vx_Met l (Mt y).1 [ai_wm (Mt y)] (ai_rm d o.2.2.2.1 o.2.2.2.2) (ai_Pc D aC A ad vs h n) (ai_Qc D aC A ad n o) (ai_XC D aC A ad n o) o.2.2.2.1 o.2.2.2.2 A
/-- a call: given the callee's contract, and the goals behind it -/
def ai_Co (l : Launch) (Mt : Nat → ai_Md) (cc : ByteArray) (own : String × String) (nL pc : Nat) (f : ai_Op) : Prop :=
  ∀ (p : Program) (e : Env) (R : Room) (s : State) (m : MethodId) (args : Array Value) (below : List Frame) (meth : Method) (c : Code) (D : va_G) (aC : Nat → ClassId) (A : Nat → Prop) (ad0 : Nat → Nat) (n0 : Nat) (Q : State → Prop), ai_X p R s m args meth c D aC A cc own nL →
    ∀ (lv : ai_L) (st : List Value) (r : ai_Hp) (y : Nat) (vs rest : List Value) (fl d : Nat) (o : ai_Ou), f pc lv st r = some (.inr (.inr (.inl (y, vs, rest, fl)))) → (fl = 1 → ∃ v, o.1 = .inl v) → ai_C l D aC A Mt d y vs r.1 r.2.1 o → d + 9 ≤ R.frames → 64 * d + 320 ≤ R.locals → r.2.2.1 + o.2.2.2.1 ≤ R.cells → r.2.2.2 + o.2.2.2.2 ≤ R.slots →
      (∀ v, o.1 = .inl v → ai_G p l e R s m args below meth c D aC A ad0 n0 nL Q (pc + 3) lv (v.toList ++ rest) (o.2.1, o.2.2.1, r.2.2.1 + o.2.2.2.1, r.2.2.2 + o.2.2.2.2)) →
      (∀ E, o.1 = .inr E → ai_GX p l e R s m args below meth c D aC A ad0 n0 nL Q pc lv rest (o.2.1, o.2.2.1, r.2.2.1 + o.2.2.2.1, r.2.2.2 + o.2.2.2.2) E) →
      ai_G p l e R s m args below meth c D aC A ad0 n0 nL Q pc lv st r
def ai_iv (y na ci : Nat) : ai_Op := fun _ _ st r => match st.drop na with
  | .ref b :: rest => if (ai_ob r b ci).isSome = true ∧ (rest.map fun v => v.category).sum ≤ 8 then some (.inr (.inr (.inl (y, .ref b :: (st.take na).reverse, rest, 0)))) else none
  | _ => none
def ai_ii (y na : Nat) : ai_Op := fun _ _ st _ => match st.drop na with
  | .ref b :: rest => if (rest.map fun v => v.category).sum ≤ 8 then some (.inr (.inr (.inl (y, .ref b :: (st.take na).reverse, rest, 1)))) else none
  | _ => none
def ai_iS (y na : Nat) : ai_Op := fun _ _ st _ => if na ≤ st.length ∧ ((st.drop na).map fun v => v.category).sum ≤ 8 then some (.inr (.inr (.inl (y, (st.take na).reverse, st.drop na, 1)))) else none
theorem ai_wS_take {n na : Nat} {st : List Value} (h : ai_wS n st) : ai_wS n (st.take na).reverse := fun v hv => h v (List.mem_of_mem_take (List.mem_reverse.mp hv))
theorem ai_wS_drop {n na : Nat} {st : List Value} (h : ai_wS n st) : ai_wS n (st.drop na) := fun v hv => h v (List.mem_of_mem_drop hv)
theorem ai_stk {ad : Nat → Nat} {na : Nat} {st : List Value} : st.map (ai_cv ad) = ((st.take na).reverse.map (ai_cv ad)).reverse ++ (st.drop na).map (ai_cv ad) := by
  rw [← List.map_reverse, List.reverse_reverse, ← List.map_append, List.take_append_drop]
set_option maxRecDepth 8000 in
theorem ai_rl {mL d x : Nat} (h : mL ≤ 40) (h2 : 64 * d + 320 ≤ x) : 8 + (mL + 11) + (64 * d + 256) ≤ x := by omega
section Calls2
variable {l : Launch} {Mt : Nat → ai_Md} {cc : ByteArray} {own : String × String} {nL pc : Nat} {ci index y na N mL : Nat} {nm : MethodName} {bs : ByteArray} {ret : Option FieldType} {T : u_T} {ty0 : Nat → FieldType} {host : String}
theorem ai_iv_ok (hm : Mt y = (nm, bs, mL, ret, [])) (ck : ai_ck ci nm.cls T N ty0) (hmL : mL ≤ 40) (w1 : Cond.code nm bs mL ret ∈ lw_tbl) (w2 : Cond.initialized nm.cls ∈ lw_tbl) (w3 : Cond.methodLink own.1 index nm ∈ lw_tbl) (w4 : Cond.instanceMethod nm ∈ lw_tbl) (w5 : Cond.selects nm.cls nm nm ∈ lw_tbl)
    (hy : nm.cls ≠ "java/lang/invoke/MethodHandle" ∧ nm.cls ≠ "java/lang/invoke/VarHandle") (hpar : (parseMethodDescriptor nm.desc).map (fun d => d.parameters.length) = some na) (hd : decode cc pc = .ok (.invokevirtual index, 3)) : ai_Co l Mt cc own nL pc (ai_iv y na ci) := by
  intro p e R s m args below meth c D aC A ad0 n0 Q X lv st r y' vs rest fl d o hf hfl hC hfr hlo hce hsl kk kx ad H locs ls hI
  simp only [ai_iv] at hf
  split at hf
  · rename_i b rest' hdr
    split at hf
    · rename_i hc
      cases hf
      obtain ⟨i1, i2, i3, i4, i5, i6, i7, i8⟩ := hI
      obtain ⟨fs, hfs⟩ := Option.isSome_iff_exists.mp hc.1
      obtain ⟨hb', he⟩ := ai_ob_at hfs
      have X0 := X
      obtain ⟨hx, hb, hown, hwd, hK, hml, hlk, hnm, hA, hfr0, hlo0, hE⟩ := X
      have he' : (ai_ws aC ad r.1 r.2.1)[_]? = _ := ai_ws_get (aC := aC) (ad := ad) (h := r.1) hb'
      rw [he] at he'
      have hw6 := ai_wS_drop (na := na) i6
      rw [hdr] at hw6
      have hlen : (st.take na).reverse.length = na := by
        have h1 : (st.drop na).length ≠ 0 := by rw [hdr]; simp
        rw [List.length_drop] at h1
        rw [List.length_reverse, List.length_take]
        omega
      have hM := hC ad
      rw [hm] at hM
      refine ai_after (st0 := st.map (ai_cv ad)) (o := o) (rest := rest) ⟨i1, i2, i3, i4, i5, ai_wS_t hw6, i7, i8⟩ (vx_runV (Ts := []) (n := na) (own := own.1) (C := nm.cls) (index := index) (As := (st.take na).reverse.map (ai_cv ad)) (b := ad b) ⟨hx, hb, hml, hown, fun _ h => by cases h⟩ hM
        ⟨⟨rfl, rfl, ?_, ?_, ?_, List.mem_cons_self, hwd _ w1 rfl, hwd _ w2 rfl, hy, ?_, hwd _ w3 rfl⟩, hwd _ w4 rfl, hwd _ w5 rfl⟩ ⟨ai_Pc_blind, va_recv hK i2 ck.1 he', ai_Pc_at X0 i2 i3 i4 (ai_wS_c (ai_wS_h hw6) (ai_wS_take i6)) i8⟩ rfl (by rw [List.length_map]; exact hlen) i5.1 ?_ ?_ hd ⟨hce, hsl⟩) kk kx
      · show d + 8 + 1 ≤ R.frames
        omega
      · exact ai_rl hmL hlo
      · intro w hw a' U hW
        rw [List.mem_singleton.mp hw]
        exact ai_mv_at (w := .code nm bs mL ret) hW rfl (hwd _ w1 rfl)
      · intro sig hs
        rw [hs] at hpar
        exact (Option.some.inj hpar).symm
      · show st.map (ai_cv ad) = _
        rw [ai_stk (na := na), hdr]
        rfl
      · show 2 * 0 + _ ≤ 8
        rw [ai_cats]
        have := hc.2
        omega
    · cases hf
  · cases hf
/-- a constructor -/
theorem ai_ii_okX (hrun : ∀ (p : Program) (e : Env) (R : Room) (s : State) (m : MethodId) (args : Array Value) (below : List Frame) (meth : Method) (c : Code) (D : va_G) (aC : Nat → ClassId) (A : Nat → Prop) (d : Nat) (o : ai_Ou) (H : Heap) (locs : List Loc) (ls : Array Slot) (cells slots : Nat) (ad : Nat → Nat) (b n : Nat) (h : ai_H) (As rest : List Value), ai_X p R s m args meth c D aC A cc own nL → ls.size = nL → d + 9 ≤ R.frames → 64 * d + 320 ≤ R.locals → cells + o.2.2.2.1 ≤ R.cells → slots + o.2.2.2.2 ≤ R.slots → As.length = na → (rest.map fun v => v.category).sum ≤ 8 → (∃ v, o.1 = .inl v) →
      ai_C l D aC A Mt d y (.ref b :: As) h n o → (∀ U : State, U.heap = H → s.WarmedH U.vm → ai_Pc D aC A ad (.ref b :: As) h n (Value.ref (ad b) :: As.map (ai_cv ad)).toArray U) →
      vx_Run p l e R s m args below meth c H locs cells slots o.2.2.2.1 o.2.2.2.2 (F0 m pc ls ((As.map (ai_cv ad)).reverse ++ .ref (ad b) :: rest)) rest (ai_Qc D aC A ad n o (Value.ref (ad b) :: As.map (ai_cv ad)).toArray) (ai_XC D aC A ad n o) A) : ai_Co l Mt cc own nL pc (ai_ii y na) := by
  intro p e R s m args below meth c D aC A ad0 n0 Q X lv st r y' vs rest fl d o hf hfl hC hfr hlo hce hsl kk kx ad H locs ls hI
  simp only [ai_ii] at hf
  split at hf
  · rename_i b rest' hdr
    split at hf
    · rename_i hc
      cases hf
      obtain ⟨i1, i2, i3, i4, i5, i6, i7, i8⟩ := hI
      have hw6 := ai_wS_drop (na := na) i6
      rw [hdr] at hw6
      have hlen : (st.take na).reverse.length = na := by
        have h1 : (st.drop na).length ≠ 0 := by rw [hdr]; simp
        rw [List.length_drop] at h1
        rw [List.length_reverse, List.length_take]
        omega
      have hst : st.map (ai_cv ad) = ((st.take na).reverse.map (ai_cv ad)).reverse ++ .ref (ad b) :: rest.map (ai_cv ad) := by
        rw [ai_stk (na := na), hdr]
        rfl
      rw [hst]
      exact ai_after (o := o) (rest := rest) ⟨i1, i2, i3, i4, i5, ai_wS_t hw6, i7, i8⟩ (hrun p e R s m args below meth c D aC A d o H locs ls _ _ ad b _ _ _ _ X i5.1 hfr hlo hce hsl hlen (by rw [ai_cats]; exact hc) (hfl rfl) hC (ai_Pc_at X i2 i3 i4 (ai_wS_c (ai_wS_h hw6) (ai_wS_take i6)) i8)) kk kx
    · cases hf
  · cases hf
/-- a contract without a throw -/
theorem ai_met {D : va_G} {aC : Nat → ClassId} {A : Nat → Prop} {d n : Nat} {vs : List Value} {h : ai_H} {o : ai_Ou} {v : Option Value} (ho : o.1 = .inl v) (hC : ai_C l D aC A Mt d y vs h n o) (ad : Nat → Nat) : Met l (Mt y).1 [ai_wm (Mt y)] (ai_rm d o.2.2.2.1 o.2.2.2.2) (ai_Pc D aC A ad vs h n) (ai_Qc D aC A ad n o) o.2.2.2.1 o.2.2.2.2 A := by
  refine MetFree.mono (hC ad) (fun _ _ h => h) (fun _ _ _ _ _ h => h) ?_
  intro a st oc t hP hq
  rcases hq with hq | ⟨q, -, E, ce, L, ⟨k, ad', hk, -⟩, -⟩
  · exact hq
  · rw [ho] at hk
    cases hk
theorem ai_vx {p : Program} {e : Env} {R : Room} {s : State} {m : MethodId} {args : Array Value} {below : List Frame} {meth : Method} {c : Code} {H : Heap} {locs : List Loc} {cells slots mc ms : Nat} {g : JFrame} {rest : List Value} {Qa : State → Outcome → State → Prop} {XC : String → State → State → Prop} {free : Addr → Prop} (h : va_Run p l e R s m args below meth c H locs cells slots mc ms g rest Qa free) : vx_Run p l e R s m args below meth c H locs cells slots mc ms g rest Qa XC free := fun T hT X => Or.inl (h T hT X)
theorem ai_ii_ok (hm : Mt y = (nm, bs, mL, none, [])) (hmL : mL ≤ 40) (w1 : Cond.code nm bs mL none ∈ lw_tbl) (w2 : Cond.initialized nm.cls ∈ lw_tbl) (w3 : Cond.methodLink own.1 index nm ∈ lw_tbl) (w4 : Cond.instanceMethod nm ∈ lw_tbl) (hn : nm.name = "<init>")
    (hy : nm.cls ≠ "java/lang/invoke/MethodHandle" ∧ nm.cls ≠ "java/lang/invoke/VarHandle") (hpar : (parseMethodDescriptor nm.desc).map (fun d => d.parameters.length) = some na) (hd : decode cc pc = .ok (.invokespecial index, 3)) : ai_Co l Mt cc own nL pc (ai_ii y na) := by
  refine ai_ii_okX ?_
  intro p e R s m args below meth c D aC A d o H locs ls cells slots ad b n h As rest X hls hfr hlo hce hsl hlen hrs hv hC hPc
  obtain ⟨v, hv⟩ := hv
  have hM := ai_met hv hC ad
  rw [hm] at hM
  obtain ⟨hx, hb, hown, hwd, hK, hml, hlk, hnm, hA, hfr0, hlo0, hE⟩ := X
  refine ai_vx (va_runI (Ts := []) (n := na) (own := own.1) (index := index) (As := As.map (ai_cv ad)) (b := ad b) ⟨hx, hb, hml, hown, fun _ h => by cases h⟩ hM
    ⟨⟨rfl, rfl, ?_, ai_rl hmL hlo, ?_, List.mem_cons_self, hwd _ w1 rfl, hwd _ w2 rfl, hy, ?_, hwd _ w3 rfl⟩, hn, hwd _ w4 rfl⟩ ⟨ai_Pc_blind, hPc⟩ rfl (by rw [List.length_map]; exact hlen) hls rfl (by show 2 * 0 + _ ≤ 8; omega) hd ⟨hce, hsl⟩)
  · show d + 8 + 1 ≤ R.frames
    omega
  · intro w hw a' U hW
    rw [List.mem_singleton.mp hw]
    exact ai_mv_at (w := .code nm bs mL none) hW rfl (hwd _ w1 rfl)
  · intro sig hs
    rw [hs] at hpar
    exact (Option.some.inj hpar).symm
theorem ai_ii_okN (hm : Mt y = (nm, bs, mL, none, [])) (hmL : mL ≤ 40) (w1 : Cond.code nm bs mL none ∈ lw_tbl) (w2 : Cond.initialized nm.cls ∈ lw_tbl) (w3 : Cond.methodLinkNest own.1 index nm host ∈ lw_tbl) (w4 : Cond.instanceMethod nm ∈ lw_tbl) (hn : nm.name = "<init>")
    (hy : nm.cls ≠ "java/lang/invoke/MethodHandle" ∧ nm.cls ≠ "java/lang/invoke/VarHandle") (hpar : (parseMethodDescriptor nm.desc).map (fun d => d.parameters.length) = some na) (hd : decode cc pc = .ok (.invokespecial index, 3)) : ai_Co l Mt cc own nL pc (ai_ii y na) := by
  refine ai_ii_okX ?_
  intro p e R s m args below meth c D aC A d o H locs ls cells slots ad b n h As rest X hls hfr hlo hce hsl hlen hrs hv hC hPc
  obtain ⟨v, hv⟩ := hv
  have hM := ai_met hv hC ad
  rw [hm] at hM
  obtain ⟨hx, hb, hown, hwd, hK, hml, hlk, hnm, hA, hfr0, hlo0, hE⟩ := X
  refine ai_vx (va_runIN (Ts := []) (n := na) (own := own.1) (host := host) (index := index) (As := As.map (ai_cv ad)) (b := ad b) ⟨hx, hb, hml, hown, fun _ h => by cases h⟩ hM
    ⟨⟨⟨rfl, rfl, ?_, ai_rl hmL hlo, ?_, List.mem_cons_self⟩, hwd _ w1 rfl, hwd _ w2 rfl, hy, ?_, hwd _ w3 rfl⟩, hn, hwd _ w4 rfl⟩ ⟨ai_Pc_blind, hPc⟩ rfl (by rw [List.length_map]; exact hlen) hls rfl (by show 2 * 0 + _ ≤ 8; omega) hd ⟨hce, hsl⟩)
  · show d + 8 + 1 ≤ R.frames
    omega
  · intro w hw a' U hW
    rw [List.mem_singleton.mp hw]
    exact ai_mv_at (w := .code nm bs mL none) hW rfl (hwd _ w1 rfl)
  · intro sig hs
    rw [hs] at hpar
    exact (Option.some.inj hpar).symm
theorem ai_iS_okX (hrun : ∀ (p : Program) (e : Env) (R : Room) (s : State) (m : MethodId) (args : Array Value) (below : List Frame) (meth : Method) (c : Code) (D : va_G) (aC : Nat → ClassId) (A : Nat → Prop) (d : Nat) (o : ai_Ou) (H : Heap) (locs : List Loc) (ls : Array Slot) (cells slots : Nat) (ad : Nat → Nat) (n : Nat) (h : ai_H) (As rest : List Value), ai_X p R s m args meth c D aC A cc own nL → ls.size = nL → d + 9 ≤ R.frames → 64 * d + 320 ≤ R.locals → cells + o.2.2.2.1 ≤ R.cells → slots + o.2.2.2.2 ≤ R.slots → As.length = na → (rest.map fun v => v.category).sum ≤ 8 → (∃ v, o.1 = .inl v) →
      ai_C l D aC A Mt d y As h n o → (∀ U : State, U.heap = H → s.WarmedH U.vm → ai_Pc D aC A ad As h n (As.map (ai_cv ad)).toArray U) →
      vx_Run p l e R s m args below meth c H locs cells slots o.2.2.2.1 o.2.2.2.2 (F0 m pc ls ((As.map (ai_cv ad)).reverse ++ rest)) rest (ai_Qc D aC A ad n o (As.map (ai_cv ad)).toArray) (ai_XC D aC A ad n o) A) : ai_Co l Mt cc own nL pc (ai_iS y na) := by
  intro p e R s m args below meth c D aC A ad0 n0 Q X lv st r y' vs rest fl d o hf hfl hC hfr hlo hce hsl kk kx ad H locs ls hI
  simp only [ai_iS] at hf
  split at hf
  · rename_i hc
    cases hf
    obtain ⟨i1, i2, i3, i4, i5, i6, i7, i8⟩ := hI
    have hlen : (st.take na).reverse.length = na := by
      rw [List.length_reverse, List.length_take]
      have := hc.1
      omega
    rw [ai_stk (na := na)]
    exact ai_after (o := o) (rest := st.drop na) ⟨i1, i2, i3, i4, i5, ai_wS_drop i6, i7, i8⟩ (hrun p e R s m args below meth c D aC A d o H locs ls _ _ ad _ _ _ _ X i5.1 hfr hlo hce hsl hlen (by rw [ai_cats]; exact hc.2) (hfl rfl) hC (ai_Pc_at X i2 i3 i4 (ai_wS_take i6) i8)) kk kx
  · cases hf
theorem ai_iS_ok (hm : Mt y = (nm, bs, mL, ret, [])) (hmL : mL ≤ 40) (w1 : Cond.code nm bs mL ret ∈ lw_tbl) (w2 : Cond.initialized nm.cls ∈ lw_tbl) (w3 : Cond.methodLink own.1 index nm ∈ lw_tbl) (w4 : Cond.static nm ∈ lw_tbl)
    (hy : nm.cls ≠ "java/lang/invoke/MethodHandle" ∧ nm.cls ≠ "java/lang/invoke/VarHandle") (hpar : (parseMethodDescriptor nm.desc).map (fun d => d.parameters.length) = some na) (hd : decode cc pc = .ok (.invokestatic index, 3)) : ai_Co l Mt cc own nL pc (ai_iS y na) := by
  refine ai_iS_okX ?_
  intro p e R s m args below meth c D aC A d o H locs ls cells slots ad n h As rest X hls hfr hlo hce hsl hlen hrs hv hC hPc
  obtain ⟨v, hv⟩ := hv
  have hM := ai_met hv hC ad
  rw [hm] at hM
  obtain ⟨hx, hb, hown, hwd, hK, hml, hlk, hnm, hA, hfr0, hlo0, hE⟩ := X
  refine ai_vx (va_runS (Ts := []) (n := na) (own := own.1) (index := index) (As := As.map (ai_cv ad)) ⟨hx, hb, hml, hown, fun _ h => by cases h⟩ hM
    ⟨⟨rfl, rfl, ?_, ai_rl hmL hlo, ?_, List.mem_cons_self, hwd _ w1 rfl, hwd _ w2 rfl, hy, ?_, hwd _ w3 rfl⟩, hwd _ w4 rfl⟩ ⟨ai_Pc_blind, hPc⟩ rfl (by rw [List.length_map]; exact hlen) hls rfl (by show 2 * 0 + _ ≤ 8; omega) hd ⟨hce, hsl⟩)
  · show d + 8 + 1 ≤ R.frames
    omega
  · intro w hw a' U hW
    rw [List.mem_singleton.mp hw]
    exact ai_mv_at (w := .code nm bs mL ret) hW rfl (hwd _ w1 rfl)
  · intro sig hs
    rw [hs] at hpar
    exact (Option.some.inj hpar).symm
theorem ai_iS_okN (hm : Mt y = (nm, bs, mL, ret, [])) (hmL : mL ≤ 40) (w1 : Cond.code nm bs mL ret ∈ lw_tbl) (w2 : Cond.initialized nm.cls ∈ lw_tbl) (w3 : Cond.methodLinkNest own.1 index nm host ∈ lw_tbl) (w4 : Cond.static nm ∈ lw_tbl)
    (hy : nm.cls ≠ "java/lang/invoke/MethodHandle" ∧ nm.cls ≠ "java/lang/invoke/VarHandle") (hpar : (parseMethodDescriptor nm.desc).map (fun d => d.parameters.length) = some na) (hd : decode cc pc = .ok (.invokestatic index, 3)) : ai_Co l Mt cc own nL pc (ai_iS y na) := by
  refine ai_iS_okX ?_
  intro p e R s m args below meth c D aC A d o H locs ls cells slots ad n h As rest X hls hfr hlo hce hsl hlen hrs hv hC hPc
  obtain ⟨v, hv⟩ := hv
  have hM := ai_met hv hC ad
  rw [hm] at hM
  obtain ⟨hx, hb, hown, hwd, hK, hml, hlk, hnm, hA, hfr0, hlo0, hE⟩ := X
  refine ai_vx (va_runSN (Ts := []) (n := na) (own := own.1) (host := host) (index := index) (As := As.map (ai_cv ad)) ⟨hx, hb, hml, hown, fun _ h => by cases h⟩ hM
    ⟨⟨⟨rfl, rfl, ?_, ai_rl hmL hlo, ?_, List.mem_cons_self⟩, hwd _ w1 rfl, hwd _ w2 rfl, hy, ?_, hwd _ w3 rfl⟩, hwd _ w4 rfl, trivial⟩ ⟨ai_Pc_blind, hPc⟩ rfl (by rw [List.length_map]; exact hlen) hls rfl (by show 2 * 0 + _ ≤ 8; omega) hd ⟨hce, hsl⟩)
  · show d + 8 + 1 ≤ R.frames
    omega
  · intro w hw a' U hW
    rw [List.mem_singleton.mp hw]
    exact ai_mv_at (w := .code nm bs mL ret) hW rfl (hwd _ w1 rfl)
  · intro sig hs
    rw [hs] at hpar
    exact (Option.some.inj hpar).symm
end Calls2
