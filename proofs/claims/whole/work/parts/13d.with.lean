/-! ===== methods with a table of handlers: their calls, their walk ===== -/
section With
variable {l : Launch} {Mt : Nat → ai_Md} {cc : ByteArray} {own : String × String} {nL pc : Nat} {ci index y na N mL : Nat} {nm : MethodName} {bs : ByteArray} {ret : Option FieldType} {T : u_T} {ty0 : Nat → FieldType} {hh : Nat × Nat × Nat × Nat} {hs : List (Nat × Nat × Nat × Nat)}
theorem ai_iv_okW (hm : Mt y = (nm, bs, mL, ret, hh :: hs)) (ck : ai_ck ci nm.cls T N ty0) (hmL : mL ≤ 40) (w1 : Cond.codeWith nm bs mL ret (hh :: hs) ∈ lw_tbl) (w2 : Cond.initialized nm.cls ∈ lw_tbl) (w3 : Cond.methodLink own.1 index nm ∈ lw_tbl) (w4 : Cond.instanceMethod nm ∈ lw_tbl) (w5 : Cond.selects nm.cls nm nm ∈ lw_tbl)
    (hy : nm.cls ≠ "java/lang/invoke/MethodHandle" ∧ nm.cls ≠ "java/lang/invoke/VarHandle") (hpar : (parseMethodDescriptor nm.desc).map (fun d => d.parameters.length) = some na) (hd : decode cc pc = .ok (.invokevirtual index, 3)) : ai_Co l Mt cc own nL pc (ai_iv y na ci) := by
  intro p e R s m args below meth c D aC A ad0 n0 Q X lv st r y' vs rest fl d o hf hfl hC hfr hlo hce hsl kk kx ad H locs ls hI
  simp only [ai_iv] at hf
  split at hf
  · rename_i b rest' hdr
    split at hf
    · rename_i hc
      cases hf
      obtain ⟨i1, i2, i3, i4, i5, i6, i7, i8⟩ := hI
      obtain ⟨fs, hfs⟩ := Option.isSome_iff_exists.mp hc.1
      obtain ⟨hb', he⟩ := ai_ob_at hfs
      have X0 := X
      obtain ⟨hx, hb, hown, hwd, hK, hml, hlk, hnm, hA, hfr0, hlo0, hE⟩ := X
      have he' : (ai_ws aC ad r.1 r.2.1)[_]? = _ := ai_ws_get (aC := aC) (ad := ad) (h := r.1) hb'
      rw [he] at he'
      have hw6 := ai_wS_drop (na := na) i6
      rw [hdr] at hw6
      have hlen : (st.take na).reverse.length = na := by
        have h1 : (st.drop na).length ≠ 0 := by rw [hdr]; simp
        rw [List.length_drop] at h1
        rw [List.length_reverse, List.length_take]
        omega
      have hM := hC ad
      rw [hm] at hM
      refine ai_after (st0 := st.map (ai_cv ad)) (o := o) (rest := rest) ⟨i1, i2, i3, i4, i5, ai_wS_t hw6, i7, i8⟩ (vx_runVX (Ts := []) (n := na) (own := own.1) (C := nm.cls) (index := index) (As := (st.take na).reverse.map (ai_cv ad)) (b := ad b) ⟨hx, hb, hml, hown, fun _ h => by cases h⟩ hM
        ⟨⟨rfl, rfl, ?_, ai_rl hmL hlo, ?_, List.mem_cons_self⟩, hwd _ w1 rfl, hwd _ w2 rfl, hy, ?_, hwd _ w3 rfl, hwd _ w4 rfl, hwd _ w5 rfl⟩ ⟨ai_Pc_blind, va_recv hK i2 ck.1 he', ai_Pc_at X0 i2 i3 i4 (ai_wS_c (ai_wS_h hw6) (ai_wS_take i6)) i8⟩ rfl (by rw [List.length_map]; exact hlen) i5.1 ?_ ?_ hd ⟨hce, hsl⟩) kk kx
      · show d + 8 + 1 ≤ R.frames
        omega
      · intro w hw a' U hW
        rw [List.mem_singleton.mp hw]
        exact ai_mv_at (w := .codeWith nm bs mL ret (hh :: hs)) hW rfl (hwd _ w1 rfl)
      · intro sig hs
        rw [hs] at hpar
        exact (Option.some.inj hpar).symm
      · show st.map (ai_cv ad) = _
        rw [ai_stk (na := na), hdr]
        rfl
      · show 2 * 0 + _ ≤ 8
        rw [ai_cats]
        have := hc.2
        omega
    · cases hf
  · cases hf
theorem ai_iS_okW (hm : Mt y = (nm, bs, mL, ret, hh :: hs)) (hmL : mL ≤ 40) (w1 : Cond.codeWith nm bs mL ret (hh :: hs) ∈ lw_tbl) (w2 : Cond.initialized nm.cls ∈ lw_tbl) (w3 : Cond.methodLink own.1 index nm ∈ lw_tbl) (w4 : Cond.static nm ∈ lw_tbl)
    (hy : nm.cls ≠ "java/lang/invoke/MethodHandle" ∧ nm.cls ≠ "java/lang/invoke/VarHandle") (hpar : (parseMethodDescriptor nm.desc).map (fun d => d.parameters.length) = some na) (hd : decode cc pc = .ok (.invokestatic index, 3)) : ai_Co l Mt cc own nL pc (ai_iS y na) := by
  refine ai_iS_okX ?_
  intro p e R s m args below meth c D aC A d o H locs ls cells slots ad n h As rest X hls hfr hlo hce hsl hlen hrs hv hC hPc
  have hM := hC ad
  rw [hm] at hM
  obtain ⟨hx, hb, hown, hwd, hK, hml, hlk, hnm, hA, hfr0, hlo0, hE⟩ := X
  refine vx_runSX (Ts := []) (n := na) (own := own.1) (index := index) (As := As.map (ai_cv ad)) ⟨hx, hb, hml, hown, fun _ h => by cases h⟩ hM
    ⟨⟨rfl, rfl, ?_, ai_rl hmL hlo, ?_, List.mem_cons_self⟩, hwd _ w1 rfl, hwd _ w2 rfl, hy, ?_, hwd _ w3 rfl, hwd _ w4 rfl⟩ ⟨ai_Pc_blind, hPc⟩ rfl (by rw [List.length_map]; exact hlen) hls rfl (by show 2 * 0 + _ ≤ 8; omega) hd ⟨hce, hsl⟩
  · show d + 8 + 1 ≤ R.frames
    omega
  · intro w hw a' U hW
    rw [List.mem_singleton.mp hw]
    exact ai_mv_at (w := .codeWith nm bs mL ret (hh :: hs)) hW rfl (hwd _ w1 rfl)
  · intro sig hs
    rw [hs] at hpar
    exact (Option.some.inj hpar).symm
end With
/-- a method with handlers: what its table does is given (hhd), for every start of it -/
theorem ai_myW {l : Launch} {Mt : Nat → ai_Md} {P : Nat → Nat → Option ai_Op} {Hd : Nat → Nat → Nat → Option (Option (Nat × Nat))} {ML : Nat → Nat} {y mL : Nat} {nm : MethodName} {bs : ByteArray} {ret : Option FieldType} {hh : Nat × Nat × Nat × Nat} {hs : List (Nat × Nat × Nat × Nat)} (hm : Mt y = (nm, bs, mL, ret, hh :: hs)) (hp : plainName nm.cls = true) (hL : ML y = mL) (hK : ∀ pc f, P y pc = some f → ai_Ok l Mt bs (nm.cls, nm.name) mL ret pc f)
    (hno : ∀ pc E, Hd y pc E = some none → ∀ x ∈ tableOf (hh :: hs), covers x pc = false) (hth : ∀ pc lv st r E r', (P y pc).bind (fun f => f pc lv st r) ≠ some (.inr (.inr (.inr (E, r')))))
    (hhd : ∀ (p : Program) (e : Env) (R : Room) (s : State) (m : MethodId) (args : Array Value) (below : List Frame) (meth : Method) (c : Code) (D : va_G) (aC : Nat → ClassId) (A : Nat → Prop) (ad0 : Nat → Nat) (n0 : Nat) (Q : State → Prop), ai_X p R s m args meth c D aC A bs (nm.cls, nm.name) mL → c.exceptionTable.toList = tableOf (hh :: hs) →
      ∀ pc E x pc', Hd y pc E = some (some (x, pc')) → ∀ (lv : ai_L) (rest : List Value) (r : ai_Hp), ai_G p l e R s m args below meth c D aC A ad0 n0 mL Q pc' (lv.filter (fun q => !(q.1 == x) && !(q.1 + 1 == x && q.2.category == 2))) [] r → ai_GX p l e R s m args below meth c D aC A ad0 n0 mL Q pc lv rest r E) : ai_My l Mt P Hd ML y := by
  intro D aC A d ih vs h n o he ad
  obtain ⟨hlen, k, hk⟩ := he
  rw [hm]
  refine vx_ofWH (cc := bs) (maxL := mL) (ret := ret) (hh := hh :: hs) hp rfl ?_
  intro p e s m args below meth c s₁ B hml hv
  have hpre := atoms_spec (ws := [ai_wm (nm, bs, mL, ret, hh :: hs)]) B.pre _ List.mem_cons_self
  have htab : c.exceptionTable.toList = tableOf (hh :: hs) := vx_table (x := nm) B (bytes := bs) (maxL' := mL) (ret' := ret) (hh := hh :: hs) hpre
  obtain ⟨rfl, q1, q2, q3, q4, q5, q6, q7, q8⟩ := hv
  have X : ai_X p (ai_rm (d + 1) o.2.2.2.1 o.2.2.2.2) s m (vs.map (ai_cv ad)).toArray meth c D aC A bs (nm.cls, nm.name) mL :=
    ⟨B.exec, B.bytes, findClass_of_methodNamed B.named, ai_wd_at (State.WarmedH.refl s) q4, q3, hml, B.notSynchronized, (name_of_methodNamed B.named B.method).1, q6, Nat.le_add_left _ _, Nat.le_add_left _ _, q5⟩
  rw [lg_entry_eq]
  have hl := lv_entry (vs.map (ai_cv ad)) (n := mL) (by rw [ai_sl_len, ← hL]; exact hlen)
  rw [ai_args_lv] at hl
  exact ai_lp_sound (Z := fun _ _ _ _ => True) trivial (Nat.le_refl _) (by show 64 * d + 320 ≤ 64 * (d + 1) + 256; exact Nat.le_of_eq (by rw [Nat.mul_add])) (Nat.le_refl _) (Nat.le_refl _) X B.returns (fun pc f h => (hK pc f h).z) ih (fun pc E h9 x hx => hno pc E h9 x (by rw [← htab]; exact hx)) (fun pc x hx _ => Or.inr (hth pc)) (hhd p e _ s m _ below meth c D aC A ad n _ X htab) k 0 (lv_args 0 vs) [] (h, n, 0, 0) hk ad s.heap [] _ ⟨⟨Nat.le_refl _, fun _ _ => rfl⟩, q1, q2, va_S.rf, hl, ai_wS_n, ai_args_w vs 0 q7, q8⟩
