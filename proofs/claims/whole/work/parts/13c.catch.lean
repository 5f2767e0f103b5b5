/-! ===== an exception of a callee's, taken by a row of the method's own table ===== -/
section AXC
/-- one row that covers the place and names a class: it takes the exception, or the search goes on; the row's class is noted -/
theorem ax_row {E : CtlPost} {e : Env} {d : Bool} {acts : List Action} {S : State} {f : JFrame} {a : Addr} {Q : Handler → Pre} {x : ExceptionTableEntry} {t : List ExceptionTableEntry} {k : ClassId} {cell : Cell} (hx : covers x f.pc = true) (h0 : x.catchType ≠ 0)
    (hl : S.vm.ClassLinks e.platform f.method.cls x.catchType k) (hcell : S.heap[a]? = some cell) (hobj : ∀ z, cell.vm ≠ .statics z) (hk1 : ∃ q, S.vm.classes[cell.cls]? = some q) (hk2 : ∃ q, S.vm.classes[k]? = some q) :
    wp (findHandler.go f a (x :: t)) Q E e d acts S ↔ if S.vm.assignable cell.cls k = true then Q (.found x.handlerPc) d acts (S.setVm (S.vm.noted f.method.cls x.catchType (.cls k))) else wp (findHandler.go f a t) Q E e d acts (S.setVm (S.vm.noted f.method.cls x.catchType (.cls k))) := by
  simp only [covers] at hx
  obtain ⟨r1, r2⟩ := (resolveClass_links e.toSetting hl).op (op := VmOp.resolveClass f.method.cls x.catchType) rfl
  have hal : S.vm.Alike (S.vm.noted f.method.cls x.catchType (.cls k)) := (Vm.Alike.refl S.vm).noted _ _ _
  obtain ⟨q1, e1⟩ := hk1
  obtain ⟨q2, e2⟩ := hk2
  obtain ⟨q3, e3, -⟩ := hal.2.2 _ _ e1
  obtain ⟨q4, e4, -⟩ := hal.2.2 _ _ e2
  have hsame : (S.vm.noted f.method.cls x.catchType (.cls k)).assignable cell.cls k = S.vm.assignable cell.cls k := hal.assignable ..
  cases hfit : S.vm.assignable cell.cls k <;>
    simp [findHandler.go, hx, h0, r1, r2, hcell, hobj, e3, e4, hsame, hfit, VmOp.dirties, VmOp.acts]
variable {p : Program} {l : Launch} {e : Env} {R : Room} {s : State} {m : MethodId} {args : Array Value} {below : List Frame} {meth : Method} {c : Code} {H : Heap} {locs : List Loc} {cells slots : Nat} {Q : State → Prop} {pc : Nat} {ls : Array Slot} {rest : List Value}
/-- the search through rows that let it pass up to the one that takes it -/
theorem ax_find {own name E : String} {ce : Cell} {q : Addr} {g : JFrame} (hgm : g.method = m) (hpl : e.platform.magicAccessors = ({} : Platform).magicAccessors) (hown : s.vm.findClass own = some m.cls) (hcl : s.vm.findClass E = some ce.cls) (hv : ce.vm = .none) (x : ExceptionTableEntry) (suf : List ExceptionTableEntry)
    (hx : covers x g.pc = true) (h0 : x.catchType ≠ 0) (hlink : (Cond.classLink own x.catchType name).before args s = true) (hcast : (Cond.castable E name).before args s = true) :
    ∀ (pre : List ExceptionTableEntry) (S : State), (∀ z ∈ pre, covers z g.pc = false ∨ (z.catchType ≠ 0 ∧ ∃ nm : String, (Cond.classLink own z.catchType nm).before args s = true ∧ va_Nc E nm s)) → s.WarmedH S.vm → S.heap[q]? = some ce →
      ∃ vm', s.WarmedH vm' ∧ ∀ (Q : Handler → Pre) (E9 : CtlPost) (d : Bool) (acts : List Action), wp (findHandler.go g q (pre ++ x :: suf)) Q E9 e d acts S ↔ Q (.found x.handlerPc) d acts (S.setVm vm') := by
  obtain ⟨c3, c4, hc3, hc4, hasg⟩ := Cond.castable_spec hcast
  cases Option.some.inj (hc3.symm.trans hcl)
  obtain ⟨c5, hc5, hcl5⟩ := Cond.classLink_spec hown hlink e.platform hpl
  cases Option.some.inj (hc4.symm.trans hc5)
  have hobj : ∀ z, ce.vm ≠ .statics z := fun z h => by rw [hv] at h; cases h
  obtain ⟨k9, hk9, -⟩ := Vm.findClass_spec hcl
  intro pre
  induction pre with
  | nil =>
    intro S _ hW hcell
    obtain ⟨dk, _, _, kt, hd, _, _, _, _, hkt, _, hopen⟩ := hcl5.here
    obtain ⟨kt', hkt', -⟩ := hW.alike.2.2 _ _ hkt
    obtain ⟨k9', hk9', -⟩ := hW.alike.2.2 _ _ hk9
    refine ⟨_, hW.noted hd hopen (State.rightAt_cls hcl5), fun Q E9 d acts => ?_⟩
    rw [List.nil_append, ax_row (k := c4) hx h0 (by rw [hgm]; exact hW.classLinks hcl5) hcell hobj ⟨k9', hk9'⟩ ⟨kt', hkt'⟩, if_pos (by rw [hW.alike.assignable]; exact hasg), hgm]
  | cons z zs ih =>
    intro S hpass hW hcell
    have hzs := fun y hy => hpass y (List.mem_cons_of_mem _ hy)
    by_cases hcov : covers z g.pc = true
    · rcases hpass z List.mem_cons_self with h | ⟨hz0, nm, hl1, a8, b8, n1, n2, n3⟩
      · rw [h] at hcov; cases hcov
      · obtain ⟨c6, hc6, hcl6⟩ := Cond.classLink_spec hown hl1 e.platform hpl
        cases Option.some.inj (n1.symm.trans hcl)
        cases Option.some.inj (n2.symm.trans hc6)
        obtain ⟨dk, _, _, kt, hd, _, _, _, _, hkt, _, hopen⟩ := hcl6.here
        obtain ⟨kt', hkt', -⟩ := hW.alike.2.2 _ _ hkt
        obtain ⟨k9', hk9', -⟩ := hW.alike.2.2 _ _ hk9
        obtain ⟨vm', hW', hq⟩ := ih (S.setVm (S.vm.noted m.cls z.catchType (.cls b8))) hzs (hW.noted hd hopen (State.rightAt_cls hcl6)) hcell
        refine ⟨vm', hW', fun Q E9 d acts => ?_⟩
        rw [List.cons_append, ax_row (k := b8) hcov hz0 (by rw [hgm]; exact hW.classLinks hcl6) hcell hobj ⟨k9', hk9'⟩ ⟨kt', hkt'⟩, if_neg (by rw [hW.alike.assignable, n3]; exact Bool.false_ne_true), hgm]
        exact hq Q E9 d acts
    · obtain ⟨vm', hW', hq⟩ := ih S hzs hW hcell
      refine ⟨vm', hW', fun Q E9 d acts => ?_⟩
      rw [List.cons_append, W.findHandler_go_skip (by simpa using hcov)]
      exact hq Q E9 d acts
theorem ax_catch {own name E : String} {ce : Cell} {q : Addr} (hown : s.vm.findClass own = some m.cls) (pre : List ExceptionTableEntry) (x : ExceptionTableEntry) (suf : List ExceptionTableEntry) (hsplit : c.exceptionTable.toList = pre ++ x :: suf)
    (hpass : ∀ z ∈ pre, covers z pc = false ∨ (z.catchType ≠ 0 ∧ ∃ nm : String, (Cond.classLink own z.catchType nm).before args s = true ∧ va_Nc E nm s)) (hx : covers x pc = true) (h0 : x.catchType ≠ 0)
    (hlink : (Cond.classLink own x.catchType name).before args s = true) (hcast : (Cond.castable E name).before args s = true) (hcell : H[q]? = some ce) (hv : ce.vm = .none) (hcl : s.vm.findClass E = some ce.cls)
    (kk : W p l e R s m args below meth c H locs cells slots Q (F0 m x.handlerPc ls [.ref q])) : vx_W p l e R s m args below meth c H locs cells slots Q (F0 m pc ls rest) q := by
  intro T hT X
  have hpl : e.platform.magicAccessors = ({} : Platform).magicAccessors := by rw [X.admits.platform]
  obtain ⟨vm', hW', hq⟩ := ax_find (e := e) (g := F0 m pc ls rest) rfl hpl hown hcl hv x suf hx h0 hlink hcast pre ((T.setTop (F0 m pc ls rest)).pushFrame (.throwing q)) hpass X.warmed (by show T.heap[q]? = _; rw [hT]; exact hcell)
  obtain ⟨t, a1, b1⟩ := kk (T.setVm vm') hT (X.noted hW')
  refine ⟨t, ?_, b1⟩
  have hfind : ∀ (Q : Handler → Pre) (E9 : CtlPost) (d : Bool) (acts : List Action), wp (findHandler (F0 m pc ls rest) q) Q E9 e d acts ((T.setTop (F0 m pc ls rest)).pushFrame (.throwing q)) ↔ Q (.found x.handlerPc) d acts (((T.setTop (F0 m pc ls rest)).pushFrame (.throwing q)).setVm vm') := fun Q E9 d acts => by
    rw [W.findHandler_eq (s := (T.setTop (F0 m pc ls rest)).pushFrame (.throwing q)) (f := F0 m pc ls rest) X.method' X.code, hsplit]
    exact hq Q E9 d acts
  have hstep : (stepThrowing e ((T.setTop (F0 m pc ls rest)).pushFrame (.throwing q)) q (.java (F0 m pc ls rest) :: T.frames.tail)).1 = (((T.setTop (F0 m pc ls rest)).pushFrame (.throwing q)).setVm vm').setFrames (.java (F0 m x.handlerPc ls [.ref q]) :: T.frames.tail) := by
    simp only [stepThrowing, searchFrame, vmDo]
    generalize hr : Sem.go _ e false [] _ = res
    obtain ⟨as, rfl, -⟩ := Sem.eq_ok_of hr (a := Handler.found x.handlerPc) (s' := ((T.setTop (F0 m pc ls rest)).pushFrame (.throwing q)).setVm vm') (acts' := []) (by simp [hfind])
    rfl
  obtain ⟨hgo, hw⟩ := X.here.throwing (g := F0 m pc ls rest) q
  refine Steps.head hgo hw ?_
  rw [stepThread_throwing (frames_entered X.here.top _), hstep]
  obtain ⟨g₀, hg⟩ := Option.isSome_iff_exists.mp X.here.top
  obtain ⟨r, hr⟩ := State.topJava?_eq_some.mp hg
  have hr' : (T.setVm vm').frames = .java g₀ :: r := hr
  have hset : ∀ (u : State) (v : Vm) (F G : List Frame), ((u.setFrames F).setVm v).setFrames G = (u.setVm v).setFrames G := fun u v F G => by
    rw [show (u.setFrames F).setVm v = (u.setVm v).setFrames F from rfl, State.setFrames_setFrames]
  rw [State.setTop_of_frames _ hr'] at a1
  rw [hr, List.tail_cons, State.pushFrame, hset, State.setTop_of_frames _ hr, hset]
  exact a1
end AXC
/-- a handler that forgets the exception: its first instruction stores it in the local x -/
theorem ai_hd {p : Program} {l : Launch} {e : Env} {R : Room} {s : State} {m : MethodId} {args : Array Value} {below : List Frame} {meth : Method} {c : Code} {D : va_G} {aC : Nat → ClassId} {A : Nat → Prop} {ad0 : Nat → Nat} {n0 nL : Nat} {Q : State → Prop} {cc : ByteArray} {own : String × String} {pc x pc' E : Nat} {name : String}
    (X : ai_X p R s m args meth c D aC A cc own nL) (pre : List ExceptionTableEntry) (w : ExceptionTableEntry) (suf : List ExceptionTableEntry) (hsplit : c.exceptionTable.toList = pre ++ w :: suf)
    (hpass : ∀ z ∈ pre, covers z pc = false ∨ (z.catchType ≠ 0 ∧ ∃ nm : String, (Cond.classLink own.1 z.catchType nm).before args s = true ∧ va_Nc (ai_xn E) nm s)) (hx : covers w pc = true) (h0 : w.catchType ≠ 0)
    (hlink : Cond.classLink own.1 w.catchType name ∈ lw_tbl) (hcast : Cond.castable (ai_xn E) name ∈ lw_tbl) (hxn : x < nL)
    (hrow : ∀ (H : Heap) (locs : List Loc) (cells slots : Nat) (ls : Array Slot) (lv lv' : List (Nat × Value)) (q : Nat), lv_has ls nL lv → (x, Value.ref q) :: lv.filter (fun q => !(q.1 == x) && !(q.1 + 1 == x && q.2.category == 2)) = lv' → (∀ ls' : Array Slot, lv_has ls' nL lv' → W p l e R s m args below meth c H locs cells slots Q (F0 m pc' ls' [])) → W p l e R s m args below meth c H locs cells slots Q (F0 m w.handlerPc ls [.ref q]))
    (lv : ai_L) (rest : List Value) (r : ai_Hp) (hG : ai_G p l e R s m args below meth c D aC A ad0 n0 nL Q pc' (lv.filter (fun q => !(q.1 == x) && !(q.1 + 1 == x && q.2.category == 2))) [] r) : ai_GX p l e R s m args below meth c D aC A ad0 n0 nL Q pc lv rest r E := by
  intro ad H locs ls q ce hI hce hcv hcl
  obtain ⟨i1, i2, i3, i4, i5, i6, i7, i8⟩ := hI
  refine ax_catch X.2.2.1 pre w suf hsplit hpass hx h0 (X.2.2.2.1 _ hlink rfl) (X.2.2.2.1 _ hcast rfl) hce hcv hcl ?_
  refine hrow H locs _ _ ls (ai_lv ad lv) _ q i5 rfl (fun ls' h' => ?_)
  refine hG ad H locs ls' ⟨i1, i2, i3, i4, ⟨h'.1, h'.2.1, fun z hz => h'.2.2 z (List.mem_cons_of_mem _ ?_)⟩, ai_wS_n, fun z hz => i7 z (List.mem_filter.mp hz).1, i8⟩
  unfold ai_lv at hz ⊢
  rw [List.filter_map]
  simpa only [Function.comp_def, ai_cat] using hz
