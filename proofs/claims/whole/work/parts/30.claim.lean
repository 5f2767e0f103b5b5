/-! ===== the claim out of one run of the law on the abstract machine (the rows lw_ began as the kit's skeleton, turned to this) ===== -/
def R_law : String := "PathsKeptLaw"
def lw_P (b : Addr) (xs : List Int32) (args : Array Value) (s : State) : Prop := args = #[.ref b] ∧ s.IntsAt b xs ∧ xs.length ≤ 384 ∧ (Jvm.Cond.and given_1 narrow_1).before args s = true
def lw_Q (_ : Array Value) (s : State) (o : Outcome) (t : State) : Prop := o = .returned (some (.int 1)) ∧ Framed s o t [] 600128 7301098
def lw_Z (below : List Frame) (a : Array Value) (s : State) : State → Prop := fun t => ∃ o, t.status = .running ∧ Ended t below o ∧ lw_Q a s o t
def lw_At (p : Program) (s : State) (m : MethodId) (meth : Method) (c : Code) (b L : Nat) (xs : Nat → Int32) : Prop :=
  p.tables.exec = Jvm.exec ∧ c.code = code ∧ meth.sig.returnType = ret ∧ c.maxLocals = 7 ∧ s.vm.findClass R_law = some m.cls ∧ (∀ w ∈ lw_tbl, w.before #[Value.ref b] s = true) ∧ va_X b L xs s s.heap ∧ b < s.heap.size ∧ meth.locks = false ∧ (Jvm.Cond.and given_1 narrow_1).before #[Value.ref b] s = true ∧ meth.name = "law" ∧ ∀ x ∈ c.exceptionTable.toList, False
def ai_h0 : ai_H := fun _ => .inr (0, [])
/-- what is left to show: the law's run on the abstract machine -/
def ai_Goal (L : Nat) (xs : Nat → Int32) : Prop := ∃ (d k : Nat) (o : ai_Ou), 64 * d + 320 ≤ 84000 ∧ o.1 = .inl (some (.int 1)) ∧ o.2.2.2.1 ≤ 600128 ∧ o.2.2.2.2 ≤ 7301098 ∧ ai_lp (ai_Ev ai_P ai_Hd ai_ML d) (ai_lk (tL_law L xs)) (fun _ _ => some none) k 0 [(0, .ref 0)] [] (ai_h0, 1, 0, 0) o
theorem whole_start {p : Program} {e : Env} {s : State} {m : MethodId} {below : List Frame} {meth : Method} {c : Code} (l : Launch) (hl : l.stackTraces = false) {b L : Nat} {xs : Nat → Int32} (hg : ai_Goal L xs) (C0 : lw_At p s m meth c b L xs) : W p l e room_1 s m #[Value.ref b] below meth c s.heap [] 0 0 (lw_Z below #[Value.ref b] s) (entryFrame m ([Value.ref b] : List Value).toArray 7) := by
  obtain ⟨d, k, o, hd, ho, hoc, hos, hk⟩ := hg
  obtain ⟨hx, hb, hr, hml, hown, hts, hX, hbl, hlk, hgv, hnm, htab⟩ := C0
  obtain ⟨D, aC, hK⟩ := st_K hts
  obtain ⟨A, hAe⟩ : ∃ A : Nat → Prop, A = fun q => s.heap.size ≤ q := ⟨_, rfl⟩
  have hA : ∀ q, s.heap.size ≤ q → A q := fun q h => by rw [hAe]; exact h
  have hA' : ∀ q, A q → s.heap.size ≤ q := fun q h => by rw [hAe] at h; exact h
  have hAn : ∀ a : Nat, a < s.heap.size → ¬ A a := fun a h h2 => Nat.not_le.mpr h (hA' a h2)
  have hE : ai_E A s := st_E hts hgv hAn
  have X : ai_X p room_1 s m #[Value.ref b] meth c D aC A cL_law (yL_law.cls, yL_law.name) 7 := ⟨hx, hb, hown, fun w hw _ => hts w hw, hK, hml, hlk, hnm, hA, by decide, by decide, hE⟩
  have hZ : ai_Zs L xs s A (fun _ => b) 1 := ⟨Nat.one_pos, hX, hbl, hAn b hbl⟩
  have key := ai_lp_sound (l := l) (e := e) (below := below) (R := room_1) (Z := ai_Zs L xs) (d := d) (Mt := ai_Mt) (C := ai_Ev ai_P ai_Hd ai_ML d) (K := ai_lk (tL_law L xs)) (hd := fun _ _ => some none) (o := o) (n0 := 1) (ad0 := fun _ => b) (ret := ret) hZ (by show d + 9 ≤ 2048; omega) hd hoc hos X hr (fun pc f h => ai_tb (t := tL_law L xs) oL_law pc f h) (ai_sound (ai_all hl) D aC A d) (fun _ _ _ x hx => (htab x hx).elim) (fun _ x hx _ => (htab x hx).elim) (fun _ _ _ _ h => by cases h) k 0 [(0, .ref 0)] [] (ai_h0, 1, 0, 0) hk
  rw [lg_entry_eq]
  have hlv := lv_entry [Value.ref b] (n := 7) (Nat.le_of_ble_eq_true rfl)
  have e0 : ai_ws aC (fun _ => b) ai_h0 1 = [] := rfl
  have hP0 : va_P D vwCl (ai_ws aC (fun _ => b) ai_h0 1) s.heap := by
    rw [e0]
    intro k q hq
    simp at hq
  have hD0 : va_D A (ai_ws aC (fun _ => b) ai_h0 1) := by
    rw [e0]
    exact ⟨fun i j p q hp => by simp at hp, fun k q hq => by simp at hq⟩
  have hL0 : ai_wL 1 [(0, Value.ref 0)] := fun q hq => by
    rw [List.mem_singleton.mp hq]
    exact ai_lt_r Nat.one_pos
  have hH0 : ai_wH 1 ai_h0 := ⟨Nat.one_pos, fun i hi => absurd hi.2 (Nat.not_lt.mpr hi.1)⟩
  have w0 := key (fun _ => b) s.heap [] _ ⟨⟨Nat.le_refl _, fun _ _ => rfl⟩, hP0, hD0, va_S.rf, hlv, ai_wS_n, hL0, hH0⟩
  intro T hT XS
  obtain ⟨t, a1, oc, b1, b2, hq⟩ := w0 T hT XS
  refine ⟨t, a1, oc, b1, b2, ?_⟩
  rcases hq with ⟨⟨v, ad', hv1, hv2, -, -⟩, Lo, hF, hLo⟩ | ⟨q, -, E, ce, Lo, ⟨k9, ad', hk9, -⟩, -⟩
  · rw [ho] at hv1
    cases hv1
    subst hv2
    refine ⟨rfl, hF.1, hF.2.1, ?_⟩
    exact (State.sameButNew.drop_fresh (L := []) (J := Lo) (by rw [List.nil_append]; exact hF.2.2) (fun z hz => hA' _ (hLo z hz))).mono hoc hos
  · rw [ho] at hk9
    cases hk9
set_option maxHeartbeats 4000000 in
theorem lw_walk (l : Launch) (hl : l.stackTraces = false) (hG : ∀ (L : Nat) (xs : Nat → Int32), L ≤ 384 → ai_Goal L xs) (b : Addr) (xs : List Int32) : MetFree l x (headSpec (Jvm.Cond.code x code maxLocals ret :: tables_1) room_1) (lw_P b xs) (fun _ _ _ _ _ => True) lw_Q := by
  refine MetFree.of_bodyS (code := code) (maxLocals := maxLocals) (ret := ret) (by decide) ?_ ?_
  · intro args s m h hn
    obtain ⟨meth, c, h1, h2, h3, h4, h5, h6, -, -⟩ := Cond.code_spec hn (atoms_spec (ws := Jvm.Cond.code x code maxLocals ret :: tables_1) h _ List.mem_cons_self)
    exact ⟨meth, c, h1, h2, h3, h4, h5, h6⟩
  · intro p e s m args below meth c s₁ B hml0 hP _
    obtain ⟨rfl, hx, hbd, hgv⟩ := hP
    obtain ⟨scr, harrAt, hlist, hof, hsmall⟩ := hx
    obtain ⟨hcb, hkn, -, -⟩ := State.arrayAt?_spec harrAt
    have hown : s.vm.findClass R_law = some m.cls := findClass_of_methodNamed B.named
    have hts0 : ∀ c ∈ (Jvm.Cond.code x code maxLocals ret :: tables_1), c.before #[Value.ref b] s = true := atoms_spec (ws := Jvm.Cond.code x code maxLocals ret :: tables_1) B.pre
    have hts : ∀ w ∈ lw_tbl, w.before #[Value.ref b] s = true := k2_hts_sels lw_privs (fun w hw => hts0 w (List.mem_cons_of_mem _ hw)) lw_privs_ok
    have hml : c.maxLocals = 7 := B.maxLocals_eq (hts0 _ List.mem_cons_self)
    have X₀ : Stand p l e room_1 s m #[Value.ref b] below meth c s₁ [] 0 0 := Stand.of_body B
    have hh0 : s₁.heap = s.heap := by rw [B.state]; rfl
    have hsz : scr.slots.size = xs.length := by rw [← Array.length_toList, hlist, List.length_map]
    have hval : ∀ j : Nat, j < xs.length → scr.slots[j]? = some (.int (xs.getD j 0)) := fun j hj => by
      rw [← Array.getElem?_toList, hlist]
      simp [hj]
    have hbl : b < s.heap.size := (Array.getElem?_eq_some_iff.mp hcb).1
    have hX : va_X b xs.length (fun j => xs.getD j 0) s s.heap := ⟨scr, hcb, hof, hkn, hsz, hval⟩
    have hno : ∀ x ∈ c.exceptionTable.toList, False := by
      obtain ⟨meth9, c9, h1, h2, -, -, -, -, h7, -⟩ := Cond.code_spec B.named (hts0 _ List.mem_cons_self)
      cases Option.some.inj (h1.symm.trans B.method)
      cases Option.some.inj (h2.symm.trans (Stand.of_body B).code)
      intro x hx
      rw [Array.isEmpty_iff.mp h7] at hx
      cases hx
    have K : W p l e room_1 s m #[Value.ref b] below meth c s₁.heap [] 0 0 (lw_Z below #[Value.ref b] s) (entryFrame m ([Value.ref b] : List Value).toArray 7) := by
      rw [hh0]
      exact whole_start l hl (hG _ _ hbd) ⟨B.exec, B.bytes, B.returns, hml, hown, hts, hX, hbl, B.notSynchronized, hgv, (name_of_methodNamed B.named B.method).1, hno⟩
    obtain ⟨t, a1, o, b1, b2, b3⟩ := K s₁ rfl X₀
    exact ⟨t, o, a1, b1, b2, b3⟩
theorem lw_pre_spec {args : Array Value} {s : State} (h : (Jvm.Cond.and given_1 narrow_1).before args s = true) (hr : rest_1_c.before args s = true) : ∃ (b : Addr) (xs : List Int32), lw_P b xs args s := by
  have hs := flat_of_before _ h
  have hq := flat_of_before _ hr
  have hc : (Cond.count 1).before args s = true := hs _ (by decide +kernel)
  have harr : (Cond.arrayOf (.arg 0) .int).before args s = true := hs _ (by decide +kernel)
  have hle : (Cond.le (.length (.arg 0)) (.int 384)).before args s = true := hs _ (by decide +kernel)
  have hlen : (Cond.isInt (.length (.arg 0))).before args s = true := hq _ (by decide +kernel)
  have hall : (Cond.all (.arg 0) (.isInt (.elem (.arg 0) (.index 0)))).before args s = true := hq _ (by decide +kernel)
  obtain ⟨b, xs, hb, hx⟩ := State.ints_of_pre rfl harr hlen hall
  have hsm : xs.length < 2 ^ 31 := hx.choose_spec.2.2.2
  have hev : (Term.length (.arg 0)).eval args s none [] s = some (.int xs.length.toInt32) := hx.length_eval hb
  have hv := Cond.le_ints hev (show (Term.int 384).eval args s none [] s = some (.int 384) from rfl)
  have hd : xs.length.toInt32 ≤ 384 := by
    simpa [Cond.before, Cond.holds, hv] using hle
  have hN : xs.length ≤ 384 := (Int32.ofNat_le_ofNat hsm (by decide)).mp (show Int32.ofNat xs.length ≤ Int32.ofNat 384 from hd)
  exact ⟨b, xs, Cond.one_arg hc (show args[0]? = some (.ref b) from hb), hx, hN, h⟩
theorem lw_comes (l : Launch) (hl : l.stackTraces = false) (hG : ∀ (L : Nat) (xs : Nat → Int32), L ≤ 384 → ai_Goal L xs) : Comes l x (Jvm.Cond.code x code maxLocals ret :: tables_1) room_1 (fun tb e args s => Calls_1 tb e args s ∧ rest_1 tb e args s ∧ Pre_1 tb e args s)
    (fun _ _ args s o t => lw_Q args s o t) := by
  intro p e ha hc hk s m args below hf hfit hheap happ hpre
  obtain ⟨b, xs, hP⟩ := lw_pre_spec hpre.2.2 hpre.2.1
  obtain ⟨k, o, h1, h2, h3, hQ⟩ := lw_walk l hl hG b xs p e ha hc hk s m args below hf ((Spec.applies_iff_loose hf).mp happ).1 hP trivial
  exact ⟨k, o, h1, h2, h3, hQ⟩
theorem lw_frame {s t : State} {o : Outcome} {args : Array Value} (h : Framed s o t [] 600128 7301098) :
    Framed s o t (fieldLocs frame_1_writes args s ++ arrayLocs frame_1_arrays args s ++ staticLocs frame_1_statics s) 600128 7301098 := h
theorem lw_limb (hG : ∀ (L : Nat) (xs : Nat → Int32), L ≤ 384 → ai_Goal L xs) (L : Cond) (hL : ∀ (args : Array Value) (s t : State), L.after args s (.returned (some (.int 1))) t = true) :
    ArmFor flags0 classFile x code maxLocals ret World_1 tables_1 room_1 Calls_1 rest_1 Pre_1
      (fun tb e a s o t => postC L tb e a s o t ∧ Framed s o t (fieldLocs frame_1_writes a s ++ arrayLocs frame_1_arrays a s ++ staticLocs frame_1_statics s) 600128 7301098) := by
  intro l hfl _ _ p e ha hc hk s m args below hf hfit hheap happ hpre
  have hst : l.stackTraces = false := by
    unfold Launch.stackTraces
    rw [hfl]
    decide +kernel
  obtain ⟨k, o, h1, h2, h3, rfl, hF⟩ := lw_comes l hst hG p e ha hc hk s m args below hf hfit hheap happ hpre
  exact ⟨k, _, h1, h2, h3, hL args s _, lw_frame hF⟩
theorem i_vc_of (hG : ∀ (L : Nat) (xs : Nat → Int32), L ≤ 384 → ai_Goal L xs) : Claimed_1_1 ∧ Claimed_1_2 := ⟨lw_limb hG limb_1_1 (fun args s t => by simp [limb_1_1, Cond.after, Cond.holds, Cond.value]), lw_limb hG limb_1_2 (fun args s t => Cond.after_iff.mpr (by
  first | (rw [show limb_1_2 = Cond.eq .result (.int 1) from rfl, Cond.eq_ints (x := 1) (y := 1) rfl rfl]; simp; done) | (simp [limb_1_2, Cond.value, Term.eval]; done)))⟩
