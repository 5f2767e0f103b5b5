/-! ===== runs: a method by its operations; calls; contracts ===== -/
/-- what an operation says: go on; return; call (the method's number, the arguments, the rest of the stack, 1 if it can't throw); throw -/
abbrev ai_Rs : Type := (Nat × ai_L × List Value × ai_Hp) ⊕ (Option Value × ai_Hp) ⊕ (Nat × List Value × List Value × Nat) ⊕ (Nat × ai_Hp)
abbrev ai_Op : Type := Nat → ai_L → List Value → ai_Hp → Option ai_Rs
/-- how a method ends: with a value or none, or with an exception; the heap; what was made -/
abbrev ai_Ou : Type := (Option Value ⊕ Nat) × ai_Hp
def ai_sp (f : ai_Sp) : ai_Op := fun pc lv st r => (f pc lv st r).map Sum.inl
def ai_lp (C : Nat → List Value → ai_H → Nat → ai_Ou → Prop) (K : Nat → Option ai_Op) (hd : Nat → Nat → Option (Option (Nat × Nat))) : Nat → Nat → ai_L → List Value → ai_Hp → ai_Ou → Prop
  | 0, _, _, _, _, _ => False
  | k + 1, pc, lv, st, r, o => match (K pc).bind (fun f => f pc lv st r) with
    | some (.inl (pc', lv', st', r')) => ai_lp C K hd k pc' lv' st' r' o
    | some (.inr (.inl (v, r'))) => o = (.inl v, r')
    | some (.inr (.inr (.inl (y, vs, rest, fl)))) => ∃ (w : Option Value ⊕ Nat) (h' : ai_H) (n' c' s' : Nat), C y vs r.1 r.2.1 (w, h', n', c', s') ∧ (match w with
      | .inl v => ai_lp C K hd k (pc + 3) lv (v.toList ++ rest) (h', n', r.2.2.1 + c', r.2.2.2 + s') o
      | .inr E => fl ≠ 1 ∧ match hd pc E with
        | some (some (x, pc')) => ai_lp C K hd k pc' (lv.filter (fun q => !(q.1 == x) && !(q.1 + 1 == x && q.2.category == 2))) [] (h', n', r.2.2.1 + c', r.2.2.2 + s') o
        | some none => o = (.inr E, h', n', r.2.2.1 + c', r.2.2.2 + s')
        | none => False)
    | some (.inr (.inr (.inr (E, r')))) => o = (.inr E, r')
    | none => False
def ai_Ev (P : Nat → Nat → Option ai_Op) (Hd : Nat → Nat → Nat → Option (Option (Nat × Nat))) (ML : Nat → Nat) : Nat → Nat → List Value → ai_H → Nat → ai_Ou → Prop
  | 0 => fun _ _ _ _ _ => False
  | d + 1 => fun y vs h n o => (lg_sl vs).length ≤ ML y ∧ ∃ k, ai_lp (ai_Ev P Hd ML d) (P y) (Hd y) k 0 (lv_args 0 vs) [] (h, n, 0, 0) o
/-- what an operation makes is never taken back -/
def ai_mo (f : ai_Sp) : Prop := ∀ (pc : Nat) (lv : ai_L) (st : List Value) (r : ai_Hp) (pc' : Nat) (lv' : ai_L) (st' : List Value) (r' : ai_Hp), f pc lv st r = some (pc', lv', st', r') → r.2.2.1 ≤ r'.2.2.1 ∧ r.2.2.2 ≤ r'.2.2.2
def ai_xn (k : Nat) : String := match k with
  | 0 => "java/lang/IllegalArgumentException"
  | 1 => "java/lang/IndexOutOfBoundsException"
  | _ => "java/util/NoSuchElementException"
def ai_rm (d c s : Nat) : Room := { frames := d + 8, cells := c, slots := s, locals := 64 * d + 256 }
def ai_Pc (D : va_G) (aC : Nat → ClassId) (A : Nat → Prop) (ad : Nat → Nat) (vs : List Value) (h : ai_H) (n : Nat) : Array Value → State → Prop :=
  va_Pc (vs.map (ai_cv ad)) (fun U => va_P D vwCl (ai_ws aC ad h n) U.heap ∧ va_D A (ai_ws aC ad h n) ∧ va_K D vwCl (ai_tys aC) U ∧ ai_wd #[] U ∧ ai_E A U ∧ (∀ q, U.heap.size ≤ q → A q) ∧ ai_wS n vs ∧ ai_wH n h)
/-- the world behind a method -/
def ai_B (D : va_G) (aC : Nat → ClassId) (A : Nat → Prop) (ad : Nat → Nat) (n : Nat) (r : ai_Hp) (st t : State) (ad' : Nat → Nat) : Prop :=
  (n ≤ r.2.1 ∧ ∀ i, i < n → ad' i = ad i) ∧ va_P D vwCl (ai_ws aC ad' r.1 r.2.1) t.heap ∧ va_D A (ai_ws aC ad' r.1 r.2.1) ∧ va_F A st t ∧ ai_wH r.2.1 r.1
def ai_Qc (D : va_G) (aC : Nat → ClassId) (A : Nat → Prop) (ad : Nat → Nat) (n : Nat) (o : ai_Ou) : Array Value → State → Outcome → State → Prop := fun _ st oc t =>
  ∃ (v : Option Value) (ad' : Nat → Nat), o.1 = .inl v ∧ oc = .returned (v.map (ai_cv ad')) ∧ ai_B D aC A ad n o.2 st t ad' ∧ ∀ w, v = some w → ai_lt o.2.2.1 w
def ai_XC (D : va_G) (aC : Nat → ClassId) (A : Nat → Prop) (ad : Nat → Nat) (n : Nat) (o : ai_Ou) : String → State → State → Prop := fun E st t =>
  ∃ (k : Nat) (ad' : Nat → Nat), o.1 = .inr k ∧ E = ai_xn k ∧ ai_B D aC A ad n o.2 st t ad'
theorem ai_Pc_blind {D : va_G} {aC : Nat → ClassId} {A : Nat → Prop} {ad : Nat → Nat} {vs : List Value} {h : ai_H} {n : Nat} : FrameBlind (ai_Pc D aC A ad vs h n) := by
  intro a U g mk q
  obtain ⟨q0, q1, q2, q3, q4, q5, q6, q7, q8⟩ := q
  exact ⟨q0, q1, q2, va_K.moved (u := U) (U := U.calling g mk a) (Vm.Alike.refl U.vm) q3, ai_wd_at (s := U) (U := U.calling g mk a) (State.WarmedH.refl U) q4, ai_E_at (U := U.calling g mk a) q5 (State.WarmedH.refl U) (fun _ _ _ => rfl), q6, q7, q8⟩
/-- what the callee asks holds where it is called -/
theorem ai_Pc_at {p : Program} {R : Room} {s : State} {m : MethodId} {args : Array Value} {meth : Method} {c : Code} {D : va_G} {aC : Nat → ClassId} {A : Nat → Prop} {cc : ByteArray} {own : String × String} {nL : Nat} {ad : Nat → Nat} {H : Heap} {locs : List Loc} {h : ai_H} {n : Nat} {vs : List Value}
    (X : ai_X p R s m args meth c D aC A cc own nL) (hP : va_P D vwCl (ai_ws aC ad h n) H) (hD : va_D A (ai_ws aC ad h n)) (hS : va_S A s.heap H locs) (hv : ai_wS n vs) (hw : ai_wH n h) :
    ∀ U : State, U.heap = H → s.WarmedH U.vm → ai_Pc D aC A ad vs h n (vs.map (ai_cv ad)).toArray U := by
  obtain ⟨hx, hb, hown, hwd, hK, hml, hlk, hnm, hA, hfr, hlo, hE⟩ := X
  intro U hU hW
  exact ⟨rfl, by rw [hU]; exact hP, hD, va_K.moved hW.alike hK, ai_wd_at hW hwd, ai_E_at hE hW (fun a h1 h2 => by rw [hU]; exact hS.2.1 a h1 h2), fun q hq => hA q (Nat.le_trans hS.1 (by rw [hU] at hq; exact hq)), hv, hw⟩
section After
variable {p : Program} {l : Launch} {e : Env} {R : Room} {s : State} {m : MethodId} {args : Array Value} {below : List Frame} {meth : Method} {c : Code} {D : va_G} {aC : Nat → ClassId} {A : Nat → Prop} {ad0 : Nat → Nat} {n0 nL : Nat} {Q : State → Prop}
/-- an exception over the method's frame -/
def ai_GX (p : Program) (l : Launch) (e : Env) (R : Room) (s : State) (m : MethodId) (args : Array Value) (below : List Frame) (meth : Method) (c : Code) (D : va_G) (aC : Nat → ClassId) (A : Nat → Prop) (ad0 : Nat → Nat) (n0 nL : Nat) (Q : State → Prop) (pc : Nat) (lv : ai_L) (st : List Value) (r : ai_Hp) (E : Nat) : Prop :=
  ∀ (ad : Nat → Nat) (H : Heap) (locs : List Loc) (ls : Array Slot) (q : Addr) (ce : Cell), ai_I D aC A ad0 n0 nL s ad H locs ls lv st r → H[q]? = some ce → ce.vm = .none → s.vm.findClass (ai_xn E) = some ce.cls → vx_W p l e R s m args below meth c H locs r.2.2.1 r.2.2.2 Q (F0 m pc ls (st.map (ai_cv ad))) q
/-- behind a call -/
theorem ai_after {pc : Nat} {lv : ai_L} {st0 : List Value} {rest : List Value} {r : ai_Hp} {o : ai_Ou} {ad : Nat → Nat} {H : Heap} {locs : List Loc} {ls : Array Slot} {a : Array Value} (hI : ai_I D aC A ad0 n0 nL s ad H locs ls lv rest r)
    (hr : vx_Run p l e R s m args below meth c H locs r.2.2.1 r.2.2.2 o.2.2.2.1 o.2.2.2.2 (F0 m pc ls st0) (rest.map (ai_cv ad)) (ai_Qc D aC A ad r.2.1 o a) (ai_XC D aC A ad r.2.1 o) A)
    (kk : ∀ v, o.1 = .inl v → ai_G p l e R s m args below meth c D aC A ad0 n0 nL Q (pc + 3) lv (v.toList ++ rest) (o.2.1, o.2.2.1, r.2.2.1 + o.2.2.2.1, r.2.2.2 + o.2.2.2.2))
    (kx : ∀ E, o.1 = .inr E → ai_GX p l e R s m args below meth c D aC A ad0 n0 nL Q pc lv rest (o.2.1, o.2.2.1, r.2.2.1 + o.2.2.2.1, r.2.2.2 + o.2.2.2.2) E) :
    W p l e R s m args below meth c H locs r.2.2.1 r.2.2.2 Q (F0 m pc ls st0) := by
  obtain ⟨⟨i1, i1'⟩, i2, i3, i4, i5, i6, i7, i8⟩ := hI
  have key : ∀ (st₀ t T' : State) (L : List Loc) (ad' : Nat → Nat), st₀.heap = H → T'.heap = t.heap → (∀ q ∈ L, A q.base) → ai_B D aC A ad r.2.1 o.2 st₀ t ad' → ai_I D aC A ad0 n0 nL s ad' T'.heap (locs ++ L) ls lv rest (o.2.1, o.2.2.1, r.2.2.1 + o.2.2.2.1, r.2.2.2 + o.2.2.2.2) ∧ rest.map (ai_cv ad') = rest.map (ai_cv ad) := by
    intro st₀ t T' L ad' h0 e1 hL hB
    obtain ⟨⟨b1, b1'⟩, b2, b3, b4, b5⟩ := hB
    obtain ⟨-, -, k3⟩ := vx_keep (free := A) (A0 := A) (A1 := A) h0 e1 i4 (fun _ _ h => h) (fun _ h => h) hL b4
    have hsame : ∀ v, ai_lt r.2.1 v → ai_cv ad' v = ai_cv ad v := by
      intro v hv
      cases v with
      | ref i => simp only [ai_cv, b1' i (hv i rfl)]
      | _ => rfl
    refine ⟨⟨⟨Nat.le_trans i1 b1, fun i hi => (b1' i (Nat.lt_of_lt_of_le hi i1)).trans (i1' i hi)⟩, by rw [e1]; exact b2, b3, k3, ?_, ai_wS_mono i6 b1, ai_wL_mono i7 b1, b5⟩, List.map_congr_left (fun v hv => hsame v (i6 v hv))⟩
    have : ai_lv ad' lv = ai_lv ad lv := List.map_congr_left (fun q hq => by rw [hsame q.2 (i7 q hq)])
    rw [this]
    exact i5
  intro T hT X
  rcases hr T hT X with ⟨v, st₀, t, T', L, h0, X', hL, e1, e2, ⟨v', ad', hv1, hv2, hB, hw⟩, stp⟩ | ⟨q, st₀, t, T', L, E, ce, h0, X', hL, e1, e2, ⟨k, ad', hk1, hk2, hB⟩, hce, hcv, hcl, stp⟩
  · obtain ⟨hI', hrest⟩ := key st₀ t T' L ad' h0 e1 hL hB
    cases hv2
    have hI2 : ai_I D aC A ad0 n0 nL s ad' T'.heap (locs ++ L) ls lv (v'.toList ++ rest) (o.2.1, o.2.2.1, r.2.2.1 + o.2.2.2.1, r.2.2.2 + o.2.2.2.2) := by
      obtain ⟨j1, j2, j3, j4, j5, j6, j7, j8⟩ := hI'
      refine ⟨j1, j2, j3, j4, j5, ?_, j7, j8⟩
      intro w hw2
      rcases List.mem_append.mp hw2 with h | h
      · exact hw w (Option.mem_toList.mp h)
      · exact j6 w h
    obtain ⟨t2, a1, b1⟩ := kk v' hv1 ad' T'.heap (locs ++ L) ls hI2 T' rfl X'
    refine ⟨t2, stp t2 ?_, b1⟩
    have e9 : (v'.toList ++ rest).map (ai_cv ad') = (v'.map (ai_cv ad')).toList ++ rest.map (ai_cv ad) := by
      rw [List.map_append, hrest]
      cases v' <;> rfl
    rw [e9] at a1
    exact a1
  · obtain ⟨hI', hrest⟩ := key st₀ t T' L ad' h0 e1 hL hB
    subst hk2
    obtain ⟨t2, a1, b1⟩ := kx k hk1 ad' T'.heap (locs ++ L) ls q ce hI' (by rw [e1]; exact hce) hcv hcl T' rfl X'
    refine ⟨t2, stp.trans ?_, b1⟩
    rw [hrest] at a1
    exact a1
end After
