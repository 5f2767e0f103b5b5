/-! ===== a method's walk out of its run; every method by induction on the depth of calls ===== -/
theorem ai_lp_sound {Z : State → (Nat → Prop) → (Nat → Nat) → Nat → Prop} {R : Room} {p : Program} {l : Launch} {e : Env} {s : State} {m : MethodId} {args : Array Value} {below : List Frame} {meth : Method} {c : Code} {D : va_G} {aC : Nat → ClassId} {A : Nat → Prop} {ad0 : Nat → Nat} {n0 nL d : Nat} {Mt : Nat → ai_Md} {cc : ByteArray} {own : String × String} {ret : Option FieldType}
    {C : Nat → List Value → ai_H → Nat → ai_Ou → Prop} {K : Nat → Option ai_Op} {hd : Nat → Nat → Option (Option (Nat × Nat))} {o : ai_Ou}
    (hZ : Z s A ad0 n0) (hRf : d + 9 ≤ R.frames) (hRl : 64 * d + 320 ≤ R.locals) (hRc : o.2.2.2.1 ≤ R.cells) (hRs : o.2.2.2.2 ≤ R.slots)
    (X : ai_X p R s m args meth c D aC A cc own nL) (hr : meth.sig.returnType = ret) (hK : ∀ pc f, K pc = some f → ai_OkZ Z l Mt cc own nL ret pc f) (hC : ∀ y vs h n w, C y vs h n w → ai_C l D aC A Mt d y vs h n w)
    (hno : ∀ pc E, hd pc E = some none → ∀ x ∈ c.exceptionTable.toList, covers x pc = false) (hth : ∀ pc, ∀ x ∈ c.exceptionTable.toList, K pc ≠ none → covers x (pc + 9) = false ∨ ∀ lv st r E r', (K pc).bind (fun f => f pc lv st r) ≠ some (.inr (.inr (.inr (E, r')))))
    (hhd : ∀ pc E x pc', hd pc E = some (some (x, pc')) → ∀ (lv : ai_L) (rest : List Value) (r : ai_Hp), ai_G p l e R s m args below meth c D aC A ad0 n0 nL (vx_MQ below (ai_Qc D aC A ad0 n0 o) (ai_XC D aC A ad0 n0 o) args s o.2.2.2.1 o.2.2.2.2 A) pc' (lv.filter (fun q => !(q.1 == x) && !(q.1 + 1 == x && q.2.category == 2))) [] r →
      ai_GX p l e R s m args below meth c D aC A ad0 n0 nL (vx_MQ below (ai_Qc D aC A ad0 n0 o) (ai_XC D aC A ad0 n0 o) args s o.2.2.2.1 o.2.2.2.2 A) pc lv rest r E) :
    ∀ (k pc : Nat) (lv : ai_L) (st : List Value) (r : ai_Hp), ai_lp C K hd k pc lv st r o → ai_G p l e R s m args below meth c D aC A ad0 n0 nL (vx_MQ below (ai_Qc D aC A ad0 n0 o) (ai_XC D aC A ad0 n0 o) args s o.2.2.2.1 o.2.2.2.2 A) pc lv st r := by
  intro k
  induction k with
  | zero => intro pc lv st r h; exact h.elim
  | succ k ih =>
    intro pc lv st r h
    have hmono := ai_lp_mono hK (k + 1) pc lv st r h
    have hth0 := hth pc
    unfold ai_lp at h
    cases hf : K pc with
    | none => rw [hf] at h; exact h.elim
    | some f =>
      rw [hf] at h hth0
      simp only [Option.bind_some] at h hth0
      have hok := hK pc f hf
      cases hv : f pc lv st r with
      | none => rw [hv] at h; exact h.elim
      | some x =>
        rw [hv] at h
        rcases hok with ⟨g, rfl, hS, -⟩ | hR | ⟨hc, hCo⟩ | hT
        · simp only [ai_sp, Option.map_eq_some_iff] at hv
          obtain ⟨⟨pc', lv', st', r'⟩, hg, rfl⟩ := hv
          have h2 := ai_lp_mono hK k pc' lv' st' r' h
          exact hS p l e _ s m args below meth c D aC A ad0 n0 _ X hZ lv st r pc' lv' st' r' hg ⟨Nat.le_trans h2.1 hRc, Nat.le_trans h2.2 hRs⟩ (ih pc' lv' st' r' h)
        · obtain ⟨v, rfl, hw⟩ := hR.1 pc lv st r x hv
          have h : o = (.inl v, r) := h
          subst h
          intro ad H locs ls hI
          obtain ⟨i1, i2, i3, i4, i5, i6, i7, i8⟩ := hI
          refine vx_ret (hR.2 p l e _ s m args below meth c D aC A X hr lv st r r v hv ad H locs ls _ A (fun t ht hW => ⟨v, ad, rfl, rfl, ⟨i1, by rw [ht]; exact i2, i3, i4.F ht, i8⟩, fun w e1 => hw w e1 _⟩) i4.2.2)
        · obtain ⟨⟨y, vs, rest, fl⟩, rfl⟩ := hc pc lv st r x hv
          obtain ⟨w, h', n', c', s', hCw, h⟩ := h
          have hle : r.2.2.1 + c' ≤ o.2.2.2.1 ∧ r.2.2.2 + s' ≤ o.2.2.2.2 := by
            cases w with
            | inl v => exact ai_lp_mono hK _ _ _ _ _ h
            | inr E =>
              obtain ⟨-, h⟩ := h
              cases hh : hd pc E with
              | none => rw [hh] at h; exact h.elim
              | some q =>
                rw [hh] at h
                cases q with
                | none =>
                  have h : o = (.inr E, h', n', r.2.2.1 + c', r.2.2.2 + s') := h
                  rw [h]
                  exact ⟨Nat.le_refl _, Nat.le_refl _⟩
                | some q =>
                  obtain ⟨x, pc'⟩ := q
                  exact ai_lp_mono hK _ _ _ _ _ h
          refine hCo p e _ s m args below meth c D aC A ad0 n0 _ X lv st r y vs rest fl d (w, h', n', c', s') hv ?_ (hC y vs _ _ _ hCw) hRf hRl (Nat.le_trans hle.1 hRc) (Nat.le_trans hle.2 hRs) ?_ ?_
          · intro hfl
            cases w with
            | inl v => exact ⟨v, rfl⟩
            | inr E => exact absurd hfl h.1
          · intro v e1
            cases e1
            exact ih _ _ _ _ h
          · intro E e1
            cases e1
            obtain ⟨-, h⟩ := h
            cases hh : hd pc E with
            | none => rw [hh] at h; exact h.elim
            | some q =>
              rw [hh] at h
              cases q with
              | none =>
                have h : o = (.inr E, h', n', r.2.2.1 + c', r.2.2.2 + s') := h
                subst h
                intro ad H locs ls q ce hI hce hcv hcl
                obtain ⟨i1, i2, i3, i4, i5, i6, i7, i8⟩ := hI
                exact vx_out (hno pc E hh) X.2.2.2.2.2.2.1 hce hcv hcl (fun t ht _ => ⟨E, ad, rfl, rfl, ⟨i1, by rw [ht]; exact i2, i3, i4.F ht, i8⟩⟩) i4.2.2 (Nat.le_refl _) (Nat.le_refl _)
              | some q =>
                obtain ⟨x, pc'⟩ := q
                exact hhd pc E x pc' hh lv rest _ (ih _ _ _ _ h)
        · obtain ⟨E, rfl⟩ := hT.1 pc lv st r x hv
          have h : o = (.inr E, r.1, r.2.1, r.2.2.1 + 1, r.2.2.2 + 6) := h
          subst h
          intro ad H locs ls hI
          obtain ⟨i1, i2, i3, i4, i5, i6, i7, i8⟩ := hI
          refine hT.2 p e _ s m args below meth c D aC A X (fun x hx => ?_) lv st r _ E hv ad H locs ls _ _ A _ _ i4 i5.1 hRc hRs (fun t hal hz hq => ⟨E, ad, rfl, rfl, ⟨i1, i2.kept (fun k q hk => hq q.1 ((i2 k q hk).lt)), i3, ⟨Nat.le_trans i4.1 hz, fun q h1 h2 => (hq q (Nat.lt_of_lt_of_le h1 i4.1)).trans (i4.2.1 q h1 h2)⟩, i8⟩⟩) i4.2.2 (Nat.le_refl _) (Nat.le_refl _)
          rcases hth0 x hx (fun h => by cases h) with h9 | h9
          · exact h9
          · exact absurd hv (h9 lv st r _ _)
theorem ai_args_lv (ad : Nat → Nat) : ∀ (vs : List Value) (i : Nat), lv_args i (vs.map (ai_cv ad)) = ai_lv ad (lv_args i vs)
  | [], _ => rfl
  | v :: vs, i => by
    simp only [List.map_cons, lv_args, ai_lv, ai_cat]
    rw [ai_args_lv ad vs]
    rfl
theorem ai_args_w {n : Nat} : ∀ (vs : List Value) (i : Nat), ai_wS n vs → ai_wL n (lv_args i vs)
  | [], _, _ => fun q hq => by cases hq
  | v :: vs, i, h => by
    intro q hq
    simp only [lv_args] at hq
    rcases List.mem_cons.mp hq with rfl | hq
    · exact ai_wS_h h
    · exact ai_args_w vs _ (ai_wS_t h) q hq
theorem ai_sl_len (ad : Nat → Nat) (vs : List Value) : (lg_sl (vs.map (ai_cv ad))).length = (lg_sl vs).length := by
  induction vs with
  | nil => rfl
  | cons v vs ih =>
    simp only [lg_sl, List.map_cons, List.flatMap_cons, List.length_append, ai_cat] at ih ⊢
    rw [ih]
    congr 1
    split <;> rfl
/-- a method whose contract follows from those of its callees -/
def ai_My (l : Launch) (Mt : Nat → ai_Md) (P : Nat → Nat → Option ai_Op) (Hd : Nat → Nat → Nat → Option (Option (Nat × Nat))) (ML : Nat → Nat) (y : Nat) : Prop :=
  ∀ (D : va_G) (aC : Nat → ClassId) (A : Nat → Prop) (d : Nat), (∀ y vs h n o, ai_Ev P Hd ML d y vs h n o → ai_C l D aC A Mt d y vs h n o) → ∀ vs h n o, ai_Ev P Hd ML (d + 1) y vs h n o → ai_C l D aC A Mt (d + 1) y vs h n o
theorem ai_sound {l : Launch} {Mt : Nat → ai_Md} {P : Nat → Nat → Option ai_Op} {Hd : Nat → Nat → Nat → Option (Option (Nat × Nat))} {ML : Nat → Nat} (hM : ∀ y, ai_My l Mt P Hd ML y) (D : va_G) (aC : Nat → ClassId) (A : Nat → Prop) : ∀ d y vs h n o, ai_Ev P Hd ML d y vs h n o → ai_C l D aC A Mt d y vs h n o := by
  intro d
  induction d with
  | zero => intro y vs h n o he; exact he.elim
  | succ d ih => intro y vs h n o he; exact hM y D aC A d ih vs h n o he
/-- a method without handlers -/
theorem ai_my {l : Launch} {Mt : Nat → ai_Md} {P : Nat → Nat → Option ai_Op} {Hd : Nat → Nat → Nat → Option (Option (Nat × Nat))} {ML : Nat → Nat} {y mL : Nat} {nm : MethodName} {bs : ByteArray} {ret : Option FieldType} (hm : Mt y = (nm, bs, mL, ret, [])) (hp : plainName nm.cls = true) (hL : ML y = mL) (hH : Hd y = fun _ _ => some none) (hK : ∀ pc f, P y pc = some f → ai_Ok l Mt bs (nm.cls, nm.name) mL ret pc f) : ai_My l Mt P Hd ML y := by
  intro D aC A d ih vs h n o he ad
  obtain ⟨hlen, k, hk⟩ := he
  rw [hm]
  refine vx_ofW (cc := bs) (maxL := mL) (ret := ret) hp rfl ?_
  intro p e s m args below meth c s₁ B hml htab hv
  obtain ⟨rfl, q1, q2, q3, q4, q5, q6, q7, q8⟩ := hv
  have X : ai_X p (ai_rm (d + 1) o.2.2.2.1 o.2.2.2.2) s m (vs.map (ai_cv ad)).toArray meth c D aC A bs (nm.cls, nm.name) mL :=
    ⟨B.exec, B.bytes, findClass_of_methodNamed B.named, ai_wd_at (State.WarmedH.refl s) q4, q3, hml, B.notSynchronized, (name_of_methodNamed B.named B.method).1, q6, Nat.le_add_left _ _, Nat.le_add_left _ _, q5⟩
  rw [lg_entry_eq]
  have hl := lv_entry (vs.map (ai_cv ad)) (n := mL) (by rw [ai_sl_len, ← hL]; exact hlen)
  rw [ai_args_lv] at hl
  rw [hH] at hk
  exact ai_lp_sound (Z := fun _ _ _ _ => True) trivial (Nat.le_refl _) (by show 64 * d + 320 ≤ 64 * (d + 1) + 256; exact Nat.le_of_eq (by rw [Nat.mul_add])) (Nat.le_refl _) (Nat.le_refl _) X B.returns (fun pc f h => (hK pc f h).z) ih (fun _ _ _ x hx => (htab x hx).elim) (fun _ x hx _ => (htab x hx).elim) (fun _ _ _ _ h => by cases h) k 0 (lv_args 0 vs) [] (h, n, 0, 0) hk ad s.heap [] _ ⟨⟨Nat.le_refl _, fun _ _ => rfl⟩, q1, q2, va_S.rf, hl, ai_wS_n, ai_args_w vs 0 q7, q8⟩
