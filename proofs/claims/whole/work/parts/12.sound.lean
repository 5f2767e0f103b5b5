/-! ===== returns, throws, and the whole of a method ===== -/
def ai_Ro (cc : ByteArray) (own : String × String) (nL : Nat) (ret : Option FieldType) (pc : Nat) (f : ai_Op) : Prop :=
  (∀ (pc : Nat) (lv : ai_L) (st : List Value) (r : ai_Hp) (x : ai_Rs), f pc lv st r = some x → ∃ v, x = .inr (.inl (v, r)) ∧ ∀ w, v = some w → ∀ n, ai_lt n w) ∧
  ∀ (p : Program) (l : Launch) (e : Env) (R : Room) (s : State) (m : MethodId) (args : Array Value) (below : List Frame) (meth : Method) (c : Code) (D : va_G) (aC : Nat → ClassId) (A : Nat → Prop), ai_X p R s m args meth c D aC A cc own nL → meth.sig.returnType = ret →
    ∀ (lv : ai_L) (st : List Value) (r r' : ai_Hp) (v : Option Value), f pc lv st r = some (.inr (.inl (v, r'))) →
      ∀ (ad : Nat → Nat) (H : Heap) (locs : List Loc) (ls : Array Slot) (Qc : Array Value → State → Outcome → State → Prop) (free : Addr → Prop), (∀ t : State, t.heap = H → s.WarmedH t.vm → Qc args s (.returned (v.map (ai_cv ad))) t) → (∀ q ∈ locs, free q.base) →
        W p l e R s m args below meth c H locs r.2.2.1 r.2.2.2 (MQ below Qc args s r.2.2.1 r.2.2.2 free) (F0 m pc ls (st.map (ai_cv ad)))
section Returns
variable {cc : ByteArray} {own : String × String} {nL pc : Nat}
def ai_ri : ai_Op := fun _ _ st r => match st with
  | [.int x] => some (.inr (.inl (some (.int x), r)))
  | _ => none
theorem ai_ri_ok (hd : decode cc pc = .ok (.ireturn, 1)) : ai_Ro cc own nL (some .int) pc ai_ri := by
  refine ⟨fun pc lv st r x h => ?_, ?_⟩
  · simp only [ai_ri] at h
    split at h
    · cases h
      exact ⟨_, rfl, fun w hw n => by cases hw; exact ai_lt_i⟩
    · cases h
  · intro p l e R s m args below meth c D aC A X hr lv st r r' v hf ad H locs ls Qc free hq hfr
    simp only [ai_ri] at hf
    split at hf
    · cases hf
      exact W.iret X.1 X.2.1 hr hq hfr hd X.2.2.2.2.2.2.1
    · cases hf
def ai_rz : ai_Op := fun _ _ st r => match st with
  | [.int x] => if x = 0 ∨ x = 1 then some (.inr (.inl (some (.int x), r))) else none
  | _ => none
theorem ai_rz_ok (hd : decode cc pc = .ok (.ireturn, 1)) : ai_Ro cc own nL (some .boolean) pc ai_rz := by
  refine ⟨fun pc lv st r x h => ?_, ?_⟩
  · simp only [ai_rz] at h
    split at h
    · split at h
      · cases h
        exact ⟨_, rfl, fun w hw n => by cases hw; exact ai_lt_i⟩
      · cases h
    · cases h
  · intro p l e R s m args below meth c D aC A X hr lv st r r' v hf ad H locs ls Qc free hq hfr
    simp only [ai_rz] at hf
    split at hf
    · split at hf
      · rename_i hx
        cases hf
        exact W.zret X.1 X.2.1 hr (by rcases hx with rfl | rfl <;> rfl) hq hfr hd X.2.2.2.2.2.2.1
      · cases hf
    · cases hf
def ai_rl2 : ai_Op := fun _ _ st r => match st with
  | [.long x] => some (.inr (.inl (some (.long x), r)))
  | _ => none
theorem ai_rl2_ok (hd : decode cc pc = .ok (.lreturn, 1)) : ai_Ro cc own nL (some .long) pc ai_rl2 := by
  refine ⟨fun pc lv st r x h => ?_, ?_⟩
  · simp only [ai_rl2] at h
    split at h
    · cases h
      exact ⟨_, rfl, fun w hw n => by cases hw; exact ai_lt_l⟩
    · cases h
  · intro p l e R s m args below meth c D aC A X hr lv st r r' v hf ad H locs ls Qc free hq hfr
    simp only [ai_rl2] at hf
    split at hf
    · cases hf
      exact W.lret X.1 X.2.1 hr hq hfr hd X.2.2.2.2.2.2.1
    · cases hf
def ai_rv : ai_Op := fun _ _ st r => match st with
  | [] => some (.inr (.inl (none, r)))
  | _ => none
theorem ai_rv_ok (hd : decode cc pc = .ok (.return_, 1)) : ai_Ro cc own nL none pc ai_rv := by
  refine ⟨fun pc lv st r x h => ?_, ?_⟩
  · simp only [ai_rv] at h
    split at h
    · cases h
      exact ⟨_, rfl, fun w hw n => by cases hw⟩
    · cases h
  · intro p l e R s m args below meth c D aC A X hr lv st r r' v hf ad H locs ls Qc free hq hfr
    simp only [ai_rv] at hf
    split at hf
    · cases hf
      exact W.vret X.1 X.2.1 hr hq hfr hd X.2.2.2.2.2.2.1
    · cases hf
end Returns
/-! throws -/
def ai_th (E : Nat) : ai_Op := fun _ _ st r => if (st.map fun v => v.category).sum ≤ 8 then some (.inr (.inr (.inr (E, r.1, r.2.1, r.2.2.1 + 1, r.2.2.2 + 6)))) else none
def ai_To (l : Launch) (cc : ByteArray) (own : String × String) (nL pc : Nat) (f : ai_Op) : Prop :=
  (∀ (pc : Nat) (lv : ai_L) (st : List Value) (r : ai_Hp) (x : ai_Rs), f pc lv st r = some x → ∃ E, x = .inr (.inr (.inr (E, r.1, r.2.1, r.2.2.1 + 1, r.2.2.2 + 6)))) ∧
  ∀ (p : Program) (e : Env) (R : Room) (s : State) (m : MethodId) (args : Array Value) (below : List Frame) (meth : Method) (c : Code) (D : va_G) (aC : Nat → ClassId) (A : Nat → Prop), ai_X p R s m args meth c D aC A cc own nL → (∀ x ∈ c.exceptionTable.toList, covers x (pc + 9) = false) →
    ∀ (lv : ai_L) (st : List Value) (r r' : ai_Hp) (E : Nat), f pc lv st r = some (.inr (.inr (.inr (E, r')))) →
      ∀ (ad : Nat → Nat) (H : Heap) (locs : List Loc) (ls : Array Slot) (Qc : Array Value → State → Outcome → State → Prop) (XC : String → State → State → Prop) (free : Addr → Prop) (mc ms : Nat), va_S A s.heap H locs → ls.size = nL → r.2.2.1 + 1 ≤ R.cells → r.2.2.2 + 6 ≤ R.slots → (∀ t : State, s.vm.Alike t.vm → H.size ≤ t.heap.size → (∀ q : Nat, q < H.size → t.heap[q]? = H[q]?) → XC (ai_xn E) s t) → (∀ q ∈ locs, free q.base) → r.2.2.1 + 1 ≤ mc → r.2.2.2 + 6 ≤ ms →
        W p l e R s m args below meth c H locs r.2.2.1 r.2.2.2 (vx_MQ below Qc XC args s mc ms free) (F0 m pc ls (st.map (ai_cv ad)))
/-! an operation of a method; with Z of the method's start, where the operation needs it (the law's own) -/
def ai_SoZ (Z : State → (Nat → Prop) → (Nat → Nat) → Nat → Prop) (cc : ByteArray) (own : String × String) (nL pc : Nat) (f : ai_Sp) : Prop :=
  ∀ (p : Program) (l : Launch) (e : Env) (R : Room) (s : State) (m : MethodId) (args : Array Value) (below : List Frame) (meth : Method) (c : Code) (D : va_G) (aC : Nat → ClassId) (A : Nat → Prop) (ad0 : Nat → Nat) (n0 : Nat) (Q : State → Prop), ai_X p R s m args meth c D aC A cc own nL → Z s A ad0 n0 →
    ∀ (lv : ai_L) (st : List Value) (r : ai_Hp) (pc' : Nat) (lv' : ai_L) (st' : List Value) (r' : ai_Hp), f pc lv st r = some (pc', lv', st', r') → r'.2.2.1 ≤ R.cells ∧ r'.2.2.2 ≤ R.slots →
      ai_G p l e R s m args below meth c D aC A ad0 n0 nL Q pc' lv' st' r' → ai_G p l e R s m args below meth c D aC A ad0 n0 nL Q pc lv st r
theorem ai_So.z {Z : State → (Nat → Prop) → (Nat → Nat) → Nat → Prop} {cc : ByteArray} {own : String × String} {nL pc : Nat} {f : ai_Sp} (h : ai_So cc own nL pc f) : ai_SoZ Z cc own nL pc f :=
  fun p l e R s m args below meth c D aC A ad0 n0 Q X _ => h p l e R s m args below meth c D aC A ad0 n0 Q X
def ai_OkZ (Z : State → (Nat → Prop) → (Nat → Nat) → Nat → Prop) (l : Launch) (Mt : Nat → ai_Md) (cc : ByteArray) (own : String × String) (nL : Nat) (ret : Option FieldType) (pc : Nat) (f : ai_Op) : Prop :=
  (∃ g, f = ai_sp g ∧ ai_SoZ Z cc own nL pc g ∧ ai_mo g) ∨ ai_Ro cc own nL ret pc f ∨ ((∀ (pc : Nat) (lv : ai_L) (st : List Value) (r : ai_Hp) (x : ai_Rs), f pc lv st r = some x → ∃ q, x = .inr (.inr (.inl q))) ∧ ai_Co l Mt cc own nL pc f) ∨ ai_To l cc own nL pc f
def ai_Ok (l : Launch) (Mt : Nat → ai_Md) (cc : ByteArray) (own : String × String) (nL : Nat) (ret : Option FieldType) (pc : Nat) (f : ai_Op) : Prop :=
  (∃ g, f = ai_sp g ∧ ai_So cc own nL pc g ∧ ai_mo g) ∨ ai_Ro cc own nL ret pc f ∨ ((∀ (pc : Nat) (lv : ai_L) (st : List Value) (r : ai_Hp) (x : ai_Rs), f pc lv st r = some x → ∃ q, x = .inr (.inr (.inl q))) ∧ ai_Co l Mt cc own nL pc f) ∨ ai_To l cc own nL pc f
theorem ai_Ok.z {Z : State → (Nat → Prop) → (Nat → Nat) → Nat → Prop} {l : Launch} {Mt : Nat → ai_Md} {cc : ByteArray} {own : String × String} {nL : Nat} {ret : Option FieldType} {pc : Nat} {f : ai_Op} (h : ai_Ok l Mt cc own nL ret pc f) : ai_OkZ Z l Mt cc own nL ret pc f := by
  rcases h with ⟨g, h1, h2, h3⟩ | h | h | h
  · exact Or.inl ⟨g, h1, h2.z, h3⟩
  · exact Or.inr (Or.inl h)
  · exact Or.inr (Or.inr (Or.inl h))
  · exact Or.inr (Or.inr (Or.inr h))
theorem ai_iv_only (y na ci : Nat) : ∀ (pc : Nat) (lv : ai_L) (st : List Value) (r : ai_Hp) (x : ai_Rs), ai_iv y na ci pc lv st r = some x → ∃ q, x = .inr (.inr (.inl q)) := by
  intro pc lv st r x h
  simp only [ai_iv] at h
  split at h
  · split at h
    · cases h; exact ⟨_, rfl⟩
    · cases h
  · cases h
theorem ai_ii_only (y na : Nat) : ∀ (pc : Nat) (lv : ai_L) (st : List Value) (r : ai_Hp) (x : ai_Rs), ai_ii y na pc lv st r = some x → ∃ q, x = .inr (.inr (.inl q)) := by
  intro pc lv st r x h
  simp only [ai_ii] at h
  split at h
  · split at h
    · cases h; exact ⟨_, rfl⟩
    · cases h
  · cases h
theorem ai_iS_only (y na : Nat) : ∀ (pc : Nat) (lv : ai_L) (st : List Value) (r : ai_Hp) (x : ai_Rs), ai_iS y na pc lv st r = some x → ∃ q, x = .inr (.inr (.inl q)) := by
  intro pc lv st r x h
  simp only [ai_iS] at h
  split at h
  · cases h; exact ⟨_, rfl⟩
  · cases h
/-- what is made only grows -/
theorem ai_lp_mono {Z : State → (Nat → Prop) → (Nat → Nat) → Nat → Prop} {l : Launch} {Mt : Nat → ai_Md} {cc : ByteArray} {own : String × String} {nL : Nat} {ret : Option FieldType} {C : Nat → List Value → ai_H → Nat → ai_Ou → Prop} {K : Nat → Option ai_Op} {hd : Nat → Nat → Option (Option (Nat × Nat))} {o : ai_Ou} (hK : ∀ pc f, K pc = some f → ai_OkZ Z l Mt cc own nL ret pc f) :
    ∀ (k pc : Nat) (lv : ai_L) (st : List Value) (r : ai_Hp), ai_lp C K hd k pc lv st r o → r.2.2.1 ≤ o.2.2.2.1 ∧ r.2.2.2 ≤ o.2.2.2.2 := by
  intro k
  induction k with
  | zero => intro pc lv st r h; exact h.elim
  | succ k ih =>
    intro pc lv st r h
    unfold ai_lp at h
    cases hf : K pc with
    | none => rw [hf] at h; exact h.elim
    | some f =>
      rw [hf] at h
      simp only [Option.bind_some] at h
      have hok := hK pc f hf
      cases hv : f pc lv st r with
      | none => rw [hv] at h; exact h.elim
      | some x =>
        rw [hv] at h
        rcases hok with ⟨g, rfl, -, hm⟩ | hR | ⟨hc, -⟩ | hT
        · simp only [ai_sp, Option.map_eq_some_iff] at hv
          obtain ⟨⟨pc', lv', st', r'⟩, hg, rfl⟩ := hv
          have h1 := hm pc lv st r pc' lv' st' r' hg
          have h2 := ih pc' lv' st' r' h
          exact ⟨Nat.le_trans h1.1 h2.1, Nat.le_trans h1.2 h2.2⟩
        · obtain ⟨v, rfl, -⟩ := hR.1 pc lv st r x hv
          have h : o = (.inl v, r) := h
          rw [h]
          exact ⟨Nat.le_refl _, Nat.le_refl _⟩
        · obtain ⟨⟨y, vs, rest, fl⟩, rfl⟩ := hc pc lv st r x hv
          obtain ⟨w, h', n', c', s', -, h⟩ := h
          cases w with
          | inl v =>
            have h2 := ih _ _ _ _ h
            exact ⟨Nat.le_trans (Nat.le_add_right _ _) h2.1, Nat.le_trans (Nat.le_add_right _ _) h2.2⟩
          | inr E =>
            obtain ⟨-, h⟩ := h
            cases hh : hd pc E with
            | none => rw [hh] at h; exact h.elim
            | some q =>
              rw [hh] at h
              cases q with
              | none =>
                have h : o = (.inr E, h', n', r.2.2.1 + c', r.2.2.2 + s') := h
                rw [h]
                exact ⟨Nat.le_add_right _ _, Nat.le_add_right _ _⟩
              | some q =>
                obtain ⟨x, pc'⟩ := q
                have h2 := ih _ _ _ _ h
                exact ⟨Nat.le_trans (Nat.le_add_right _ _) h2.1, Nat.le_trans (Nat.le_add_right _ _) h2.2⟩
        · obtain ⟨E, rfl⟩ := hT.1 pc lv st r x hv
          have h : o = (.inr E, r.1, r.2.1, r.2.2.1 + 1, r.2.2.2 + 6) := h
          rw [h]
          exact ⟨Nat.le_add_right _ _, Nat.le_add_right _ _⟩
