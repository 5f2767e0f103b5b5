/-! ===== all that the object has, and where class and reference keep it ===== -/
/-- told; now; image; what can be undone; tape; fault; seen -/
abbrev zA : Type := zT × zD × (Bool × zD) × (Nat × (Nat → zD)) × (Nat × (Nat → Nat)) × (Nat × Int32) × (Nat × Int32 × (Nat → Nat → Nat))
abbrev aT (A : zA) : zT := A.1
abbrev aS (A : zA) : zD := A.2.1
abbrev aI (A : zA) : Bool × zD := A.2.2.1
abbrev aP (A : zA) : Nat × (Nat → zD) := A.2.2.2.1
abbrev aB (A : zA) : Nat × (Nat → Nat) := A.2.2.2.2.1
abbrev aF (A : zA) : Nat × Int32 := A.2.2.2.2.2.1
abbrev aE (A : zA) : Nat × Int32 × (Nat → Nat → Nat) := A.2.2.2.2.2.2
def wE (T : zT) (E : Nat × Int32 × (Nat → Nat → Nat)) : Prop := E.1 ≤ 24 ∧ (E.2.1 = m1 ∨ ∃ k, k ≤ E.1 ∧ E.2.1 = nI k) ∧ ∀ i, i < E.1 → (E.2.2 0 i ≤ 1 ∧ 1 ≤ E.2.2 1 i ∧ E.2.2 1 i ≤ 60 ∧ E.2.2 2 i < T 0 2 ∧ E.2.2 3 i < T 0 0) ∨ (E.2.2 0 i = 2 ∧ E.2.2 1 i = 0 ∧ E.2.2 2 i < i ∧ E.2.2 3 i = 0)
def wP (T : zT) (S : zD) (P : Nat × (Nat → zD)) : Prop := P.1 ≤ 20 ∧ ∀ i, i < P.1 → wD T (P.2 i) ∧ (P.2 i).1 0 = S.1 0 ∧ (P.2 i).1 2 = S.1 2 ∧ (P.2 i).2.2.2.2 = S.2.2.2.2
def wfA (A : zA) : Prop := WT (aT A) ∧ wD (aT A) (aS A) ∧ ((aI A).1 = true → wD (aT A) (aI A).2) ∧ wP (aT A) (aS A) (aP A) ∧ ((aB A).1 ≤ 700 ∧ ∀ i, (aB A).2 i < 256) ∧ wE (aT A) (aE A)
def cIm (s : zS) (T : zT) (I : Bool × zD) : Prop := s.1 1 8 = nI I.1.toNat ∧ (I.1 = true → cSd s.1 62 T I.2)
def cPs (s : zS) (T : zT) (P : Nat × (Nat → zD)) : Prop := s.1 1 10 = nI P.1 ∧ P.1 ≤ 20 ∧ (∀ i, i < 20 → ∃ k, k < 20 ∧ s.2.2 67 i = 87 + 5 * k) ∧ (∀ i j, i < j → j < 20 → s.2.2 67 i ≠ s.2.2 67 j) ∧ ∀ i, i < P.1 → cSd s.1 (s.2.2 67 i) T (P.2 i)
def cBt (s : zS) (B : Nat × (Nat → Nat)) : Prop := s.1 1 1 = nI B.1 ∧ ∀ i, i < B.1 → s.1 2 i = (nI (B.2 i)).toInt8.toInt32
def cFt (s : zS) (F : Nat × Int32) : Prop := s.1 3 3 = nI F.1 ∧ s.1 3 4 = F.2
def cSn (s : zS) (E : Nat × Int32 × (Nat → Nat → Nat)) : Prop := s.1 70 5 = nI E.1 ∧ s.1 70 6 = E.2.1 ∧ ∀ i, i < E.1 → s.1 71 i = nI (E.2.2 0 i) ∧ s.1 72 i = nI (E.2.2 1 i) ∧ s.1 73 i = nI (E.2.2 2 i) ∧ s.1 74 i = nI (E.2.2 3 i)
def cK (s : zS) (t : Nat) (A : zA) : Prop := ((t = 6 ∧ s.2.2 1 4 = 29) ∨ (t = 29 ∧ s.2.2 1 4 = 6)) ∧ s.2.2 1 3 = t ∧ cTd s.1 t (aT A) ∧ cSd s.1 52 (aT A) (aS A) ∧ cIm s (aT A) (aI A) ∧ cPs s (aT A) (aP A) ∧ cBt s (aB A) ∧ cFt s (aF A) ∧ cSn s (aE A)
/-- the class's cells that hold nothing from call to call -/
def scr (a j : Nat) : Prop := (57 ≤ a ∧ a ≤ 61) ∨ a = 68 ∨ a = 69 ∨ (75 ≤ a ∧ a ≤ 83) ∨ (a = 70 ∧ j = 7)
def frS (s s' : zS) : Prop := (∀ a j, ¬ scr a j → s'.1 a j = s.1 a j) ∧ (∀ a, a ≠ 68 → s'.2.2 a = s.2.2 a) ∧ ∀ a, 187 ≤ a ∨ a = 5 ∨ a = 85 → s'.2.1 a = s.2.1 a
/-- the class leaves the reference alone, and the other way round -/
def frC (s s' : zS) : Prop := (∀ a, 187 ≤ a ∨ a = 5 ∨ a = 85 → s'.1 a = s.1 a ∧ s'.2.1 a = s.2.1 a ∧ s'.2.2 a = s.2.2 a) ∧ s'.2.2 1 14 = s.2.2 1 14
def frM (s s' : zS) : Prop := s'.2.2 = s.2.2 ∧ ∀ a, a < 187 ∨ 238 ≤ a ∨ a = 189 → s'.1 a = s.1 a ∧ s'.2.1 a = s.2.1 a
theorem frS_r {s : zS} : frS s s := ⟨fun _ _ _ => rfl, fun _ _ => rfl, fun _ _ => rfl⟩
theorem frS_t {s s1 s2 : zS} (h : frS s s1) (g : frS s1 s2) : frS s s2 := ⟨fun a j ha => (g.1 a j ha).trans (h.1 a j ha), fun a ha => (g.2.1 a ha).trans (h.2.1 a ha), fun a ha => (g.2.2 a ha).trans (h.2.2 a ha)⟩
theorem frC_r {s : zS} : frC s s := ⟨fun _ _ => ⟨rfl, rfl, rfl⟩, rfl⟩
theorem frC_t {s s1 s2 : zS} (h : frC s s1) (g : frC s1 s2) : frC s s2 := ⟨fun a h1 => ⟨(g.1 a h1).1.trans (h.1 a h1).1, (g.1 a h1).2.1.trans (h.1 a h1).2.1, (g.1 a h1).2.2.trans (h.1 a h1).2.2⟩, g.2.trans h.2⟩
theorem frM_r {s : zS} : frM s s := ⟨rfl, fun _ _ => ⟨rfl, rfl⟩⟩
theorem frM_t {s s1 s2 : zS} (h : frM s s1) (g : frM s1 s2) : frM s s2 := ⟨g.1.trans h.1, fun a ha => ⟨(g.2 a ha).1.trans (h.2 a ha).1, (g.2 a ha).2.trans (h.2 a ha).2⟩⟩
theorem frS_C {s s' : zS} (h : frS s s') : frC s s' := ⟨fun a h1 => ⟨funext fun j => h.1 a j (by unfold scr; omega), h.2.2 a h1, h.2.1 a (by omega)⟩, by rw [h.2.1 1 (by omega)]⟩
theorem frL_S {t : Nat} {s s' : zS} (ht : t = 6 ∨ t = 29) (h : frL t s s') : frS s s' := ⟨fun a j _ => by rw [h.1], fun a _ => by rw [h.2.1], fun a ha => h.2.2 a (by omega)⟩
/-- days on the scratch change only what holds nothing -/
theorem frD_S {t : Nat} {s s' : zS} (ht : t = 6 ∨ t = 29) (h : frD t 57 s s') : frS s s' := ⟨fun a j ha => by rw [h.1 a (by unfold scr at ha; omega)], fun a _ => by rw [h.2.1], fun a ha => h.2.2 a (by omega)⟩
theorem frY_M {b : Nat} {O : zO} {s s' : zS} (h : frY b O s s') : frM s s' := ⟨h.1, fun a ha => ⟨funext fun j => h.2.1 a j (by unfold hfM; omega) (by omega), funext fun j => h.2.2.1 a j (by omega) (by omega) (by omega)⟩⟩
theorem frQ_M {s s' : zS} (h : frQ s s') : frM s s' := ⟨h.1, fun a ha => ⟨funext fun j => h.2.1 a j (by omega), h.2.2 a (by omega) (by omega)⟩⟩
/-- a class's state over a change of cells that it doesn't hold -/
theorem cK_fr {s s' : zS} {t : Nat} {A : zA} (h : cK s t A) (e1 : ∀ a j, a < 187 → ¬ scr a j → a < 84 ∨ 86 < a → s'.1 a j = s.1 a j) (e2 : ∀ a, a = 1 ∨ a = 67 → s'.2.2 a = s.2.2 a) : cK s' t A := by
  obtain ⟨h1, h2, h3, h4, h5, h6, h7, h8, h9⟩ := h
  have ec : ∀ a, a < 187 → (a < 57 ∨ (62 ≤ a ∧ a < 68) ∨ (71 ≤ a ∧ a < 75) ∨ 87 ≤ a) → s'.1 a = s.1 a := fun a h1 h2 => funext fun j => e1 a j h1 (by unfold scr; omega) (by omega)
  refine ⟨by rw [e2 1 (by omega)]; exact h1, by rw [e2 1 (by omega)]; exact h2, cTd_fr h3 (fun a g1 g2 => ec a (by omega) (by omega)), cSd_fr h4 (fun a g1 g2 => ec a (by omega) (by omega)), ⟨?_, fun g => ?_⟩, ⟨?_, ?_, ?_, ?_, fun i hi => ?_⟩, ⟨?_, fun i hi => ?_⟩, ⟨?_, ?_⟩, ⟨?_, ?_, fun i hi => ?_⟩⟩
  · rw [ec 1 (by omega) (by omega)]; exact h5.1
  · exact cSd_fr (h5.2 g) (fun a g1 g2 => ec a (by omega) (by omega))
  · rw [ec 1 (by omega) (by omega)]; exact h6.1
  · exact h6.2.1
  · rw [e2 67 (by omega)]; exact h6.2.2.1
  · rw [e2 67 (by omega)]; exact h6.2.2.2.1
  · rw [e2 67 (by omega)]
    obtain ⟨k, hk, e⟩ := h6.2.2.1 i (by have := h6.2.1; omega)
    refine cSd_fr (h6.2.2.2.2 i hi) (fun a g1 g2 => ec a ?_ ?_) <;> omega
  · rw [ec 1 (by omega) (by omega)]; exact h7.1
  · rw [ec 2 (by omega) (by omega)]; exact h7.2 i hi
  · rw [ec 3 (by omega) (by omega)]; exact h8.1
  · rw [ec 3 (by omega) (by omega)]; exact h8.2
  · rw [e1 70 5 (by omega) (by unfold scr; omega) (by omega)]; exact h9.1
  · rw [e1 70 6 (by omega) (by unfold scr; omega) (by omega)]; exact h9.2.1
  · rw [ec 71 (by omega) (by omega), ec 72 (by omega) (by omega), ec 73 (by omega) (by omega), ec 74 (by omega) (by omega)]; exact h9.2.2 i hi
theorem cK_S {s s' : zS} {t : Nat} {A : zA} (h : cK s t A) (f : frS s s') : cK s' t A := cK_fr h (fun a j _ ha _ => f.1 a j ha) (fun a ha => f.2.1 a (by omega))
theorem cK_M {s s' : zS} {t : Nat} {A : zA} (h : cK s t A) (f : frM s s') : cK s' t A := cK_fr h (fun a j ha _ _ => by rw [(f.2 a (by omega)).1]) (fun a _ => by rw [f.1])
theorem cK_t {s : zS} {t : Nat} {A : zA} (h : cK s t A) : t = 6 ∨ t = 29 := by rcases h.1 with h | h <;> omega
/-! the reference's state -/
/-- a row of 36 numbers that keeps a standing -/
def mRw (f : Nat → Int32) (T : zT) (S : zD) : Prop := (∀ w, w < T 0 2 → f w = nI (S.2.2.1 0 w) ∧ f (4 + w) = nI (S.2.2.1 1 w)) ∧ (∀ p, p < T 0 1 → f (8 + p) = S.2.1 p ∧ f (17 + p) = nI (S.2.2.2.1.testBit p).toNat ∧ f (26 + p) = nI (S.2.2.1 2 p)) ∧ f 35 = S.1 1
def mIm (s : zS) (T : zT) (I : Bool × zD) : Prop := s.1 187 91 = nI I.1.toNat ∧ (I.1 = true → mRw (s.1 237) T I.2 ∧ s.1 187 93 = I.2.1 2 ∧ s.1 187 94 = I.2.1 0 ∧ s.2.1 187 95 = lN I.2.2.2.2.2)
def mPs (s : zS) (T : zT) (P : Nat × (Nat → zD)) : Prop := s.1 187 89 = nI P.1 ∧ ∀ i, i < P.1 → mRw (fun j => s.1 236 (36 * i + j)) T (P.2 i)
def mBt (s : zS) (B : Nat × (Nat → Nat)) : Prop := s.1 187 1 = nI B.1 ∧ ∀ i, i < B.1 → s.1 188 i = nI (B.2 i)
def mFt (s : zS) (F : Nat × Int32) : Prop := s.1 187 4 = nI F.1 ∧ s.1 187 5 = F.2
def mSn (s : zS) (E : Nat × Int32 × (Nat → Nat → Nat)) : Prop := s.1 187 84 = nI E.1 ∧ s.1 187 85 = E.2.1 ∧ ∀ i, i < E.1 → s.1 233 (4 * i) = (if E.2.2 0 i = 2 then m1 else nI (E.2.2 1 i)) ∧ s.1 233 (4 * i + 1) = nI (E.2.2 2 i) ∧ s.1 233 (4 * i + 2) = nI (E.2.2 3 i) ∧ s.1 233 (4 * i + 3) = nI (if E.2.2 0 i = 0 then 1 else 0)
/-- nothing otherwise, by numbers -/
def O00 : zO := (0, true, false, 1, m1, fun _ => 0)
/-- the words of the language, as the reference has them -/
def mWd (s : zS) (s0 : Nat → Int32) : Prop := s.1 189 = s0
def mK (s : zS) (A : zA) : Prop := mTd s.1 (aT A) ∧ mSd s 0 (aT A) O00 (aS A) ∧ mIm s (aT A) (aI A) ∧ mPs s (aT A) (aP A) ∧ mBt s (aB A) ∧ mFt s (aF A) ∧ mSn s (aE A)
theorem mK_C {s s' : zS} {A : zA} (h : mK s A) (f : frC s s') : mK s' A := by
  have e1 : ∀ a, 187 ≤ a → s'.1 a = s.1 a := fun a ha => (f.1 a (Or.inl ha)).1
  have e2 : ∀ a, 187 ≤ a → s'.2.1 a = s.2.1 a := fun a ha => (f.1 a (Or.inl ha)).2.1
  obtain ⟨h1, h2, h3, h4, h5, h6, h7⟩ := h
  refine ⟨mTd_fr h1 (fun a j ha => by rw [e1 a (by omega)]), ?_, ?_, ?_, ?_, ?_, ?_⟩
  · unfold mSd
    rw [e1 219 (by omega), e1 220 (by omega), e1 221 (by omega), e1 222 (by omega), e1 223 (by omega), e1 224 (by omega), e1 225 (by omega), e1 226 (by omega), e2 187 (by omega)]
    exact h2
  · unfold mIm
    rw [e1 187 (by omega), e1 237 (by omega), e2 187 (by omega)]
    exact h3
  · unfold mPs
    rw [e1 187 (by omega), e1 236 (by omega)]
    exact h4
  · unfold mBt
    rw [e1 187 (by omega), e1 188 (by omega)]
    exact h5
  · unfold mFt
    rw [e1 187 (by omega)]
    exact h6
  · unfold mSn
    rw [e1 187 (by omega), e1 233 (by omega)]
    exact h7
