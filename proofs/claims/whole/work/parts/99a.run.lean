/-! ===== runs that make cells: rules with counts; the heap as a list of cells ===== -/
def lz (D : Nat) (T : List (Nat × ai_Op)) (hd : Nat → Nat → Option (Option (Nat × Nat))) (o : ai_Ou) (pc : Nat) (lv : ai_L) (st : List Value) (r : ai_Hp) : Prop := ∀ d, D ≤ d → ∃ k, ai_lp (ai_Ev ai_P ai_Hd ai_ML d) (ai_lk T) hd k pc lv st r o
section Lz
variable {D : Nat} {T : List (Nat × ai_Op)} {hd : Nat → Nat → Option (Option (Nat × Nat))} {o : ai_Ou} {pc : Nat} {lv : ai_L} {st rest : List Value} {r : ai_Hp} {h h1 : ai_H} {n n1 c s c1 s1 : Nat}
theorem lz_up {D' : Nat} (g : lz D T hd o pc lv st r) (hD : D ≤ D') : lz D' T hd o pc lv st r := fun d h => g d (Nat.le_trans hD h)
theorem lz_st {f : ai_Sp} {pc' : Nat} {lv' : ai_L} {st' : List Value} {r' : ai_Hp} (hk : ai_lk T pc = some (ai_sp f)) (hf : f pc lv st r = some (pc', lv', st', r')) (g : lz D T hd o pc' lv' st' r') : lz D T hd o pc lv st r := by
  intro d hd
  obtain ⟨k, hk2⟩ := g d hd
  refine ⟨k + 1, ?_⟩
  unfold ai_lp
  simp only [hk, Option.bind_some, ai_sp, hf, Option.map_some]
  exact hk2
theorem lz_call {f : ai_Op} {y fl : Nat} {vs : List Value} {v : Option Value} (hk : ai_lk T pc = some f) (hf : f pc lv st (h, n, c, s) = some (.inr (.inr (.inl (y, vs, rest, fl))))) (sp : bi_sp D y vs h n (.inl v, h1, n1, c1, s1)) (g : lz D T hd o (pc + 3) lv (v.toList ++ rest) (h1, n1, c + c1, s + s1)) : lz D T hd o pc lv st (h, n, c, s) := by
  intro d hd
  obtain ⟨k, hk2⟩ := g d hd
  refine ⟨k + 1, ?_⟩
  unfold ai_lp
  simp only [hk, Option.bind_some, hf]
  exact ⟨.inl v, h1, n1, c1, s1, sp d hd, hk2⟩
theorem lz_callX {f : ai_Op} {y fl E x pc' : Nat} {vs : List Value} (hk : ai_lk T pc = some f) (hf : f pc lv st (h, n, c, s) = some (.inr (.inr (.inl (y, vs, rest, fl))))) (hfl : fl ≠ 1) (sp : bi_sp D y vs h n (.inr E, h1, n1, c1, s1)) (hh : hd pc E = some (some (x, pc'))) (g : lz D T hd o pc' (lv.filter (fun q => !(q.1 == x) && !(q.1 + 1 == x && q.2.category == 2))) [] (h1, n1, c + c1, s + s1)) : lz D T hd o pc lv st (h, n, c, s) := by
  intro d hd'
  obtain ⟨k, hk2⟩ := g d hd'
  refine ⟨k + 1, ?_⟩
  unfold ai_lp
  simp only [hk, Option.bind_some, hf]
  refine ⟨.inr E, h1, n1, c1, s1, sp d hd', hfl, ?_⟩
  simp only [hh]
  exact hk2
theorem lz_ret {f : ai_Op} {v : Option Value} (hk : ai_lk T pc = some f) (hf : f pc lv st r = some (.inr (.inl (v, r)))) (ho : (.inl v, r) = o) : lz D T hd o pc lv st r := by
  intro d hd
  refine ⟨1, ?_⟩
  unfold ai_lp
  simp only [hk, Option.bind_some, hf]
  exact ho.symm
theorem lz_en {y : Nat} {vs : List Value} (hP : ai_P y = ai_lk T) (hl : (lg_sl vs).length ≤ ai_ML y) (g : lz D T (ai_Hd y) o 0 (lv_args 0 vs) [] (h, n, 0, 0)) : bi_sp (D + 1) y vs h n o := by
  intro d hd
  obtain ⟨d', rfl⟩ : ∃ d', d = d' + 1 := ⟨d - 1, by omega⟩
  refine ⟨hl, ?_⟩
  rw [hP]
  exact g d' (by omega)
theorem lz_iv {y na ci b : Nat} {v : Option Value} (hk : ai_lk T pc = some (ai_iv y na ci)) (hd' : st.drop na = .ref b :: rest) (ho : kO n h b ci = some ()) (hs : (rest.map fun v => v.category).sum ≤ 8) (sp : bi_sp D y (.ref b :: (st.take na).reverse) h n (.inl v, h1, n1, c1, s1)) (g : lz D T hd o (pc + 3) lv (v.toList ++ rest) (h1, n1, c + c1, s + s1)) : lz D T hd o pc lv st (h, n, c, s) := by
  refine lz_call (fl := 0) hk ?_ sp g
  unfold kO at ho
  split at ho
  · rename_i hc
    simp only [ai_iv, hd']
    rw [if_pos ⟨hc, hs⟩]
  · cases ho
theorem lz_ivX {y na ci b E x pc' : Nat} (hk : ai_lk T pc = some (ai_iv y na ci)) (hd' : st.drop na = .ref b :: rest) (ho : kO n h b ci = some ()) (hs : (rest.map fun v => v.category).sum ≤ 8) (sp : bi_sp D y (.ref b :: (st.take na).reverse) h n (.inr E, h1, n1, c1, s1)) (hh : hd pc E = some (some (x, pc'))) (g : lz D T hd o pc' (lv.filter (fun q => !(q.1 == x) && !(q.1 + 1 == x && q.2.category == 2))) [] (h1, n1, c + c1, s + s1)) : lz D T hd o pc lv st (h, n, c, s) := by
  refine lz_callX (rest := rest) (fl := 0) hk ?_ (by decide) sp hh g
  unfold kO at ho
  split at ho
  · rename_i hc
    simp only [ai_iv, hd']
    rw [if_pos ⟨hc, hs⟩]
  · cases ho
theorem lz_iS {y na : Nat} {v : Option Value} (hk : ai_lk T pc = some (ai_iS y na)) (hl : na ≤ st.length) (hd' : st.drop na = rest) (hs : (rest.map fun v => v.category).sum ≤ 8) (sp : bi_sp D y ((st.take na).reverse) h n (.inl v, h1, n1, c1, s1)) (g : lz D T hd o (pc + 3) lv (v.toList ++ rest) (h1, n1, c + c1, s + s1)) : lz D T hd o pc lv st (h, n, c, s) := by
  refine lz_call (fl := 1) hk ?_ sp g
  subst hd'
  simp only [ai_iS]
  rw [if_pos ⟨hl, hs⟩]
theorem lz_al {i len : Nat} {x : Nat} (hk : ai_lk T pc = some (op_al i len)) (l : ai_ld i lv = some (.ref x)) (g : lz D T hd o (pc + len) lv (.ref x :: st) r) : lz D T hd o pc lv st r := lz_st hk (by simp only [ai_al, l]) g
theorem lz_il {i len : Nat} {x : Int32} (hk : ai_lk T pc = some (op_il i len)) (l : ai_ld i lv = some (.int x)) (g : lz D T hd o (pc + len) lv (.int x :: st) r) : lz D T hd o pc lv st r := lz_st hk (by simp only [ai_il, l]) g
theorem lz_pi {len : Nat} {v : Int32} (hk : ai_lk T pc = some (op_pi len v)) (g : lz D T hd o (pc + len) lv (.int v :: st) r) : lz D T hd o pc lv st r := lz_st hk rfl g
theorem lz_is {i len : Nat} {x : Int32} (hk : ai_lk T pc = some (op_is i len)) (g : lz D T hd o (pc + len) (ai_s1 i (.int x) lv) st r) : lz D T hd o pc lv (.int x :: st) r := lz_st hk rfl g
theorem lz_as {i len : Nat} {x : Nat} (hk : ai_lk T pc = some (op_as i len)) (g : lz D T hd o (pc + len) (ai_s1 i (.ref x) lv) st r) : lz D T hd o pc lv (.ref x :: st) r := lz_st hk rfl g
theorem lz_inc {i : Nat} {k x : Int32} (hk : ai_lk T pc = some (op_inc i k)) (l : ai_ld i lv = some (.int x)) (g : lz D T hd o (pc + 3) (ai_s1 i (.int (x + k)) lv) st r) : lz D T hd o pc lv st r := lz_st hk (by simp only [ai_inc, l]) g
theorem lz_goto {t : Nat} (hk : ai_lk T pc = some (op_goto t)) (g : lz D T hd o t lv st r) : lz D T hd o pc lv st r := lz_st hk rfl g
theorem lz_dup {v : Value} (hk : ai_lk T pc = some op_dup) (hv : v.category = 1) (g : lz D T hd o (pc + 1) lv (v :: v :: st) r) : lz D T hd o pc lv (v :: st) r := lz_st hk (by simp only [ai_dup, hv, if_true]) g
theorem lz_b1t {P : Int32 → Bool} {t : Nat} {x : Int32} (hk : ai_lk T pc = some (ai_sp (ai_b1 P t))) (hp : P x = true) (g : lz D T hd o t lv st r) : lz D T hd o pc lv (.int x :: st) r := lz_st hk (by simp only [ai_b1, hp, if_true]) g
theorem lz_b1f {P : Int32 → Bool} {t : Nat} {x : Int32} (hk : ai_lk T pc = some (ai_sp (ai_b1 P t))) (hp : P x = false) (g : lz D T hd o (pc + 3) lv st r) : lz D T hd o pc lv (.int x :: st) r := lz_st hk (by simp only [ai_b1, hp, Bool.false_eq_true, if_false]) g
theorem lz_b2t {P : Int32 → Int32 → Bool} {t : Nat} {x y : Int32} (hk : ai_lk T pc = some (ai_sp (ai_b2 P t))) (hp : P x y = true) (g : lz D T hd o t lv st r) : lz D T hd o pc lv (.int y :: .int x :: st) r := lz_st hk (by simp only [ai_b2, hp, if_true]) g
theorem lz_b2f {P : Int32 → Int32 → Bool} {t : Nat} {x y : Int32} (hk : ai_lk T pc = some (ai_sp (ai_b2 P t))) (hp : P x y = false) (g : lz D T hd o (pc + 3) lv st r) : lz D T hd o pc lv (.int y :: .int x :: st) r := lz_st hk (by simp only [ai_b2, hp, Bool.false_eq_true, if_false]) g
theorem lz_iadd {x y : Int32} (hk : ai_lk T pc = some op_iadd) (g : lz D T hd o (pc + 1) lv (.int (x + y) :: st) r) : lz D T hd o pc lv (.int y :: .int x :: st) r := lz_st hk rfl g
theorem lz_gfI {oo ci k : Nat} {x : Int32} (hk : ai_lk T pc = some (op_gf ci k)) (e : pI n h oo ci k = some x) (g : lz D T hd o (pc + 3) lv (.int x :: st) (h, n, c, s)) : lz D T hd o pc lv (.ref oo :: st) (h, n, c, s) := lz_st hk (by
  unfold pI at e
  have e2 : ai_ob (h, n, c, s) oo ci = ai_ob (h, n, 0, 0) oo ci := rfl
  simp only [ai_gf, e2]
  split at e
  · rename_i fs hfs
    rw [hfs]
    split at e
    · rename_i x' hx
      cases e
      simp only [hx]
    · cases e
  · cases e) g
theorem lz_gfR {oo ci k : Nat} {x : Nat} (hk : ai_lk T pc = some (op_gf ci k)) (e : pR n h oo ci k = some x) (g : lz D T hd o (pc + 3) lv (.ref x :: st) (h, n, c, s)) : lz D T hd o pc lv (.ref oo :: st) (h, n, c, s) := lz_st hk (by
  unfold pR at e
  have e2 : ai_ob (h, n, c, s) oo ci = ai_ob (h, n, 0, 0) oo ci := rfl
  simp only [ai_gf, e2]
  split at e
  · rename_i fs hfs
    rw [hfs]
    split at e
    · rename_i x' hx
      cases e
      simp only [hx]
    · cases e
  · cases e) g
theorem lz_gfV {oo ci k : Nat} {fs : List Value} {v : Value} (hk : ai_lk T pc = some (op_gf ci k)) (e : ai_ob (h, n, 0, 0) oo ci = some fs) (e2 : fs[k]? = some v) (g : lz D T hd o (pc + 3) lv (v :: st) (h, n, c, s)) : lz D T hd o pc lv (.ref oo :: st) (h, n, c, s) := lz_st hk (by
  have e3 : ai_ob (h, n, c, s) oo ci = some fs := e
  simp only [ai_gf, e3, e2]) g
theorem lz_pf {oo ci k : Nat} {ty : FieldType} {v : Value} (hk : ai_lk T pc = some (op_pf ci k ty)) (e : sF n h oo ci k ty v = some h1) (g : lz D T hd o (pc + 3) lv st (h1, n, c, s)) : lz D T hd o pc lv (v :: .ref oo :: st) (h, n, c, s) := lz_st hk (by
  unfold sF at e
  have e2 : ai_ob (h, n, c, s) oo ci = ai_ob (h, n, 0, 0) oo ci := rfl
  simp only [ai_pf, e2]
  split at e
  · rename_i fs hfs
    rw [hfs]
    split at e
    · rename_i hc
      cases e
      simp only [hc, and_self, if_true]
    · cases e
  · cases e) g
theorem lz_new {ci N : Nat} {fs : List Value} (hk : ai_lk T pc = some (op_new ci N fs)) (g : lz D T hd o (pc + 3) lv (.ref n :: st) (va_up h n (.inr (ci, fs)), n + 1, c + 1, s + N)) : lz D T hd o pc lv st (h, n, c, s) := lz_st hk rfl g
theorem lz_na {k zn : Nat} {f : ai_F} {z : Int32} (hk : ai_lk T pc = some (ai_sp (ai_na k f))) (h1 : ¬ z < 0) (h2 : z.toNatClampNeg = zn) (h3 : zn ≤ 65536) (g : lz D T hd o (pc + 2) lv (.ref n :: st) (va_up h n (.inl (k, zn, f)), n + 1, c + 1, s + zn)) : lz D T hd o pc lv (.int z :: st) (h, n, c, s) := lz_st hk (by
  subst h2
  simp only [ai_na]
  rw [if_pos ⟨h1, h3⟩]) g
theorem lz_nq {zn : Nat} {z : Int32} (hk : ai_lk T pc = some op_naq) (h1 : ¬ z < 0) (h2 : z.toNatClampNeg = zn) (h3 : zn ≤ 65536) (g : lz D T hd o (pc + 3) lv (.ref n :: st) (va_up h n (.inl (4, zn, .inr (.inr (.inr (.inr (fun _ => none)))))), n + 1, c + 1, s + zn)) : lz D T hd o pc lv (.int z :: st) (h, n, c, s) := lz_st hk (by
  subst h2
  simp only [ai_nq]
  rw [if_pos ⟨h1, h3⟩]) g
theorem lz_oi {x : Nat} (hk : ai_lk T pc = some op_oi) (g : lz D T hd o (pc + 3) lv [] r) : lz D T hd o pc lv [.ref x] r := lz_st hk rfl g
theorem lz_ii {y na b : Nat} {v : Option Value} (hk : ai_lk T pc = some (ai_ii y na)) (hd' : st.drop na = .ref b :: rest) (hs : (rest.map fun v => v.category).sum ≤ 8) (sp : bi_sp D y (.ref b :: (st.take na).reverse) h n (.inl v, h1, n1, c1, s1)) (g : lz D T hd o (pc + 3) lv (v.toList ++ rest) (h1, n1, c + c1, s + s1)) : lz D T hd o pc lv st (h, n, c, s) := by
  refine lz_call (fl := 1) hk ?_ sp g
  simp only [ai_ii, hd']
  rw [if_pos hs]
end Lz
/-! the heap as a list of cells -/
def hL (L : List va_E) : ai_H := fun a => L.getD a (.inr (0, []))
section HL
variable {P Q L : List va_E} {x y : va_E}
theorem hL_at : hL (P ++ x :: Q) P.length = x := by
  unfold hL
  rw [List.getD_eq_getElem?_getD, List.getElem?_append_right (Nat.le_refl _), Nat.sub_self]
  rfl
theorem hL_set : va_up (hL (P ++ x :: Q)) P.length y = hL (P ++ y :: Q) := by
  funext b
  unfold va_up hL
  by_cases e : b = P.length
  · rw [if_pos e, e, List.getD_eq_getElem?_getD, List.getElem?_append_right (Nat.le_refl _), Nat.sub_self]
    rfl
  · rw [if_neg e, List.getD_eq_getElem?_getD, List.getD_eq_getElem?_getD]
    by_cases l : b < P.length
    · rw [List.getElem?_append_left l, List.getElem?_append_left l]
    · rw [List.getElem?_append_right (by omega), List.getElem?_append_right (by omega), show b - P.length = (b - P.length - 1) + 1 by omega, List.getElem?_cons_succ, List.getElem?_cons_succ]
theorem hL_new : va_up (hL L) L.length x = hL (L ++ [x]) := by
  funext b
  unfold va_up hL
  by_cases e : b = L.length
  · rw [if_pos e, e, List.getD_eq_getElem?_getD, List.getElem?_append_right (Nat.le_refl _), Nat.sub_self]
    rfl
  · rw [if_neg e, List.getD_eq_getElem?_getD, List.getD_eq_getElem?_getD]
    by_cases l : b < L.length
    · rw [List.getElem?_append_left l]
    · rw [List.getElem?_eq_none (by omega), List.getElem?_eq_none (by rw [List.length_append]; show L.length + 1 ≤ b; omega)]
end HL
/-! what a constructor does, over and over: the object stands behind P, what it made behind it -/
section Ct
variable {D : Nat} {T : List (Nat × ai_Op)} {hd : Nat → Nat → Option (Option (Nat × Nat))} {o : ai_Ou} {pc len ci k kd zn n c s : Nat} {lv : ai_L} {fs : List Value} {P Q : List va_E} {ty : FieldType} {f : ai_F} {z v : Int32}
/-- a constructor on its way -/
def ct (D : Nat) (T : List (Nat × ai_Op)) (hd : Nat → Nat → Option (Option (Nat × Nat))) (o : ai_Ou) (pc : Nat) (lv : ai_L) (ci : Nat) (P : List va_E) (fs : List Value) (Q : List va_E) (c s : Nat) : Prop := lz D T hd o pc lv [] (hL (P ++ .inr (ci, fs) :: Q), P.length + 1 + Q.length, c, s)
theorem ct_ob {n' c' s' : Nat} (hp : 0 < P.length) (hn : P.length < n') : ai_ob (hL (P ++ .inr (ci, fs) :: Q), n', c', s') P.length ci = some fs := by
  unfold ai_ob
  rw [if_pos ⟨hp, hn⟩]
  show (match hL (P ++ .inr (ci, fs) :: Q) P.length with | .inr (c, fs) => if c = ci then some fs else none | .inl _ => none) = _
  rw [hL_at]
  exact if_pos rfl
theorem ct_sF {n' : Nat} {w : Value} (hp : 0 < P.length) (hn : P.length < n') (hk : k < fs.length) (hf : fits ty w = true) : sF n' (hL (P ++ .inr (ci, fs) :: Q)) P.length ci k ty w = some (hL (P ++ .inr (ci, fs.set k w) :: Q)) := by
  unfold sF
  rw [ct_ob hp hn]
  show (if k < fs.length ∧ fits ty w = true then some (va_up (hL (P ++ .inr (ci, fs) :: Q)) P.length (.inr (ci, fs.set k w))) else none) = _
  rw [if_pos ⟨hk, hf⟩, hL_set]
theorem len_1 {x : va_E} : (P ++ x :: Q).length = P.length + 1 + Q.length := by
  rw [List.length_append, List.length_cons]
  omega
theorem ct_arr (h0 : ai_lk T pc = some (op_al 0 1)) (h1 : ai_lk T (pc + 1) = some (op_pi len z)) (h2 : ai_lk T (pc + 1 + len) = some (ai_sp (ai_na kd f))) (h3 : ai_lk T (pc + 1 + len + 2) = some (op_pf ci k ty)) (hl : ai_ld 0 lv = some (.ref P.length)) (hz : ¬ z < 0) (hzn : z.toNatClampNeg = zn) (hzz : zn ≤ 65536) (hk : k < fs.length) (hf : fits ty (.ref 0) = true) (hf' : ∀ a, fits ty (.ref a) = fits ty (.ref 0)) (hp : 0 < P.length)
    (g : ct D T hd o (pc + 1 + len + 2 + 3) lv ci P (fs.set k (.ref (P.length + 1 + Q.length))) (Q ++ [.inl (kd, zn, f)]) (c + 1) (s + zn)) : ct D T hd o pc lv ci P fs Q c s := by
  refine lz_al h0 hl (lz_pi h1 (lz_na h2 hz hzn hzz ?_))
  have e : va_up (hL (P ++ .inr (ci, fs) :: Q)) (P.length + 1 + Q.length) (.inl (kd, zn, f)) = hL (P ++ .inr (ci, fs) :: (Q ++ [.inl (kd, zn, f)])) := by
    rw [← len_1 (P := P) (Q := Q) (x := .inr (ci, fs)), hL_new, List.append_assoc]
    rfl
  rw [e]
  refine lz_pf h3 (ct_sF hp (by omega) hk (by rw [hf']; exact hf)) ?_
  have g' : lz D T hd o (pc + 1 + len + 2 + 3) lv [] (hL (P ++ .inr (ci, fs.set k (.ref (P.length + 1 + Q.length))) :: (Q ++ [.inl (kd, zn, f)])), P.length + 1 + (Q ++ [(.inl (kd, zn, f) : va_E)]).length, c + 1, s + zn) := g
  rw [List.length_append] at g'
  exact g'
theorem ct_int (h0 : ai_lk T pc = some (op_al 0 1)) (h1 : ai_lk T (pc + 1) = some (op_pi len v)) (h3 : ai_lk T (pc + 1 + len) = some (op_pf ci k .int)) (hl : ai_ld 0 lv = some (.ref P.length)) (hk : k < fs.length) (hp : 0 < P.length) (g : ct D T hd o (pc + 1 + len + 3) lv ci P (fs.set k (.int v)) Q c s) : ct D T hd o pc lv ci P fs Q c s :=
  lz_al h0 hl (lz_pi h1 (lz_pf h3 (ct_sF hp (by omega) hk rfl) g))
theorem ct_oi (h0 : ai_lk T pc = some (op_al 0 1)) (h1 : ai_lk T (pc + 1) = some op_oi) (hl : ai_ld 0 lv = some (.ref P.length)) (g : ct D T hd o (pc + 4) lv ci P fs Q c s) : ct D T hd o pc lv ci P fs Q c s := lz_al h0 hl (lz_oi h1 g)
/-- what a constructor makes: its fields and its cells, by where it stands; how many cells and slots -/
def cP (D y cj : Nat) (vs : List Value) (fs0 : List Value) (F : Nat → List Value) (R : Nat → List va_E) (c1 s1 : Nat) : Prop := ∀ P : List va_E, 0 < P.length → bi_sp D y (.ref P.length :: vs) (hL (P ++ [.inr (cj, fs0)])) (P.length + 1) (.inl none, hL (P ++ .inr (cj, F P.length) :: R P.length), P.length + 1 + (R P.length).length, c1, s1)
theorem cP_of {y cj : Nat} {vs fs0 : List Value} {F : Nat → List Value} {R : Nat → List va_E} {c1 s1 : Nat} (hP : ai_P y = ai_lk T) (hl : ∀ a, (lg_sl (.ref a :: vs)).length ≤ ai_ML y) (g : ∀ P : List va_E, 0 < P.length → ct D T (ai_Hd y) (.inl none, hL (P ++ .inr (cj, F P.length) :: R P.length), P.length + 1 + (R P.length).length, c1, s1) 0 (lv_args 0 (.ref P.length :: vs)) cj P fs0 [] 0 0) : cP (D + 1) y cj vs fs0 F R c1 s1 := fun P hp => lz_en hP (hl _) (g P hp)
theorem ct_rv {F : Nat → List Value} {R : Nat → List va_E} (h0 : ai_lk T pc = some ai_rv) (e1 : fs = F P.length) (e2 : Q = R P.length) : ct D T hd (.inl none, hL (P ++ .inr (ci, F P.length) :: R P.length), P.length + 1 + (R P.length).length, c, s) pc lv ci P fs Q c s := by
  subst e1 e2
  exact lz_ret h0 rfl rfl
/-- an object made and put into a field (no arguments) -/
theorem ct_new {y cj N c1 s1 : Nat} {fs0 : List Value} {F : Nat → List Value} {R : Nat → List va_E} (h0 : ai_lk T pc = some (op_al 0 1)) (h1 : ai_lk T (pc + 1) = some (op_new cj N fs0)) (h2 : ai_lk T (pc + 4) = some op_dup) (h3 : ai_lk T (pc + 5) = some (ai_ii y 0)) (h4 : ai_lk T (pc + 8) = some (op_pf ci k ty)) (hl : ai_ld 0 lv = some (.ref P.length)) (hc : cP D y cj [] fs0 F R c1 s1) (hk : k < fs.length) (hf' : ∀ a, fits ty (.ref a) = true) (hp : 0 < P.length)
    (g : ct D T hd o (pc + 11) lv ci P (fs.set k (.ref (P.length + 1 + Q.length))) (Q ++ .inr (cj, F (P.length + 1 + Q.length)) :: R (P.length + 1 + Q.length)) (c + 1 + c1) (s + N + s1)) : ct D T hd o pc lv ci P fs Q c s := by
  refine lz_al h0 hl (lz_new h1 (lz_dup h2 rfl ?_))
  have e : va_up (hL (P ++ .inr (ci, fs) :: Q)) (P.length + 1 + Q.length) (.inr (cj, fs0)) = hL ((P ++ .inr (ci, fs) :: Q) ++ [.inr (cj, fs0)]) := by
    rw [← len_1 (P := P) (Q := Q) (x := .inr (ci, fs)), hL_new]
  have sp := hc (P ++ .inr (ci, fs) :: Q) (by rw [len_1]; omega)
  rw [len_1] at sp
  rw [e]
  refine lz_ii h3 rfl (Nat.le_of_ble_eq_true rfl) sp ?_
  have e2 : (P ++ .inr (ci, fs) :: Q) ++ .inr (cj, F (P.length + 1 + Q.length)) :: R (P.length + 1 + Q.length) = P ++ .inr (ci, fs) :: (Q ++ .inr (cj, F (P.length + 1 + Q.length)) :: R (P.length + 1 + Q.length)) := by
    rw [List.append_assoc]
    rfl
  rw [e2]
  refine lz_pf h4 (ct_sF hp (by omega) hk (hf' _)) ?_
  have g' : lz D T hd o (pc + 11) lv [] (hL (P ++ .inr (ci, fs.set k (.ref (P.length + 1 + Q.length))) :: (Q ++ .inr (cj, F (P.length + 1 + Q.length)) :: R (P.length + 1 + Q.length))), P.length + 1 + (Q ++ (.inr (cj, F (P.length + 1 + Q.length)) : va_E) :: R (P.length + 1 + Q.length)).length, c + 1 + c1, s + N + s1) := g
  rw [len_1 (P := Q)] at g'
  rw [show P.length + 1 + Q.length + 1 + (R (P.length + 1 + Q.length)).length = P.length + 1 + (Q.length + 1 + (R (P.length + 1 + Q.length)).length) by omega]
  exact g'
end Ct
