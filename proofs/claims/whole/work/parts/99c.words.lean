/-! ===== the constructor of the tokens: the words ===== -/
section Lw
variable {D : Nat} {T : List (Nat × ai_Op)} {hd : Nat → Nat → Option (Option (Nat × Nat))} {o : ai_Ou} {pc : Nat} {lv : ai_L} {st rest : List Value} {r : ai_Hp} {h h1 : ai_H} {n n1 c s c1 s1 : Nat}
theorem lz_iald {a : Nat} {j x : Int32} (hk : ai_lk T pc = some op_iald) (e : gX 1 n h a j = some x) (g : lz D T hd o (pc + 1) lv (.int x :: st) (h, n, c, s)) : lz D T hd o pc lv (.int j :: .ref a :: st) (h, n, c, s) := lz_st hk (by
  have e2 : ai_ar (h, n, c, s) a = ai_ar (h, n, 0, 0) a := rfl
  unfold gX at e
  simp only [ai_xl, e2]
  split at e
  · rename_i k' z f hf
    split at e
    · rename_i hc
      cases e
      simp only [hf]
      rw [if_pos hc]
    · cases e
  · cases e) g
theorem lz_iast {a : Nat} {j x : Int32} (hk : ai_lk T pc = some op_iast) (e : wX 1 (fun x => x) n h a j x = some h1) (g : lz D T hd o (pc + 1) lv st (h1, n, c, s)) : lz D T hd o pc lv (.int x :: .int j :: .ref a :: st) (h, n, c, s) := lz_st hk (by
  have e2 : ai_ar (h, n, c, s) a = ai_ar (h, n, 0, 0) a := rfl
  unfold wX at e
  simp only [ai_xs, e2]
  split at e
  · rename_i k' z f hf
    split at e
    · rename_i hc
      cases e
      simp only [hf]
      rw [if_pos hc]
    · cases e
  · cases e) g
theorem lz_aast {a v : Nat} {j : Int32} (hk : ai_lk T pc = some op_aast) (e : wR n h a j v = some h1) (g : lz D T hd o (pc + 1) lv st (h1, n, c, s)) : lz D T hd o pc lv (.ref v :: .int j :: .ref a :: st) (h, n, c, s) := lz_st hk (by
  have e2 : ai_ar (h, n, c, s) a = ai_ar (h, n, 0, 0) a := rfl
  have e3 : ai_ob (h, n, c, s) v 5 = ai_ob (h, n, 0, 0) v 5 := rfl
  unfold wR at e
  simp only [ai_axs, e2, e3]
  split at e
  · rename_i k' z f hf
    split at e
    · rename_i hc
      cases e
      simp only [hf]
      rw [if_pos hc]
    · cases e
  · cases e) g
theorem lz_wl (hk : ai_lk T pc = some op_wl) (hs : (st.map fun v => v.category).sum ≤ 8) (g : lz D T hd o (pc + 5) lv (.int 108 :: st) r) : lz D T hd o pc lv st r := lz_st hk (if_pos hs) g
theorem lz_wc {i k : Nat} (hk : ai_lk T pc = some (op_wc i)) (l : ai_ld i lv = some (.int (nI k))) (h8 : k < 108) (hs : (st.map fun v => v.category).sum ≤ 8) (g : lz D T hd o (pc + 6) lv (.int (ai_wds.getD k 0) :: st) r) : lz D T hd o pc lv st r := lz_st hk (by
  show (match ai_ld i lv with | some (.int x) => if ai_in x 108 = true ∧ (st.map fun v => v.category).sum ≤ 8 then some (pc + 6, lv, .int (ai_wds.getD x.toNatClampNeg 0) :: st, r) else none | _ => none) = some (pc + 6, lv, .int (ai_wds.getD k 0) :: st, r)
  rw [l]
  show (if ai_in (nI k) 108 = true ∧ (st.map fun v => v.category).sum ≤ 8 then some (pc + 6, lv, .int (ai_wds.getD (nI k).toNatClampNeg 0) :: st, r) else none) = _
  rw [if_pos ⟨in_nI h8 (by decide), hs⟩, nI_clamp (by omega)]) g
end Lw
/-- a word's number, its end laid on the left -/
def wsf (x : Int32) (k : Nat) : Int32 := x <<< (((5 : Int32) * ((6 : Int32) - nI k)) &&& 31)
/-- a word's number, with one letter more -/
def wlt (x c : Int32) : Int32 := (x <<< ((5 : Int32) &&& 31)) ||| ((c - (97 : Int32)) + (1 : Int32))
/-- word, letter and numbers after so many signs -/
def wst : Nat → Nat × Nat × List Int32
  | 0 => (0, 0, List.replicate 22 0)
  | i + 1 => if ai_wds.getD i 0 = 32 then ((wst i).1 + 1, 0, (wst i).2.2.set (wst i).1 (wsf ((wst i).2.2.getD (wst i).1 0) (wst i).2.1)) else ((wst i).1, (wst i).2.1 + 1, (wst i).2.2.set (wst i).1 (wlt ((wst i).2.2.getD (wst i).1 0) (ai_wds.getD i 0)))
set_option maxRecDepth 20000 in
theorem wst_in : ∀ i, i < 108 → (wst i).1 < 22 ∧ (wst i).2.1 < 10 ∧ (wst i).2.2.length = 22 := by
  have t : ∀ i : Fin 108, (wst i.1).1 < 22 ∧ (wst i.1).2.1 < 10 ∧ (wst i.1).2.2.length = 22 := by decide +kernel
  exact fun i hi => t ⟨i, hi⟩
def wdR (j : Nat) : Int32 := (wst 108).2.2.getD j 0
set_option maxRecDepth 20000 in
theorem wdR_is : ∀ k, k < 22 → wdR k = nI (WD k) := by
  have t : ∀ k : Fin 22, wdR k.1 = nI (WD k.1) := by decide +kernel
  exact fun k hk => t ⟨k, hk⟩
theorem upd_l {l : List Int32} {k : Nat} {v : Int32} (h : k < l.length) : upd (fun j => l.getD j 0) k v = fun j => (l.set k v).getD j 0 := by
  funext j
  unfold upd
  rw [List.getD_eq_getElem?_getD, List.getElem?_set]
  by_cases e : j = k
  · subst e
    rw [if_pos rfl, if_pos rfl, if_pos h]
    rfl
  · rw [if_neg e, if_neg (fun h => e h.symm), ← List.getD_eq_getElem?_getD]
def FX7_init (a : Nat) : List Value := [.ref (a + 1), .null, .int 0, .int 0, .int 0, .int 0, .int 0]
def RX7_init (_ : Nat) : List va_E := [.inl (1, 22, .inl wdR)]
theorem hL_1 {P : List va_E} {x y : va_E} : hL (P ++ x :: [y]) (P.length + 1) = y := by
  unfold hL
  rw [List.getD_eq_getElem?_getD, List.getElem?_append_right (by omega), show P.length + 1 - P.length = 1 by omega]
  rfl
theorem hL_s1 {P : List va_E} {x y z : va_E} : va_up (hL (P ++ x :: [y])) (P.length + 1) z = hL (P ++ x :: [z]) := by
  have e : P ++ x :: [y] = (P ++ [x]) ++ y :: [] := by rw [List.append_assoc]; rfl
  have e' : P ++ x :: [z] = (P ++ [x]) ++ z :: [] := by rw [List.append_assoc]; rfl
  have l : P.length + 1 = (P ++ [x]).length := by rw [List.length_append]; rfl
  rw [e, e', l, hL_set]
theorem w_loop {P : List va_E} (hp : 0 < P.length) : ∀ (m i : Nat) (lv : ai_L), m + i = 108 → ai_ld 0 lv = some (.ref P.length) → ai_ld 1 lv = some (.int (nI (wst i).1)) → ai_ld 2 lv = some (.int (nI (wst i).2.1)) → ai_ld 3 lv = some (.int (nI i)) → lz 1 tX7_init (ai_Hd 269) (.inl none, hL (P ++ .inr (7, FX7_init P.length) :: RX7_init P.length), P.length + 1 + 1, 1, 22) 18 lv [] (hL (P ++ .inr (7, FX7_init P.length) :: [.inl (1, 22, .inl (fun j => (wst i).2.2.getD j 0))]), P.length + 1 + 1, 1, 22) := by
  intro m
  induction m with
  | zero =>
    intro i lv e l0 l1 l2 l3
    have e : i = 108 := by omega
    subst e
    refine lz_il (pc := 18) rfl l3 (lz_wl rfl (Nat.le_of_ble_eq_true rfl) (lz_b2t rfl (by decide) ?_))
    exact lz_ret rfl rfl rfl
  | succ m ih =>
    intro i lv e l0 l1 l2 l3
    obtain ⟨w1, w2, w3⟩ := wst_in i (by omega)
    have c1 : ¬ (108 : Int32) ≤ nI i := by
      show ¬ nI 108 ≤ nI i
      rw [n_le (by omega) (by omega)]; omega
    have c2 : ¬ (22 : Int32) ≤ nI (wst i).1 := by
      show ¬ nI 22 ≤ nI (wst i).1
      rw [n_le (by omega) (by omega)]; omega
    refine lz_il (pc := 18) rfl l3 (lz_wl rfl (Nat.le_of_ble_eq_true rfl) (lz_b2f rfl (decide_eq_false c1) ?_))
    refine lz_il (pc := 27) rfl l1 (lz_pi rfl (lz_b2f rfl (decide_eq_false c2) ?_))
    refine lz_wc (pc := 33) rfl l3 (by omega) (Nat.le_of_ble_eq_true rfl) (lz_pi rfl ?_)
    have ad1 : nI i + 1 = nI (i + 1) := by
      show nI i + nI 1 = _
      rw [nI_add]
    have hob : ai_ob (hL (P ++ .inr (7, FX7_init P.length) :: [.inl (1, 22, .inl (fun j => (wst i).2.2.getD j 0))]), P.length + 1 + 1, 0, 0) P.length 7 = some (FX7_init P.length) := ct_ob hp (by omega)
    have har : ai_ar (hL (P ++ .inr (7, FX7_init P.length) :: [.inl (1, 22, .inl (fun j => (wst i).2.2.getD j 0))]), P.length + 1 + 1, 0, 0) (P.length + 1) = some (1, 22, .inl (fun j => (wst i).2.2.getD j 0)) := by
      unfold ai_ar
      rw [if_pos ⟨by omega, by show P.length + 1 < P.length + 1 + 1; omega⟩]
      show (match hL _ (P.length + 1) with | .inl x => some x | .inr _ => none) = _
      rw [hL_1]
    have hgx : gX 1 (P.length + 1 + 1) (hL (P ++ .inr (7, FX7_init P.length) :: [.inl (1, 22, .inl (fun j => (wst i).2.2.getD j 0))])) (P.length + 1) (nI (wst i).1) = some ((wst i).2.2.getD (wst i).1 0) := by
      unfold gX
      rw [har]
      show (if 1 = 1 ∧ ai_in (nI (wst i).1) 22 = true then some ((wst i).2.2.getD (nI (wst i).1).toNatClampNeg 0) else none) = _
      rw [if_pos ⟨rfl, in_nI w1 (by decide)⟩, nI_clamp (by omega)]
    have hwx : ∀ v : Int32, wX 1 (fun x => x) (P.length + 1 + 1) (hL (P ++ .inr (7, FX7_init P.length) :: [.inl (1, 22, .inl (fun j => (wst i).2.2.getD j 0))])) (P.length + 1) (nI (wst i).1) v = some (hL (P ++ .inr (7, FX7_init P.length) :: [.inl (1, 22, .inl (fun j => ((wst i).2.2.set (wst i).1 v).getD j 0))])) := by
      intro v
      unfold wX
      rw [har]
      show (if 1 = 1 ∧ ai_in (nI (wst i).1) 22 = true then some (va_up (hL _) (P.length + 1) (.inl (1, 22, .inl (upd (fun j => (wst i).2.2.getD j 0) (nI (wst i).1).toNatClampNeg v)))) else none) = _
      rw [if_pos ⟨rfl, in_nI w1 (by decide)⟩, nI_clamp (by omega), hL_s1, upd_l (by omega)]
    by_cases c32 : ai_wds.getD i 0 = 32
    · have es : wst (i + 1) = ((wst i).1 + 1, 0, (wst i).2.2.set (wst i).1 (wsf ((wst i).2.2.getD (wst i).1 0) (wst i).2.1)) := if_pos c32
      refine lz_b2f rfl (decide_eq_false (fun h => h c32)) ?_
      refine lz_al (pc := 44) rfl l0 (lz_gfV (v := .ref (P.length + 1)) rfl hob rfl (lz_il rfl l1 (lz_st (f := ai_dup2) rfl rfl (lz_iald rfl hgx ?_))))
      refine lz_pi (pc := 51) rfl (lz_pi rfl (lz_il rfl l2 ?_))
      refine lz_st (f := ai_ib (fun x y => x - y)) (pc := 55) rfl rfl (lz_st (f := ai_ib (fun x y => x * y)) rfl rfl (lz_st (f := ai_ib (fun x y => x <<< (y &&& 31))) rfl rfl (lz_iast rfl (hwx (wsf ((wst i).2.2.getD (wst i).1 0) (wst i).2.1)) ?_)))
      refine lz_inc (pc := 59) rfl l1 (lz_pi rfl (lz_is rfl (lz_goto rfl ?_)))
      refine lz_inc (pc := 96) rfl (bi_k1 (bi_k1 l3 rfl rfl) rfl rfl) (lz_goto rfl ?_)
      have g := ih (i + 1) (ai_s1 3 (.int (nI i + 1)) (ai_s1 2 (.int 0) (ai_s1 1 (.int (nI (wst i).1 + 1)) lv))) (by omega) (bi_k1 (bi_k1 (bi_k1 l0 rfl rfl) rfl rfl) rfl rfl) (by
        rw [bi_k1 (bi_k1 bi_e1 rfl rfl) rfl rfl, es]
        show some (Value.int (nI (wst i).1 + nI 1)) = _
        rw [nI_add]) (by
        rw [bi_k1 bi_e1 rfl rfl, es]
        rfl) (by rw [bi_e1, ad1])
      rw [es] at g
      exact g
    · have es : wst (i + 1) = ((wst i).1, (wst i).2.1 + 1, (wst i).2.2.set (wst i).1 (wlt ((wst i).2.2.getD (wst i).1 0) (ai_wds.getD i 0))) := if_neg c32
      refine lz_b2t rfl (decide_eq_true c32) ?_
      refine lz_al (pc := 67) rfl l0 (lz_gfV (v := .ref (P.length + 1)) rfl hob rfl (lz_il rfl l1 ?_))
      refine lz_al (pc := 72) rfl l0 (lz_gfV (v := .ref (P.length + 1)) rfl hob rfl (lz_il rfl l1 (lz_iald rfl hgx ?_)))
      refine lz_pi (pc := 78) rfl (lz_st (f := ai_ib (fun x y => x <<< (y &&& 31))) rfl rfl ?_)
      refine lz_wc (pc := 80) rfl l3 (by omega) (Nat.le_of_ble_eq_true rfl) (lz_pi rfl ?_)
      refine lz_st (f := ai_ib (fun x y => x - y)) (pc := 88) rfl rfl (lz_pi rfl (lz_iadd rfl ?_))
      refine lz_st (f := ai_ib (fun x y => x ||| y)) (pc := 91) rfl rfl (lz_iast rfl (hwx (wlt ((wst i).2.2.getD (wst i).1 0) (ai_wds.getD i 0))) ?_)
      refine lz_inc (pc := 93) rfl l2 (lz_inc (pc := 96) rfl (bi_k1 l3 rfl rfl) (lz_goto rfl ?_))
      have g := ih (i + 1) (ai_s1 3 (.int (nI i + 1)) (ai_s1 2 (.int (nI (wst i).2.1 + 1)) lv)) (by omega) (bi_k1 (bi_k1 l0 rfl rfl) rfl rfl) (by
        rw [bi_k1 (bi_k1 l1 rfl rfl) rfl rfl, es]) (by
        rw [bi_k1 bi_e1 rfl rfl, es]
        show some (Value.int (nI (wst i).2.1 + nI 1)) = _
        rw [nI_add]) (by rw [bi_e1, ad1])
      rw [es] at g
      exact g
theorem nX7_init : cP 2 269 7 [] [.null, .null, .int 0, .int 0, .int 0, .int 0, .int 0] FX7_init RX7_init 1 22 := by
  refine cP_of (D := 1) (T := tX7_init) rfl (fun _ => Nat.le_of_ble_eq_true rfl) (fun P hp => ?_)
  refine ct_oi rfl rfl rfl ?_
  refine ct_arr (zn := 22) (kd := 1) (k := 0) rfl rfl rfl rfl rfl (by decide) (by decide) (by decide) (Nat.le_of_ble_eq_true rfl) rfl (fun _ => rfl) hp ?_
  refine lz_pi (pc := 12) rfl (lz_is rfl (lz_pi rfl (lz_is rfl (lz_pi rfl (lz_is rfl ?_)))))
  have z : (fun j => (wst 0).2.2.getD j 0) = (fun _ => (0 : Int32)) := by
    funext j
    show (List.replicate 22 (0 : Int32)).getD j 0 = 0
    rw [List.getD_eq_getElem?_getD, List.getElem?_replicate]
    split <;> rfl
  have g := w_loop hp 108 0 (ai_s1 3 (.int 0) (ai_s1 2 (.int 0) (ai_s1 1 (.int 0) (lv_args 0 [.ref P.length])))) (by omega) rfl rfl rfl rfl
  rw [z] at g
  exact g
