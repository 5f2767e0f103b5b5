/-! ===== what the constructors make (printed by wip/gen/ctor.py) ===== -/
def FX0_init (a : Nat) : List Value := [.null, .null, .int 0, .int 0, .int 0, .int 0, .int 0, .ref (a + 1)]
def RX0_init (_a : Nat) : List va_E := [.inl (1, 4, .inl (fun _ => 0))]
theorem nX0_init : cP 1 0 0 [] [.null, .null, .int 0, .int 0, .int 0, .int 0, .int 0, .null] FX0_init RX0_init 1 4 := by
  refine cP_of (D := 0) (T := tX0_init) rfl (fun _ => Nat.le_of_ble_eq_true rfl) (fun P hp => ?_)
  refine ct_oi rfl rfl rfl ?_
  refine ct_arr (zn := 4) (kd := 1) (k := 7) rfl rfl rfl rfl rfl (by decide) (by decide) (by decide) (Nat.le_of_ble_eq_true rfl) rfl (fun _ => rfl) hp ?_
  exact ct_rv (F := FX0_init) (R := RX0_init) rfl rfl rfl
def FX1_init (a : Nat) : List Value := [.ref (a + 1), .ref (a + 2), .int 0]
def RX1_init (_a : Nat) : List va_E := [.inl (3, 512, .inl (fun _ => 0)), .inl (1, 1231, .inl (fun _ => 0))]
theorem nX1_init : cP 1 10 1 [] [.null, .null, .int 0] FX1_init RX1_init 2 1743 := by
  refine cP_of (D := 0) (T := tX1_init) rfl (fun _ => Nat.le_of_ble_eq_true rfl) (fun P hp => ?_)
  refine ct_oi rfl rfl rfl ?_
  refine ct_arr (zn := 512) (kd := 3) (k := 0) rfl rfl rfl rfl rfl (by decide) (by decide) (by decide) (Nat.le_of_ble_eq_true rfl) rfl (fun _ => rfl) hp ?_
  refine ct_arr (zn := 1231) (kd := 1) (k := 1) rfl rfl rfl rfl rfl (by decide) (by decide) (by decide) (Nat.le_of_ble_eq_true rfl) rfl (fun _ => rfl) hp ?_
  exact ct_rv (F := FX1_init) (R := RX1_init) rfl rfl rfl
def FX2_init (a : Nat) : List Value := [.ref (a + 1), .ref (a + 2), .ref (a + 3), .ref (a + 4), .int 0, .int 0, .ref (a + 5), .ref (a + 6)]
def RX2_init (_a : Nat) : List va_E := [.inl (1, 3, .inl (fun _ => 0)), .inl (1, 3, .inl (fun _ => 0)), .inl (1, 64, .inl (fun _ => 0)), .inl (1, 64, .inl (fun _ => 0)), .inl (2, 7, .inr (.inl (fun _ => 0))), .inl (2, 64, .inr (.inl (fun _ => 0)))]
theorem nX2_init : cP 1 16 2 [] [.null, .null, .null, .null, .int 0, .int 0, .null, .null] FX2_init RX2_init 6 205 := by
  refine cP_of (D := 0) (T := tX2_init) rfl (fun _ => Nat.le_of_ble_eq_true rfl) (fun P hp => ?_)
  refine ct_oi rfl rfl rfl ?_
  refine ct_arr (zn := 3) (kd := 1) (k := 0) rfl rfl rfl rfl rfl (by decide) (by decide) (by decide) (Nat.le_of_ble_eq_true rfl) rfl (fun _ => rfl) hp ?_
  refine ct_arr (zn := 3) (kd := 1) (k := 1) rfl rfl rfl rfl rfl (by decide) (by decide) (by decide) (Nat.le_of_ble_eq_true rfl) rfl (fun _ => rfl) hp ?_
  refine ct_arr (zn := 64) (kd := 1) (k := 2) rfl rfl rfl rfl rfl (by decide) (by decide) (by decide) (Nat.le_of_ble_eq_true rfl) rfl (fun _ => rfl) hp ?_
  refine ct_arr (zn := 64) (kd := 1) (k := 3) rfl rfl rfl rfl rfl (by decide) (by decide) (by decide) (Nat.le_of_ble_eq_true rfl) rfl (fun _ => rfl) hp ?_
  refine ct_arr (zn := 7) (kd := 2) (k := 6) rfl rfl rfl rfl rfl (by decide) (by decide) (by decide) (Nat.le_of_ble_eq_true rfl) rfl (fun _ => rfl) hp ?_
  refine ct_arr (zn := 64) (kd := 2) (k := 7) rfl rfl rfl rfl rfl (by decide) (by decide) (by decide) (Nat.le_of_ble_eq_true rfl) rfl (fun _ => rfl) hp ?_
  exact ct_rv (F := FX2_init) (R := RX2_init) rfl rfl rfl
def FX4_init (a : Nat) : List Value := [.ref (a + 1), .ref (a + 2), .ref (a + 3), .ref (a + 4), .ref (a + 5), .int 0, .int (-1), .int 0, .ref (a + 6)]
def RX4_init (_a : Nat) : List va_E := [.inl (1, 24, .inl (fun _ => 0)), .inl (1, 24, .inl (fun _ => 0)), .inl (1, 24, .inl (fun _ => 0)), .inl (1, 24, .inl (fun _ => 0)), .inl (3, 24, .inl (fun _ => 0)), .inl (1, 7, .inl (fun _ => 0))]
theorem nX4_init : cP 1 42 4 [] [.null, .null, .null, .null, .null, .int 0, .int 0, .int 0, .null] FX4_init RX4_init 6 127 := by
  refine cP_of (D := 0) (T := tX4_init) rfl (fun _ => Nat.le_of_ble_eq_true rfl) (fun P hp => ?_)
  refine ct_oi rfl rfl rfl ?_
  refine ct_arr (zn := 24) (kd := 1) (k := 0) rfl rfl rfl rfl rfl (by decide) (by decide) (by decide) (Nat.le_of_ble_eq_true rfl) rfl (fun _ => rfl) hp ?_
  refine ct_arr (zn := 24) (kd := 1) (k := 1) rfl rfl rfl rfl rfl (by decide) (by decide) (by decide) (Nat.le_of_ble_eq_true rfl) rfl (fun _ => rfl) hp ?_
  refine ct_arr (zn := 24) (kd := 1) (k := 2) rfl rfl rfl rfl rfl (by decide) (by decide) (by decide) (Nat.le_of_ble_eq_true rfl) rfl (fun _ => rfl) hp ?_
  refine ct_arr (zn := 24) (kd := 1) (k := 3) rfl rfl rfl rfl rfl (by decide) (by decide) (by decide) (Nat.le_of_ble_eq_true rfl) rfl (fun _ => rfl) hp ?_
  refine ct_arr (zn := 24) (kd := 3) (k := 4) rfl rfl rfl rfl rfl (by decide) (by decide) (by decide) (Nat.le_of_ble_eq_true rfl) rfl (fun _ => rfl) hp ?_
  refine ct_int (k := 6) rfl rfl rfl rfl (Nat.le_of_ble_eq_true rfl) hp ?_
  refine ct_arr (zn := 7) (kd := 1) (k := 8) rfl rfl rfl rfl rfl (by decide) (by decide) (by decide) (Nat.le_of_ble_eq_true rfl) rfl (fun _ => rfl) hp ?_
  exact ct_rv (F := FX4_init) (R := RX4_init) rfl rfl rfl
def FX5_init (a : Nat) : List Value := [.int 0, .int 0, .int 0, .int 0, .int 0, .ref (a + 1), .ref (a + 2), .ref (a + 3), .ref (a + 4)]
def RX5_init (_a : Nat) : List va_E := [.inl (1, 9, .inl (fun _ => 0)), .inl (1, 9, .inl (fun _ => 0)), .inl (1, 4, .inl (fun _ => 0)), .inl (1, 4, .inl (fun _ => 0))]
theorem nX5_init : cP 1 48 5 [] [.int 0, .int 0, .int 0, .int 0, .int 0, .null, .null, .null, .null] FX5_init RX5_init 4 26 := by
  refine cP_of (D := 0) (T := tX5_init) rfl (fun _ => Nat.le_of_ble_eq_true rfl) (fun P hp => ?_)
  refine ct_oi rfl rfl rfl ?_
  refine ct_arr (zn := 9) (kd := 1) (k := 5) rfl rfl rfl rfl rfl (by decide) (by decide) (by decide) (Nat.le_of_ble_eq_true rfl) rfl (fun _ => rfl) hp ?_
  refine ct_arr (zn := 9) (kd := 1) (k := 6) rfl rfl rfl rfl rfl (by decide) (by decide) (by decide) (Nat.le_of_ble_eq_true rfl) rfl (fun _ => rfl) hp ?_
  refine ct_arr (zn := 4) (kd := 1) (k := 7) rfl rfl rfl rfl rfl (by decide) (by decide) (by decide) (Nat.le_of_ble_eq_true rfl) rfl (fun _ => rfl) hp ?_
  refine ct_arr (zn := 4) (kd := 1) (k := 8) rfl rfl rfl rfl rfl (by decide) (by decide) (by decide) (Nat.le_of_ble_eq_true rfl) rfl (fun _ => rfl) hp ?_
  exact ct_rv (F := FX5_init) (R := RX5_init) rfl rfl rfl
def FX9_init (a : Nat) : List Value := [.ref (a + 1), .ref (a + 2), .ref (a + 3), .ref (a + 4), .ref (a + 5), .ref (a + 6), .int 0]
def RX9_init (_a : Nat) : List va_E := [.inl (1, 7, .inl (fun _ => 0)), .inl (1, 3584, .inl (fun _ => 0)), .inl (1, 4, .inl (fun _ => 0)), .inl (1, 9, .inl (fun _ => 0)), .inl (1, 4, .inl (fun _ => 0)), .inl (1, 4, .inl (fun _ => 0))]
theorem nX9_init : cP 1 72 9 [] [.null, .null, .null, .null, .null, .null, .int 0] FX9_init RX9_init 6 3612 := by
  refine cP_of (D := 0) (T := tX9_init) rfl (fun _ => Nat.le_of_ble_eq_true rfl) (fun P hp => ?_)
  refine ct_oi rfl rfl rfl ?_
  refine ct_arr (zn := 7) (kd := 1) (k := 0) rfl rfl rfl rfl rfl (by decide) (by decide) (by decide) (Nat.le_of_ble_eq_true rfl) rfl (fun _ => rfl) hp ?_
  refine ct_arr (zn := 3584) (kd := 1) (k := 1) rfl rfl rfl rfl rfl (by decide) (by decide) (by decide) (Nat.le_of_ble_eq_true rfl) rfl (fun _ => rfl) hp ?_
  refine ct_arr (zn := 4) (kd := 1) (k := 2) rfl rfl rfl rfl rfl (by decide) (by decide) (by decide) (Nat.le_of_ble_eq_true rfl) rfl (fun _ => rfl) hp ?_
  refine ct_arr (zn := 9) (kd := 1) (k := 3) rfl rfl rfl rfl rfl (by decide) (by decide) (by decide) (Nat.le_of_ble_eq_true rfl) rfl (fun _ => rfl) hp ?_
  refine ct_arr (zn := 4) (kd := 1) (k := 4) rfl rfl rfl rfl rfl (by decide) (by decide) (by decide) (Nat.le_of_ble_eq_true rfl) rfl (fun _ => rfl) hp ?_
  refine ct_arr (zn := 4) (kd := 1) (k := 5) rfl rfl rfl rfl rfl (by decide) (by decide) (by decide) (Nat.le_of_ble_eq_true rfl) rfl (fun _ => rfl) hp ?_
  exact ct_rv (F := FX9_init) (R := RX9_init) rfl rfl rfl
theorem nX6_init {z1 z2 : Int32} {zn zm : Nat} (h1 : ¬ z1 < 0) (h2 : z1.toNatClampNeg = zn) (h3 : zn ≤ 65536) (h4 : ¬ z1 * z2 < 0) (h5 : (z1 * z2).toNatClampNeg = zm) (h6 : zm ≤ 65536) : cP 1 52 6 [.int z1, .int z2] [.int 0, .int 0, .null, .null, .int 0] (fun a => [.int z1, .int z2, .ref (a + 1), .ref (a + 2), .int 0]) (fun _ => [.inl (1, zn, .inl (fun _ => 0)), .inl (1, zm, .inl (fun _ => 0))]) 2 (zn + zm) := by
  refine cP_of (D := 0) (T := tX6_init) rfl (fun _ => Nat.le_of_ble_eq_true rfl) (fun P hp => ?_)
  refine ct_oi rfl rfl rfl ?_
  refine lz_al rfl rfl (lz_il rfl rfl (lz_pf (h1 := hL (P ++ .inr (6, [.int z1, .int 0, .null, .null, .int 0]) :: [])) rfl (ct_sF hp (by omega) (Nat.le_of_ble_eq_true rfl) rfl) ?_))
  refine lz_al rfl rfl (lz_il rfl rfl (lz_pf (h1 := hL (P ++ .inr (6, [.int z1, .int z2, .null, .null, .int 0]) :: [])) rfl (ct_sF hp (by omega) (Nat.le_of_ble_eq_true rfl) rfl) ?_))
  refine lz_al rfl rfl (lz_il rfl rfl (lz_na (zn := zn) rfl h1 h2 h3 ?_))
  have e1 : va_up (hL (P ++ .inr (6, [.int z1, .int z2, .null, .null, .int 0]) :: [])) (P.length + 1 + 0) (.inl (1, zn, .inl (fun _ => 0))) = hL (P ++ .inr (6, [.int z1, .int z2, .null, .null, .int 0]) :: [.inl (1, zn, .inl (fun _ => 0))]) := by
    rw [← List.length_nil (α := va_E), ← len_1 (P := P) (Q := []) (x := .inr (6, [.int z1, .int z2, .null, .null, .int 0])), hL_new, List.append_assoc]
    rfl
  refine lz_pf (h1 := hL (P ++ .inr (6, [.int z1, .int z2, .ref (P.length + 1), .null, .int 0]) :: [.inl (1, zn, .inl (fun _ => 0))])) rfl ?_ ?_
  · show sF _ (va_up (hL (P ++ .inr (6, [.int z1, .int z2, .null, .null, .int 0]) :: [])) (P.length + 1 + 0) (.inl (1, zn, .inl (fun _ => 0)))) _ _ _ _ _ = _
    rw [e1]
    exact ct_sF hp (by omega) (Nat.le_of_ble_eq_true rfl) rfl
  refine lz_al rfl rfl (lz_il rfl rfl (lz_il rfl rfl (lz_st (f := ai_ib (fun x y => x * y)) rfl rfl (lz_na (zn := zm) rfl h4 h5 h6 ?_))))
  have e2 : va_up (hL (P ++ .inr (6, [.int z1, .int z2, .ref (P.length + 1), .null, .int 0]) :: [.inl (1, zn, .inl (fun _ => 0))])) (P.length + 1 + 1) (.inl (1, zm, .inl (fun _ => 0))) = hL (P ++ .inr (6, [.int z1, .int z2, .ref (P.length + 1), .null, .int 0]) :: [.inl (1, zn, .inl (fun _ => 0)), .inl (1, zm, .inl (fun _ => 0))]) := by
    have : P.length + 1 + 1 = (P ++ (.inr (6, [.int z1, .int z2, .ref (P.length + 1), .null, .int 0]) : va_E) :: [.inl (1, zn, .inl (fun _ => 0))]).length := by rw [len_1]; rfl
    rw [this, hL_new, List.append_assoc]
    rfl
  refine lz_pf (h1 := hL (P ++ .inr (6, [.int z1, .int z2, .ref (P.length + 1), .ref (P.length + 2), .int 0]) :: [.inl (1, zn, .inl (fun _ => 0)), .inl (1, zm, .inl (fun _ => 0))])) rfl ?_ ?_
  · show sF _ (va_up (hL (P ++ .inr (6, [.int z1, .int z2, .ref (P.length + 1), .null, .int 0]) :: [.inl (1, zn, .inl (fun _ => 0))])) (P.length + 1 + 1) (.inl (1, zm, .inl (fun _ => 0)))) _ _ _ _ _ = _
    rw [e2]
    exact ct_sF hp (by omega) (Nat.le_of_ble_eq_true rfl) rfl
  refine lz_ret rfl rfl ?_
  rw [show 0 + zn + zm = zn + zm by omega]
  rfl
section Ct2
variable {D : Nat} {T : List (Nat × ai_Op)} {hd : Nat → Nat → Option (Option (Nat × Nat))} {o : ai_Ou} {pc len ci k kd zn n c s : Nat} {lv : ai_L} {fs : List Value} {P Q : List va_E} {ty : FieldType}
theorem cP_up {D D' y cj : Nat} {vs fs0 : List Value} {F : Nat → List Value} {R : Nat → List va_E} {c1 s1 : Nat} (h : cP D y cj vs fs0 F R c1 s1) (hD : D ≤ D') : cP D' y cj vs fs0 F R c1 s1 := fun P hp => bi_up (h P hp) hD
theorem ct_newT {N c1 s1 l1 l2 : Nat} {z1 z2 : Int32} {fs0 : List Value} {F : Nat → List Value} {R : Nat → List va_E} (h0 : ai_lk T pc = some (op_al 0 1)) (h1 : ai_lk T (pc + 1) = some (op_new 6 N fs0)) (h2 : ai_lk T (pc + 4) = some op_dup) (h3 : ai_lk T (pc + 5) = some (op_pi l1 z1)) (h4 : ai_lk T (pc + 5 + l1) = some (op_pi l2 z2)) (h5 : ai_lk T (pc + 5 + l1 + l2) = some (ai_ii 52 2)) (h6 : ai_lk T (pc + 5 + l1 + l2 + 3) = some (op_pf ci k ty)) (hl : ai_ld 0 lv = some (.ref P.length)) (hc : cP D 52 6 [.int z1, .int z2] fs0 F R c1 s1) (hk : k < fs.length) (hf' : ∀ a, fits ty (.ref a) = true) (hp : 0 < P.length)
    (g : ct D T hd o (pc + 5 + l1 + l2 + 6) lv ci P (fs.set k (.ref (P.length + 1 + Q.length))) (Q ++ .inr (6, F (P.length + 1 + Q.length)) :: R (P.length + 1 + Q.length)) (c + 1 + c1) (s + N + s1)) : ct D T hd o pc lv ci P fs Q c s := by
  refine lz_al h0 hl (lz_new h1 (lz_dup h2 rfl (lz_pi h3 (lz_pi h4 ?_))))
  have e : va_up (hL (P ++ .inr (ci, fs) :: Q)) (P.length + 1 + Q.length) (.inr (6, fs0)) = hL ((P ++ .inr (ci, fs) :: Q) ++ [.inr (6, fs0)]) := by
    rw [← len_1 (P := P) (Q := Q) (x := .inr (ci, fs)), hL_new]
  have sp := hc (P ++ .inr (ci, fs) :: Q) (by rw [len_1]; omega)
  rw [len_1] at sp
  rw [e]
  refine lz_ii h5 rfl (Nat.le_of_ble_eq_true rfl) sp ?_
  have e2 : (P ++ .inr (ci, fs) :: Q) ++ .inr (6, F (P.length + 1 + Q.length)) :: R (P.length + 1 + Q.length) = P ++ .inr (ci, fs) :: (Q ++ .inr (6, F (P.length + 1 + Q.length)) :: R (P.length + 1 + Q.length)) := by
    rw [List.append_assoc]
    rfl
  rw [e2]
  refine lz_pf h6 (ct_sF hp (by omega) hk (hf' _)) ?_
  have g' : lz D T hd o (pc + 5 + l1 + l2 + 6) lv [] (hL (P ++ .inr (ci, fs.set k (.ref (P.length + 1 + Q.length))) :: (Q ++ .inr (6, F (P.length + 1 + Q.length)) :: R (P.length + 1 + Q.length))), P.length + 1 + (Q ++ (.inr (6, F (P.length + 1 + Q.length)) : va_E) :: R (P.length + 1 + Q.length)).length, c + 1 + c1, s + N + s1) := g
  rw [len_1 (P := Q)] at g'
  rw [show P.length + 1 + Q.length + 1 + (R (P.length + 1 + Q.length)).length = P.length + 1 + (Q.length + 1 + (R (P.length + 1 + Q.length)).length) by omega]
  exact g'
end Ct2
def FX8_init (a : Nat) : List Value := [.ref (a + 1), .ref (a + 4), .ref (a + 7), .ref (a + 10), .ref (a + 13), .ref (a + 16), .int 366, .int 0, .int 0, .int 0]
def RX8_init (a : Nat) : List va_E := [.inr (6, [.int 7, .int 0, .ref (a + 2), .ref (a + 3), .int 0]), .inl (1, 7, .inl (fun _ => 0)), .inl (1, 0, .inl (fun _ => 0)), .inr (6, [.int 9, .int 5, .ref (a + 5), .ref (a + 6), .int 0]), .inl (1, 9, .inl (fun _ => 0)), .inl (1, 45, .inl (fun _ => 0)), .inr (6, [.int 4, .int 3, .ref (a + 8), .ref (a + 9), .int 0]), .inl (1, 4, .inl (fun _ => 0)), .inl (1, 12, .inl (fun _ => 0)), .inr (6, [.int 12, .int 3, .ref (a + 11), .ref (a + 12), .int 0]), .inl (1, 12, .inl (fun _ => 0)), .inl (1, 36, .inl (fun _ => 0)), .inr (6, [.int 6, .int 3, .ref (a + 14), .ref (a + 15), .int 0]), .inl (1, 6, .inl (fun _ => 0)), .inl (1, 18, .inl (fun _ => 0)), .inr (2, [.ref (a + 17), .ref (a + 18), .ref (a + 19), .ref (a + 20), .int 0, .int 0, .ref (a + 21), .ref (a + 22)]), .inl (1, 3, .inl (fun _ => 0)), .inl (1, 3, .inl (fun _ => 0)), .inl (1, 64, .inl (fun _ => 0)), .inl (1, 64, .inl (fun _ => 0)), .inl (2, 7, .inr (.inl (fun _ => 0))), .inl (2, 64, .inr (.inl (fun _ => 0)))]
theorem nX8_init : cP 2 68 8 [] [.null, .null, .null, .null, .null, .null, .int 0, .int 0, .int 0, .int 0] FX8_init RX8_init 22 387 := by
  refine cP_of (D := 1) (T := tX8_init) rfl (fun _ => Nat.le_of_ble_eq_true rfl) (fun P hp => ?_)
  refine ct_oi rfl rfl rfl ?_
  refine ct_newT (k := 0) (z1 := 7) (z2 := 0) rfl rfl rfl rfl rfl rfl rfl rfl (cP_up (nX6_init (zn := 7) (zm := 0) (by decide) (by decide) (by decide) (by decide) (by decide) (by decide)) (Nat.le_of_ble_eq_true rfl)) (Nat.le_of_ble_eq_true rfl) (fun _ => rfl) hp ?_
  refine ct_newT (k := 1) (z1 := 9) (z2 := 5) rfl rfl rfl rfl rfl rfl rfl rfl (cP_up (nX6_init (zn := 9) (zm := 45) (by decide) (by decide) (by decide) (by decide) (by decide) (by decide)) (Nat.le_of_ble_eq_true rfl)) (Nat.le_of_ble_eq_true rfl) (fun _ => rfl) hp ?_
  refine ct_newT (k := 2) (z1 := 4) (z2 := 3) rfl rfl rfl rfl rfl rfl rfl rfl (cP_up (nX6_init (zn := 4) (zm := 12) (by decide) (by decide) (by decide) (by decide) (by decide) (by decide)) (Nat.le_of_ble_eq_true rfl)) (Nat.le_of_ble_eq_true rfl) (fun _ => rfl) hp ?_
  refine ct_newT (k := 3) (z1 := 12) (z2 := 3) rfl rfl rfl rfl rfl rfl rfl rfl (cP_up (nX6_init (zn := 12) (zm := 36) (by decide) (by decide) (by decide) (by decide) (by decide) (by decide)) (Nat.le_of_ble_eq_true rfl)) (Nat.le_of_ble_eq_true rfl) (fun _ => rfl) hp ?_
  refine ct_newT (k := 4) (z1 := 6) (z2 := 3) rfl rfl rfl rfl rfl rfl rfl rfl (cP_up (nX6_init (zn := 6) (zm := 18) (by decide) (by decide) (by decide) (by decide) (by decide) (by decide)) (Nat.le_of_ble_eq_true rfl)) (Nat.le_of_ble_eq_true rfl) (fun _ => rfl) hp ?_
  refine ct_new (k := 5) rfl rfl rfl rfl rfl rfl (cP_up nX2_init (Nat.le_of_ble_eq_true rfl)) (Nat.le_of_ble_eq_true rfl) (fun _ => rfl) hp ?_
  refine ct_int (k := 6) rfl rfl rfl rfl (Nat.le_of_ble_eq_true rfl) hp ?_
  exact ct_rv (F := FX8_init) (R := RX8_init) rfl rfl rfl
