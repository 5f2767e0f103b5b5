/-! ===== operations by name, each with its row ===== -/
/-- one or the other -/
def ai_or (f g : ai_Sp) : ai_Sp := fun pc lv st r => match f pc lv st r with
  | some x => some x
  | none => g pc lv st r
theorem ai_or_ok {cc : ByteArray} {own : String × String} {nL pc : Nat} {f g : ai_Sp} (hf : ai_So cc own nL pc f) (hg : ai_So cc own nL pc g) : ai_So cc own nL pc (ai_or f g) := by
  intro p l e R s m args below meth c D aC A ad0 n0 Q X lv st r pc' lv' st' r' h
  simp only [ai_or] at h
  split at h
  · rename_i x hx
    cases h
    exact hf p l e R s m args below meth c D aC A ad0 n0 Q X lv st r pc' lv' st' r' hx
  · exact hg p l e R s m args below meth c D aC A ad0 n0 Q X lv st r pc' lv' st' r' h
theorem ai_mo_or {f g : ai_Sp} (hf : ai_mo f) (hg : ai_mo g) : ai_mo (ai_or f g) := by
  intro pc lv st r pc' lv' st' r' h
  simp only [ai_or] at h
  split at h
  · rename_i x hx
    cases h
    exact hf pc lv st r pc' lv' st' r' hx
  · exact hg pc lv st r pc' lv' st' r' h
/-- the i-th of the powers of three, i a local -/
def ai_pw (i : Nat) : ai_Sp := fun pc lv st r => match ai_ld i lv with
  | some (.int x) => if ai_in x 9 = true then some (pc + 6, lv, .int (nI (3 ^ x.toNatClampNeg)) :: st, r) else none
  | _ => none
theorem ai_pw_ok {cc : ByteArray} {own : String × String} {nL pc i index : Nat} (hl : Cond.fieldLink own.1 index "PathsKept$Game" "POWERS_OF_THREE" "[I" ∈ lw_tbl) (d0 : decode cc pc = .ok (.getstatic index, 3)) (d1 : decode cc (pc + 3) = .ok (.iload i, 2)) (d2 : decode cc (pc + 5) = .ok (.iaload, 1)) : ai_So cc own nL pc (ai_pw i) := by
  intro p l e R s m args below meth c D aC A ad0 n0 Q X lv st r pc' lv' st' r' hf hR hG ad H locs ls hI
  simp only [ai_pw] at hf
  split at hf
  · rename_i x hx0
    split at hf
    · rename_i hin
      cases hf
      obtain ⟨i1, i2, i3, i4, i5, i6, i7, i8⟩ := hI
      obtain ⟨hx, hb, hown, hwd, hK, hml, -, -, hA, hfr, hlo, -, ⟨tP, hZ, hT⟩, -⟩ := X
      refine va_gets hx hb hZ i4 hown (hwd _ hl rfl) (fun _ h => h) d0 ?_
      refine lv_iload hx hb d1 (ai_ld_at i5 hx0) ?_
      exact va_ti hx hb hT i4 (ai_in_vp hin) rfl d2 (hG ad H locs ls ⟨i1, i2, i3, i4, i5, ai_wS_c ai_lt_i i6, i7, i8⟩)
    · cases hf
  · cases hf
theorem ai_mo_pw (i : Nat) : ai_mo (ai_pw i) := by
  intro pc lv st r pc' lv' st' r' h
  simp only [ai_pw] at h
  repeat' split at h
  all_goals first | (cases h; done) | (cases h; exact ⟨Nat.le_refl _, Nat.le_refl _⟩)
/-- a switch by two keys, 0 and 1 -/
theorem ai_lk_ok {cc : ByteArray} {own : String × String} {nL pc len a b d : Nat} {dflt oa ob : Int} (hd : decode cc pc = .ok (.lookupswitch dflt #[(0, oa), (1, ob)], len)) (h0 : (pc : Int) + oa = (a : Int)) (h1 : (pc : Int) + ob = (b : Int)) (h2 : (pc : Int) + dflt = (d : Int)) : ai_So cc own nL pc (ai_sw 0 [a, b] d) := by
  intro p l e R s m args below meth c D aC A ad0 n0 Q X lv st r pc' lv' st' r' hf hR hG ad H locs ls hI
  simp only [ai_sw] at hf
  split at hf
  · rename_i x t
    obtain ⟨i1, i2, i3, i4, i5, i6, i7, i8⟩ := hI
    have hI' : ai_I D aC A ad0 n0 nL s ad H locs ls lv t r := ⟨i1, i2, i3, i4, i5, ai_wS_t i6, i7, i8⟩
    cases hf
    by_cases e0 : x = 0
    · subst e0
      exact lv_lookup X.1 X.2.1 hd rfl rfl h0 (hG ad H locs ls hI')
    · by_cases e1 : x = 1
      · subst e1
        exact lv_lookup X.1 X.2.1 hd rfl rfl h1 (hG ad H locs ls hI')
      · have hn0 : ¬ x.toInt = 0 := lv_neT (k := 0) e0 rfl
        have hn1 : ¬ x.toInt = 1 := lv_neT (k := 1) e1 rfl
        have hp : (if x.toInt < 0 then d else ([a, b] : List Nat).getD (x.toInt - 0).toNat d) = d := by
          by_cases hx : x.toInt < 0
          · rw [if_pos hx]
          · rw [if_neg hx]
            obtain ⟨q, hq⟩ : ∃ q, (x.toInt - 0).toNat = q + 2 := ⟨(x.toInt - 0).toNat - 2, by omega⟩
            rw [hq]
            rfl
        rw [hp] at hG
        refine lv_lookup X.1 X.2.1 hd rfl (off := dflt) ?_ h2 (hG ad H locs ls hI')
        exact (lv_osw (k := 0) (a := 0) e0 rfl).trans (lv_osw (k := 1) (a := 1) e1 rfl)
  · cases hf
section Named
variable {l : Launch} {Mt : Nat → ai_Md} {cc : ByteArray} {own : String × String} {nL pc : Nat} {ret : Option FieldType}
abbrev op_iadd : ai_Op := ai_sp (ai_ib (fun x y => x + y))
theorem k_iadd (hd : decode cc pc = .ok (.iadd, 1)) : ai_Ok l Mt cc own nL ret pc op_iadd := Or.inl ⟨_, rfl, ai_ib_ok (fun _ _ _ _ _ _ _ _ _ _ _ _ _ _ _ _ _ _ _ hx hb k => lv_iadd hx hb hd k), ai_mo_ib _⟩
abbrev op_isub : ai_Op := ai_sp (ai_ib (fun x y => x - y))
theorem k_isub (hd : decode cc pc = .ok (.isub, 1)) : ai_Ok l Mt cc own nL ret pc op_isub := Or.inl ⟨_, rfl, ai_ib_ok (fun _ _ _ _ _ _ _ _ _ _ _ _ _ _ _ _ _ _ _ hx hb k => lv_isub hx hb hd k), ai_mo_ib _⟩
abbrev op_imul : ai_Op := ai_sp (ai_ib (fun x y => x * y))
theorem k_imul (hd : decode cc pc = .ok (.imul, 1)) : ai_Ok l Mt cc own nL ret pc op_imul := Or.inl ⟨_, rfl, ai_ib_ok (fun _ _ _ _ _ _ _ _ _ _ _ _ _ _ _ _ _ _ _ hx hb k => lv_imul hx hb hd k), ai_mo_ib _⟩
abbrev op_iand : ai_Op := ai_sp (ai_ib (fun x y => x &&& y))
theorem k_iand (hd : decode cc pc = .ok (.iand, 1)) : ai_Ok l Mt cc own nL ret pc op_iand := Or.inl ⟨_, rfl, ai_ib_ok (fun _ _ _ _ _ _ _ _ _ _ _ _ _ _ _ _ _ _ _ hx hb k => lv_iand hx hb hd k), ai_mo_ib _⟩
abbrev op_ior : ai_Op := ai_sp (ai_ib (fun x y => x ||| y))
theorem k_ior (hd : decode cc pc = .ok (.ior, 1)) : ai_Ok l Mt cc own nL ret pc op_ior := Or.inl ⟨_, rfl, ai_ib_ok (fun _ _ _ _ _ _ _ _ _ _ _ _ _ _ _ _ _ _ _ hx hb k => lv_ior hx hb hd k), ai_mo_ib _⟩
abbrev op_ixor : ai_Op := ai_sp (ai_ib (fun x y => x ^^^ y))
theorem k_ixor (hd : decode cc pc = .ok (.ixor, 1)) : ai_Ok l Mt cc own nL ret pc op_ixor := Or.inl ⟨_, rfl, ai_ib_ok (fun _ _ _ _ _ _ _ _ _ _ _ _ _ _ _ _ _ _ _ hx hb k => lv_ixor hx hb hd k), ai_mo_ib _⟩
abbrev op_ishl : ai_Op := ai_sp (ai_ib (fun x y => x <<< (y &&& 31)))
theorem k_ishl (hd : decode cc pc = .ok (.ishl, 1)) : ai_Ok l Mt cc own nL ret pc op_ishl := Or.inl ⟨_, rfl, ai_ib_ok (fun _ _ _ _ _ _ _ _ _ _ _ _ _ _ _ _ _ _ _ hx hb k => lv_ishl hx hb hd k), ai_mo_ib _⟩
abbrev op_ishr : ai_Op := ai_sp (ai_ib (fun x y => x >>> (y &&& 31)))
theorem k_ishr (hd : decode cc pc = .ok (.ishr, 1)) : ai_Ok l Mt cc own nL ret pc op_ishr := Or.inl ⟨_, rfl, ai_ib_ok (fun _ _ _ _ _ _ _ _ _ _ _ _ _ _ _ _ _ _ _ hx hb k => lv_ishr hx hb hd k), ai_mo_ib _⟩
abbrev op_iushr : ai_Op := ai_sp (ai_ib (fun x y => (x.toUInt32 >>> (y.toUInt32 &&& Int32.toUInt32 31)).toInt32))
theorem k_iushr (hd : decode cc pc = .ok (.iushr, 1)) : ai_Ok l Mt cc own nL ret pc op_iushr := Or.inl ⟨_, rfl, ai_ib_ok (fun _ _ _ _ _ _ _ _ _ _ _ _ _ _ _ _ _ _ _ hx hb k => lv_iushr hx hb hd rfl k), ai_mo_ib _⟩
abbrev op_idiv : ai_Op := ai_sp (ai_id (fun x y => x / y))
theorem k_idiv (hd : decode cc pc = .ok (.idiv, 1)) : ai_Ok l Mt cc own nL ret pc op_idiv := Or.inl ⟨_, rfl, ai_id_ok (fun _ _ h0 _ _ _ _ _ _ _ _ _ _ _ _ _ _ _ _ _ hx hb k => lv_idiv hx hb hd h0 k), ai_mo_id _⟩
abbrev op_irem : ai_Op := ai_sp (ai_id (fun x y => x - x / y * y))
theorem k_irem (hd : decode cc pc = .ok (.irem, 1)) : ai_Ok l Mt cc own nL ret pc op_irem := Or.inl ⟨_, rfl, ai_id_ok (fun _ _ h0 _ _ _ _ _ _ _ _ _ _ _ _ _ _ _ _ _ hx hb k => lv_irem hx hb hd h0 k), ai_mo_id _⟩
abbrev op_ladd : ai_Op := ai_sp (ai_lb (fun x y => x + y))
theorem k_ladd (hd : decode cc pc = .ok (.ladd, 1)) : ai_Ok l Mt cc own nL ret pc op_ladd := Or.inl ⟨_, rfl, ai_lb_ok (fun _ _ _ _ _ _ _ _ _ _ _ _ _ _ _ _ _ _ _ hx hb k => lv_ladd hx hb hd k), ai_mo_lb _⟩
abbrev op_lsub : ai_Op := ai_sp (ai_lb (fun x y => x - y))
theorem k_lsub (hd : decode cc pc = .ok (.lsub, 1)) : ai_Ok l Mt cc own nL ret pc op_lsub := Or.inl ⟨_, rfl, ai_lb_ok (fun _ _ _ _ _ _ _ _ _ _ _ _ _ _ _ _ _ _ _ hx hb k => lv_lsub hx hb hd k), ai_mo_lb _⟩
abbrev op_lmul : ai_Op := ai_sp (ai_lb (fun x y => x * y))
theorem k_lmul (hd : decode cc pc = .ok (.lmul, 1)) : ai_Ok l Mt cc own nL ret pc op_lmul := Or.inl ⟨_, rfl, ai_lb_ok (fun _ _ _ _ _ _ _ _ _ _ _ _ _ _ _ _ _ _ _ hx hb k => lv_lmul hx hb hd k), ai_mo_lb _⟩
abbrev op_land : ai_Op := ai_sp (ai_lb (fun x y => x &&& y))
theorem k_land (hd : decode cc pc = .ok (.land, 1)) : ai_Ok l Mt cc own nL ret pc op_land := Or.inl ⟨_, rfl, ai_lb_ok (fun _ _ _ _ _ _ _ _ _ _ _ _ _ _ _ _ _ _ _ hx hb k => lv_land hx hb hd k), ai_mo_lb _⟩
abbrev op_ldiv : ai_Op := ai_sp (ai_le (fun x y => x / y))
theorem k_ldiv (hd : decode cc pc = .ok (.ldiv, 1)) : ai_Ok l Mt cc own nL ret pc op_ldiv := Or.inl ⟨_, rfl, ai_le_ok (fun _ _ h0 _ _ _ _ _ _ _ _ _ _ _ _ _ _ _ _ _ hx hb k => lv_ldiv hx hb hd h0 k), ai_mo_le _⟩
abbrev op_lrem : ai_Op := ai_sp (ai_le (fun x y => x - x / y * y))
theorem k_lrem (hd : decode cc pc = .ok (.lrem, 1)) : ai_Ok l Mt cc own nL ret pc op_lrem := Or.inl ⟨_, rfl, ai_le_ok (fun _ _ h0 _ _ _ _ _ _ _ _ _ _ _ _ _ _ _ _ _ hx hb k => lv_lrem hx hb hd h0 k), ai_mo_le _⟩
abbrev op_lneg : ai_Op := ai_sp (ai_lu (fun x => -x))
theorem k_lneg (hd : decode cc pc = .ok (.lneg, 1)) : ai_Ok l Mt cc own nL ret pc op_lneg := Or.inl ⟨_, rfl, ai_lu_ok (fun _ _ _ _ _ _ _ _ _ _ _ _ _ _ _ _ _ _ hx hb k => lv_lneg hx hb hd k), ai_mo_lu _⟩
abbrev op_lcmp : ai_Op := ai_sp (ai_lI lg_cmp)
theorem k_lcmp (hd : decode cc pc = .ok (.lcmp, 1)) : ai_Ok l Mt cc own nL ret pc op_lcmp := Or.inl ⟨_, rfl, ai_lI_ok (fun _ _ _ _ _ _ _ _ _ _ _ _ _ _ _ _ _ _ _ hx hb k => W.lcmp hx hb hd k), ai_mo_lI _⟩
abbrev op_i2b : ai_Op := ai_sp (ai_iu (fun x => x.toInt8.toInt32))
theorem k_i2b (hd : decode cc pc = .ok (.i2b, 1)) : ai_Ok l Mt cc own nL ret pc op_i2b := Or.inl ⟨_, rfl, ai_iu_ok (fun _ _ _ _ _ _ _ _ _ _ _ _ _ _ _ _ _ _ hx hb k => lv_i2b hx hb hd rfl k), ai_mo_iu _⟩
abbrev op_i2l : ai_Op := ai_sp ai_i2l
theorem k_i2l (hd : decode cc pc = .ok (.i2l, 1)) : ai_Ok l Mt cc own nL ret pc op_i2l := Or.inl ⟨_, rfl, ai_i2l_ok hd, ai_mo_i2l⟩
abbrev op_l2i : ai_Op := ai_sp ai_l2i
theorem k_l2i (hd : decode cc pc = .ok (.l2i, 1)) : ai_Ok l Mt cc own nL ret pc op_l2i := Or.inl ⟨_, rfl, ai_l2i_ok hd, ai_mo_l2i⟩
abbrev op_pi (len : Nat) (v : Int32) : ai_Op := ai_sp (ai_pi len v)
theorem k_iconst {n : Int} {v : Int32} (hd : decode cc pc = .ok (.iconst n, 1)) (hv : Int32.ofInt n = v) : ai_Ok l Mt cc own nL ret pc (op_pi 1 v) := Or.inl ⟨_, rfl, ai_pi_ok (fun _ _ _ _ _ _ _ _ _ _ _ _ _ _ _ _ _ hx hb k => lv_iconst hx hb hd hv k), ai_mo_pi _ _⟩
theorem k_bipush {n : Int} {v : Int32} (hd : decode cc pc = .ok (.bipush n, 2)) (hv : (Int8.ofInt n).toInt32 = v) : ai_Ok l Mt cc own nL ret pc (op_pi 2 v) := Or.inl ⟨_, rfl, ai_pi_ok (fun _ _ _ _ _ _ _ _ _ _ _ _ _ _ _ _ _ hx hb k => lv_bipush hx hb hd hv k), ai_mo_pi _ _⟩
theorem k_sipush {n : Int} {v : Int32} (hd : decode cc pc = .ok (.sipush n, 3)) (hv : (Int16.ofInt n).toInt32 = v) : ai_Ok l Mt cc own nL ret pc (op_pi 3 v) := Or.inl ⟨_, rfl, ai_pi_ok (fun _ _ _ _ _ _ _ _ _ _ _ _ _ _ _ _ _ hx hb k => lv_sipush hx hb hd hv k), ai_mo_pi _ _⟩
abbrev op_pl (len : Nat) (v : Int64) : ai_Op := ai_sp (ai_pl len v)
theorem k_lconst {n : Fin 2} {v : Int64} (hd : decode cc pc = .ok (.lconst n, 1)) (hv : Int64.ofNat (n : Nat) = v) : ai_Ok l Mt cc own nL ret pc (op_pl 1 v) := Or.inl ⟨_, rfl, ai_pl_ok (fun _ _ _ _ _ _ _ _ _ _ _ _ _ _ _ _ _ hx hb k => lv_lconst hx hb hd hv k), ai_mo_pl _ _⟩
theorem k_ldc {index : Nat} {v : Int32} (hw : Cond.constant own.1 index v ∈ lw_tbl) (hd : decode cc pc = .ok (.ldc index, 2)) : ai_Ok l Mt cc own nL ret pc (op_pi 2 v) := Or.inl ⟨_, rfl, by
  intro p l e R s m args below meth c D aC A ad0 n0 Q X lv st r pc' lv' st' r' hf hR hG ad H locs ls hI
  cases hf
  obtain ⟨i1, i2, i3, i4, i5, i6, i7, i8⟩ := hI
  exact lv_ldc X.1 X.2.1 X.2.2.1 (X.2.2.2.1 _ hw rfl) hd (hG ad H locs ls ⟨i1, i2, i3, i4, i5, ai_wS_c ai_lt_i i6, i7, i8⟩), ai_mo_pi _ _⟩
theorem k_ldcw {index : Nat} {v : Int32} (hw : Cond.constant own.1 index v ∈ lw_tbl) (hd : decode cc pc = .ok (.ldc_w index, 3)) : ai_Ok l Mt cc own nL ret pc (op_pi 3 v) := Or.inl ⟨_, rfl, by
  intro p l e R s m args below meth c D aC A ad0 n0 Q X lv st r pc' lv' st' r' hf hR hG ad H locs ls hI
  cases hf
  obtain ⟨i1, i2, i3, i4, i5, i6, i7, i8⟩ := hI
  exact lv_ldcw X.1 X.2.1 X.2.2.1 (X.2.2.2.1 _ hw rfl) hd (hG ad H locs ls ⟨i1, i2, i3, i4, i5, ai_wS_c ai_lt_i i6, i7, i8⟩), ai_mo_pi _ _⟩
theorem k_ldc2 {index : Nat} {v : Int64} (hw : Cond.constantLong own.1 index v ∈ lw_tbl) (hd : decode cc pc = .ok (.ldc2_w index, 3)) : ai_Ok l Mt cc own nL ret pc (op_pl 3 v) := Or.inl ⟨_, rfl, by
  intro p l e R s m args below meth c D aC A ad0 n0 Q X lv st r pc' lv' st' r' hf hR hG ad H locs ls hI
  cases hf
  obtain ⟨i1, i2, i3, i4, i5, i6, i7, i8⟩ := hI
  exact lv_ldc2 X.1 X.2.1 X.2.2.1 (X.2.2.2.1 _ hw rfl) hd (hG ad H locs ls ⟨i1, i2, i3, i4, i5, ai_wS_c ai_lt_l i6, i7, i8⟩), ai_mo_pl _ _⟩
abbrev op_ifeq (t : Nat) : ai_Op := ai_sp (ai_b1 (fun x => decide (x = 0)) t)
abbrev op_ifne (t : Nat) : ai_Op := ai_sp (ai_b1 (fun x => decide (¬ x = 0)) t)
abbrev op_iflt (t : Nat) : ai_Op := ai_sp (ai_b1 (fun x => decide (x < 0)) t)
abbrev op_ifge (t : Nat) : ai_Op := ai_sp (ai_b1 (fun x => decide (0 ≤ x)) t)
abbrev op_ifgt (t : Nat) : ai_Op := ai_sp (ai_b1 (fun x => decide (0 < x)) t)
abbrev op_ifle (t : Nat) : ai_Op := ai_sp (ai_b1 (fun x => decide (x ≤ 0)) t)
abbrev op_cmpeq (t : Nat) : ai_Op := ai_sp (ai_b2 (fun x y => decide (x = y)) t)
abbrev op_cmpne (t : Nat) : ai_Op := ai_sp (ai_b2 (fun x y => decide (¬ x = y)) t)
abbrev op_cmplt (t : Nat) : ai_Op := ai_sp (ai_b2 (fun x y => decide (x < y)) t)
abbrev op_cmpge (t : Nat) : ai_Op := ai_sp (ai_b2 (fun x y => decide (y ≤ x)) t)
abbrev op_cmpgt (t : Nat) : ai_Op := ai_sp (ai_b2 (fun x y => decide (y < x)) t)
abbrev op_cmple (t : Nat) : ai_Op := ai_sp (ai_b2 (fun x y => decide (x ≤ y)) t)
theorem k_ifeq {off : Int} {t : Nat} (hd : decode cc pc = .ok (.ifCond .eq off, 3)) (ht : (pc : Int) + off = (t : Int)) : ai_Ok l Mt cc own nL ret pc (op_ifeq t) := Or.inl ⟨_, rfl, ai_b1_ok (fun x hP _ _ _ _ _ _ _ _ _ _ _ _ _ _ _ _ _ hx hb k => lv_if_eq hx hb hd ht (fun _ => k) (fun h => absurd (of_decide_eq_true hP) h)) (fun x hP _ _ _ _ _ _ _ _ _ _ _ _ _ _ _ _ _ hx hb k => lv_if_eq hx hb hd ht (fun h => absurd (decide_eq_true h) hP) (fun _ => k)), ai_mo_b1 _ _⟩
theorem k_ifne {off : Int} {t : Nat} (hd : decode cc pc = .ok (.ifCond .ne off, 3)) (ht : (pc : Int) + off = (t : Int)) : ai_Ok l Mt cc own nL ret pc (op_ifne t) := Or.inl ⟨_, rfl, ai_b1_ok (fun x hP _ _ _ _ _ _ _ _ _ _ _ _ _ _ _ _ _ hx hb k => lv_if_ne hx hb hd ht (fun _ => k) (fun h => absurd h (of_decide_eq_true hP))) (fun x hP _ _ _ _ _ _ _ _ _ _ _ _ _ _ _ _ _ hx hb k => lv_if_ne hx hb hd ht (fun h => absurd (decide_eq_true h) hP) (fun _ => k)), ai_mo_b1 _ _⟩
theorem k_iflt {off : Int} {t : Nat} (hd : decode cc pc = .ok (.ifCond .lt off, 3)) (ht : (pc : Int) + off = (t : Int)) : ai_Ok l Mt cc own nL ret pc (op_iflt t) := Or.inl ⟨_, rfl, ai_b1_ok (fun x hP _ _ _ _ _ _ _ _ _ _ _ _ _ _ _ _ _ hx hb k => lv_if_lt hx hb hd ht (fun _ => k) (fun h => absurd (of_decide_eq_true hP) h)) (fun x hP _ _ _ _ _ _ _ _ _ _ _ _ _ _ _ _ _ hx hb k => lv_if_lt hx hb hd ht (fun h => absurd (decide_eq_true h) hP) (fun _ => k)), ai_mo_b1 _ _⟩
theorem k_ifge {off : Int} {t : Nat} (hd : decode cc pc = .ok (.ifCond .ge off, 3)) (ht : (pc : Int) + off = (t : Int)) : ai_Ok l Mt cc own nL ret pc (op_ifge t) := Or.inl ⟨_, rfl, ai_b1_ok (fun x hP _ _ _ _ _ _ _ _ _ _ _ _ _ _ _ _ _ hx hb k => lv_if_ge hx hb hd ht (fun _ => k) (fun h => absurd (of_decide_eq_true hP) h)) (fun x hP _ _ _ _ _ _ _ _ _ _ _ _ _ _ _ _ _ hx hb k => lv_if_ge hx hb hd ht (fun h => absurd (decide_eq_true h) hP) (fun _ => k)), ai_mo_b1 _ _⟩
theorem k_ifgt {off : Int} {t : Nat} (hd : decode cc pc = .ok (.ifCond .gt off, 3)) (ht : (pc : Int) + off = (t : Int)) : ai_Ok l Mt cc own nL ret pc (op_ifgt t) := Or.inl ⟨_, rfl, ai_b1_ok (fun x hP _ _ _ _ _ _ _ _ _ _ _ _ _ _ _ _ _ hx hb k => lv_if_gt hx hb hd ht (fun _ => k) (fun h => absurd (of_decide_eq_true hP) h)) (fun x hP _ _ _ _ _ _ _ _ _ _ _ _ _ _ _ _ _ hx hb k => lv_if_gt hx hb hd ht (fun h => absurd (decide_eq_true h) hP) (fun _ => k)), ai_mo_b1 _ _⟩
theorem k_ifle {off : Int} {t : Nat} (hd : decode cc pc = .ok (.ifCond .le off, 3)) (ht : (pc : Int) + off = (t : Int)) : ai_Ok l Mt cc own nL ret pc (op_ifle t) := Or.inl ⟨_, rfl, ai_b1_ok (fun x hP _ _ _ _ _ _ _ _ _ _ _ _ _ _ _ _ _ hx hb k => lv_if_le hx hb hd ht (fun _ => k) (fun h => absurd (of_decide_eq_true hP) h)) (fun x hP _ _ _ _ _ _ _ _ _ _ _ _ _ _ _ _ _ hx hb k => lv_if_le hx hb hd ht (fun h => absurd (decide_eq_true h) hP) (fun _ => k)), ai_mo_b1 _ _⟩
theorem k_cmpeq {off : Int} {t : Nat} (hd : decode cc pc = .ok (.if_icmp .eq off, 3)) (ht : (pc : Int) + off = (t : Int)) : ai_Ok l Mt cc own nL ret pc (op_cmpeq t) := Or.inl ⟨_, rfl, ai_b2_ok (fun x y hP _ _ _ _ _ _ _ _ _ _ _ _ _ _ _ _ _ hx hb k => lv_icmp_eq hx hb hd ht (fun _ => k) (fun h => absurd (of_decide_eq_true hP) h)) (fun x y hP _ _ _ _ _ _ _ _ _ _ _ _ _ _ _ _ _ hx hb k => lv_icmp_eq hx hb hd ht (fun h => absurd (decide_eq_true h) hP) (fun _ => k)), ai_mo_b2 _ _⟩
theorem k_cmpne {off : Int} {t : Nat} (hd : decode cc pc = .ok (.if_icmp .ne off, 3)) (ht : (pc : Int) + off = (t : Int)) : ai_Ok l Mt cc own nL ret pc (op_cmpne t) := Or.inl ⟨_, rfl, ai_b2_ok (fun x y hP _ _ _ _ _ _ _ _ _ _ _ _ _ _ _ _ _ hx hb k => lv_icmp_ne hx hb hd ht (fun _ => k) (fun h => absurd h (of_decide_eq_true hP))) (fun x y hP _ _ _ _ _ _ _ _ _ _ _ _ _ _ _ _ _ hx hb k => lv_icmp_ne hx hb hd ht (fun h => absurd (decide_eq_true h) hP) (fun _ => k)), ai_mo_b2 _ _⟩
theorem k_cmplt {off : Int} {t : Nat} (hd : decode cc pc = .ok (.if_icmp .lt off, 3)) (ht : (pc : Int) + off = (t : Int)) : ai_Ok l Mt cc own nL ret pc (op_cmplt t) := Or.inl ⟨_, rfl, ai_b2_ok (fun x y hP _ _ _ _ _ _ _ _ _ _ _ _ _ _ _ _ _ hx hb k => lv_icmp_lt hx hb hd ht (fun _ => k) (fun h => absurd (of_decide_eq_true hP) h)) (fun x y hP _ _ _ _ _ _ _ _ _ _ _ _ _ _ _ _ _ hx hb k => lv_icmp_lt hx hb hd ht (fun h => absurd (decide_eq_true h) hP) (fun _ => k)), ai_mo_b2 _ _⟩
theorem k_cmpge {off : Int} {t : Nat} (hd : decode cc pc = .ok (.if_icmp .ge off, 3)) (ht : (pc : Int) + off = (t : Int)) : ai_Ok l Mt cc own nL ret pc (op_cmpge t) := Or.inl ⟨_, rfl, ai_b2_ok (fun x y hP _ _ _ _ _ _ _ _ _ _ _ _ _ _ _ _ _ hx hb k => lv_icmp_ge hx hb hd ht (fun _ => k) (fun h => absurd (of_decide_eq_true hP) h)) (fun x y hP _ _ _ _ _ _ _ _ _ _ _ _ _ _ _ _ _ hx hb k => lv_icmp_ge hx hb hd ht (fun h => absurd (decide_eq_true h) hP) (fun _ => k)), ai_mo_b2 _ _⟩
theorem k_cmpgt {off : Int} {t : Nat} (hd : decode cc pc = .ok (.if_icmp .gt off, 3)) (ht : (pc : Int) + off = (t : Int)) : ai_Ok l Mt cc own nL ret pc (op_cmpgt t) := Or.inl ⟨_, rfl, ai_b2_ok (fun x y hP _ _ _ _ _ _ _ _ _ _ _ _ _ _ _ _ _ hx hb k => lv_icmp_gt hx hb hd ht (fun _ => k) (fun h => absurd (of_decide_eq_true hP) h)) (fun x y hP _ _ _ _ _ _ _ _ _ _ _ _ _ _ _ _ _ hx hb k => lv_icmp_gt hx hb hd ht (fun h => absurd (decide_eq_true h) hP) (fun _ => k)), ai_mo_b2 _ _⟩
theorem k_cmple {off : Int} {t : Nat} (hd : decode cc pc = .ok (.if_icmp .le off, 3)) (ht : (pc : Int) + off = (t : Int)) : ai_Ok l Mt cc own nL ret pc (op_cmple t) := Or.inl ⟨_, rfl, ai_b2_ok (fun x y hP _ _ _ _ _ _ _ _ _ _ _ _ _ _ _ _ _ hx hb k => lv_icmp_le hx hb hd ht (fun _ => k) (fun h => absurd (of_decide_eq_true hP) h)) (fun x y hP _ _ _ _ _ _ _ _ _ _ _ _ _ _ _ _ _ hx hb k => lv_icmp_le hx hb hd ht (fun h => absurd (decide_eq_true h) hP) (fun _ => k)), ai_mo_b2 _ _⟩
abbrev op_goto (t : Nat) : ai_Op := ai_sp (ai_go t)
theorem k_goto {off : Int} {t : Nat} (hd : decode cc pc = .ok (.goto off, 3)) (ht : (pc : Int) + off = (t : Int)) : ai_Ok l Mt cc own nL ret pc (op_goto t) := Or.inl ⟨_, rfl, ai_go_ok hd ht, ai_mo_go _⟩
abbrev op_sw (lo : Int) (ts : List Nat) (d : Nat) : ai_Op := ai_sp (ai_sw lo ts d)
theorem k_sw {lo hi dflt : Int} {offs : Array Int} {len : Nat} {ts : List Nat} {d : Nat} (hd : decode cc pc = .ok (.tableswitch dflt lo hi offs, len)) (hl : (ts.length : Int) = hi - lo + 1) (hdf : (pc : Int) + dflt = (d : Int)) (ho : (offs.toList.map fun o => (pc : Int) + o) = ts.map fun (t : Nat) => (t : Int)) : ai_Ok l Mt cc own nL ret pc (op_sw lo ts d) := Or.inl ⟨_, rfl, ai_sw_ok hd hl hdf ho, ai_mo_sw _ _ _⟩
theorem k_lk {len a b d : Nat} {dflt oa ob : Int} (hd : decode cc pc = .ok (.lookupswitch dflt #[(0, oa), (1, ob)], len)) (h0 : (pc : Int) + oa = (a : Int)) (h1 : (pc : Int) + ob = (b : Int)) (h2 : (pc : Int) + dflt = (d : Int)) : ai_Ok l Mt cc own nL ret pc (op_sw 0 [a, b] d) := Or.inl ⟨_, rfl, ai_lk_ok hd h0 h1 h2, ai_mo_sw _ _ _⟩
abbrev op_dup : ai_Op := ai_sp ai_dup
theorem k_dup (hd : decode cc pc = .ok (.dup, 1)) : ai_Ok l Mt cc own nL ret pc (op_dup) := Or.inl ⟨_, rfl, ai_dup_ok hd, ai_mo_dup⟩
abbrev op_dup2 : ai_Op := ai_sp ai_dup2
theorem k_dup2 (hd : decode cc pc = .ok (.dup2, 1)) : ai_Ok l Mt cc own nL ret pc (op_dup2) := Or.inl ⟨_, rfl, ai_dup2_ok hd, ai_mo_dup2⟩
abbrev op_pop : ai_Op := ai_sp ai_pop
theorem k_pop (hd : decode cc pc = .ok (.pop, 1)) : ai_Ok l Mt cc own nL ret pc (op_pop) := Or.inl ⟨_, rfl, ai_pop_ok hd, ai_mo_pop⟩
abbrev op_il (i len : Nat) : ai_Op := ai_sp (ai_il i len)
theorem k_iload {i : Nat} (hd : decode cc pc = .ok (.iload i, 2)) : ai_Ok l Mt cc own nL ret pc (op_il i 2) := Or.inl ⟨_, rfl, ai_il_ok hd, ai_mo_il _ _⟩
theorem k_iloadn {k : Fin 4} {i : Nat} (hd : decode cc pc = .ok (.iload_n k, 1)) (hk : (k : Nat) = i) : ai_Ok l Mt cc own nL ret pc (op_il i 1) := Or.inl ⟨_, rfl, ai_il_okn hd hk, ai_mo_il _ _⟩
abbrev op_ll (i len : Nat) : ai_Op := ai_sp (ai_ll i len)
theorem k_lload {i : Nat} (hd : decode cc pc = .ok (.lload i, 2)) : ai_Ok l Mt cc own nL ret pc (op_ll i 2) := Or.inl ⟨_, rfl, ai_ll_ok hd, ai_mo_ll _ _⟩
theorem k_lloadn {k : Fin 4} {i : Nat} (hd : decode cc pc = .ok (.lload_n k, 1)) (hk : (k : Nat) = i) : ai_Ok l Mt cc own nL ret pc (op_ll i 1) := Or.inl ⟨_, rfl, ai_ll_okn hd hk, ai_mo_ll _ _⟩
abbrev op_al (i len : Nat) : ai_Op := ai_sp (ai_al i len)
theorem k_aload {i : Nat} (hd : decode cc pc = .ok (.aload i, 2)) : ai_Ok l Mt cc own nL ret pc (op_al i 2) := Or.inl ⟨_, rfl, ai_al_ok hd, ai_mo_al _ _⟩
theorem k_aloadn {k : Fin 4} {i : Nat} (hd : decode cc pc = .ok (.aload_n k, 1)) (hk : (k : Nat) = i) : ai_Ok l Mt cc own nL ret pc (op_al i 1) := Or.inl ⟨_, rfl, ai_al_okn hd hk, ai_mo_al _ _⟩
abbrev op_is (i len : Nat) : ai_Op := ai_sp (ai_is i len)
theorem k_istore {i : Nat} (hi : i < nL) (hd : decode cc pc = .ok (.istore i, 2)) : ai_Ok l Mt cc own nL ret pc (op_is i 2) := Or.inl ⟨_, rfl, ai_is_ok hi hd, ai_mo_is _ _⟩
theorem k_istoren {k : Fin 4} {i : Nat} (hi : i < nL) (hd : decode cc pc = .ok (.istore_n k, 1)) (hk : (k : Nat) = i) : ai_Ok l Mt cc own nL ret pc (op_is i 1) := Or.inl ⟨_, rfl, ai_is_okn hi hd hk, ai_mo_is _ _⟩
abbrev op_lst (i len : Nat) : ai_Op := ai_sp (ai_lst i len)
theorem k_lstore {i : Nat} (hi : i + 1 < nL) (hd : decode cc pc = .ok (.lstore i, 2)) : ai_Ok l Mt cc own nL ret pc (op_lst i 2) := Or.inl ⟨_, rfl, ai_lst_ok hi hd, ai_mo_lst _ _⟩
theorem k_lstoren {k : Fin 4} {i : Nat} (hi : i + 1 < nL) (hd : decode cc pc = .ok (.lstore_n k, 1)) (hk : (k : Nat) = i) : ai_Ok l Mt cc own nL ret pc (op_lst i 1) := Or.inl ⟨_, rfl, ai_lst_okn hi hd hk, ai_mo_lst _ _⟩
abbrev op_as (i len : Nat) : ai_Op := ai_sp (ai_as i len)
theorem k_astore {i : Nat} (hi : i < nL) (hd : decode cc pc = .ok (.astore i, 2)) : ai_Ok l Mt cc own nL ret pc (op_as i 2) := Or.inl ⟨_, rfl, ai_as_ok hi hd, ai_mo_as _ _⟩
theorem k_astoren {k : Fin 4} {i : Nat} (hi : i < nL) (hd : decode cc pc = .ok (.astore_n k, 1)) (hk : (k : Nat) = i) : ai_Ok l Mt cc own nL ret pc (op_as i 1) := Or.inl ⟨_, rfl, ai_as_okn hi hd hk, ai_mo_as _ _⟩
abbrev op_inc (i : Nat) (k : Int32) : ai_Op := ai_sp (ai_inc i k)
theorem k_iinc {i : Nat} {n : Int} {k : Int32} (hi : i < nL) (hd : decode cc pc = .ok (.iinc i n, 3)) (hk : Int32.ofInt n = k) : ai_Ok l Mt cc own nL ret pc (op_inc i k) := Or.inl ⟨_, rfl, ai_inc_ok hi hd hk, ai_mo_inc _ _⟩
variable {ci index k N : Nat} {C host : String} {T : u_T} {ty0 : Nat → FieldType}
abbrev op_gf (ci k : Nat) : ai_Op := ai_sp (ai_gf ci k)
theorem k_gf (ck : ai_ck ci C T N ty0) (hk : k < N) (hl : Cond.fieldLink own.1 index (T k).1 (T k).2.1 (T k).2.2.1 ∈ lw_tbl) (hd : decode cc pc = .ok (.getfield index, 3)) : ai_Ok l Mt cc own nL ret pc (op_gf ci k) := Or.inl ⟨_, rfl, ai_gf_ok ck hk hl hd, ai_mo_gf _ _⟩
theorem k_gfN (ck : ai_ck ci C T N ty0) (hk : k < N) (hl : Cond.fieldLinkNest own.1 index (T k).1 (T k).2.1 (T k).2.2.1 host ∈ lw_tbl) (hd : decode cc pc = .ok (.getfield index, 3)) : ai_Ok l Mt cc own nL ret pc (op_gf ci k) := Or.inl ⟨_, rfl, ai_gf_okN ck hk hl hd, ai_mo_gf _ _⟩
abbrev op_pf (ci k : Nat) (ty : FieldType) : ai_Op := ai_sp (ai_pf ci k ty)
theorem k_pf {ty : FieldType} (ck : ai_ck ci C T N ty0) (hk : k < N) (hty : ty0 k = ty) (hpt : ai_pty ty = true) (hfin : (T k).2.2.2 = false) (hl : Cond.fieldLink own.1 index (T k).1 (T k).2.1 (T k).2.2.1 ∈ lw_tbl) (hd : decode cc pc = .ok (.putfield index, 3)) : ai_Ok l Mt cc own nL ret pc (op_pf ci k ty) := Or.inl ⟨_, rfl, by subst hty; exact ai_pf_ok ck hk hpt hfin hl hd, ai_mo_pf _ _ _⟩
theorem k_pfN {ty : FieldType} (ck : ai_ck ci C T N ty0) (hk : k < N) (hty : ty0 k = ty) (hpt : ai_pty ty = true) (hfin : (T k).2.2.2 = false) (hl : Cond.fieldLinkNest own.1 index (T k).1 (T k).2.1 (T k).2.2.1 host ∈ lw_tbl) (hd : decode cc pc = .ok (.putfield index, 3)) : ai_Ok l Mt cc own nL ret pc (op_pf ci k ty) := Or.inl ⟨_, rfl, by subst hty; exact ai_pf_okN ck hk hpt hfin hl hd, ai_mo_pf _ _ _⟩
theorem k_pfF {ty : FieldType} (ck : ai_ck ci C T N ty0) (hk : k < N) (hty : ty0 k = ty) (hpt : ai_pty ty = true) (hfin : (T k).2.2.2 = true) (hdecl : (T k).1 = own.1) (hn : own.2 = "<init>") (hl : Cond.fieldLink own.1 index (T k).1 (T k).2.1 (T k).2.2.1 ∈ lw_tbl) (hd : decode cc pc = .ok (.putfield index, 3)) : ai_Ok l Mt cc own nL ret pc (op_pf ci k ty) := Or.inl ⟨_, rfl, by subst hty; exact ai_pf_okF ck hk hpt hfin hdecl hn hl hd, ai_mo_pf _ _ _⟩
abbrev op_len : ai_Op := ai_sp (ai_len)
theorem k_len (hd : decode cc pc = .ok (.arraylength, 1)) : ai_Ok l Mt cc own nL ret pc (op_len) := Or.inl ⟨_, rfl, ai_len_ok hd, ai_mo_len⟩
abbrev op_iald : ai_Op := ai_sp (ai_xl 1)
theorem k_iald (hd : decode cc pc = .ok (.iaload, 1)) : ai_Ok l Mt cc own nL ret pc (op_iald) := Or.inl ⟨_, rfl, ai_xl_ok1 hd, ai_mo_xl _⟩
abbrev op_lald : ai_Op := ai_sp (ai_lld)
theorem k_lald (hd : decode cc pc = .ok (.laload, 1)) : ai_Ok l Mt cc own nL ret pc (op_lald) := Or.inl ⟨_, rfl, ai_lld_ok hd, ai_mo_lld⟩
abbrev op_aald : ai_Op := ai_sp (ai_ald)
theorem k_aald (hd : decode cc pc = .ok (.aaload, 1)) : ai_Ok l Mt cc own nL ret pc (op_aald) := Or.inl ⟨_, rfl, ai_ald_ok hd, ai_mo_ald⟩
abbrev op_iast : ai_Op := ai_sp (ai_xs 1 (fun x => x))
theorem k_iast (hd : decode cc pc = .ok (.iastore, 1)) : ai_Ok l Mt cc own nL ret pc (op_iast) := Or.inl ⟨_, rfl, ai_xs_ok1 hd, ai_mo_xs _ _⟩
abbrev op_last : ai_Op := ai_sp (ai_lxs)
theorem k_last (hd : decode cc pc = .ok (.lastore, 1)) : ai_Ok l Mt cc own nL ret pc (op_last) := Or.inl ⟨_, rfl, ai_lxs_ok hd, ai_mo_lxs⟩
abbrev op_aast : ai_Op := ai_sp (ai_axs)
theorem k_aast (hd : decode cc pc = .ok (.aastore, 1)) : ai_Ok l Mt cc own nL ret pc (op_aast) := Or.inl ⟨_, rfl, ai_axs_ok hd, ai_mo_axs⟩
abbrev op_bald : ai_Op := ai_sp (ai_or (ai_xl 3) (ai_xl 0))
theorem k_bald (hd : decode cc pc = .ok (.baload, 1)) : ai_Ok l Mt cc own nL ret pc (op_bald) := Or.inl ⟨_, rfl, ai_or_ok (ai_xl_ok3 hd) (ai_xl_ok0 hd), ai_mo_or (ai_mo_xl _) (ai_mo_xl _)⟩
abbrev op_bast : ai_Op := ai_sp (ai_or (ai_xs 3 (vp_nar .boolean)) (ai_xs 0 (vp_nar .byte)))
theorem k_bast (hd : decode cc pc = .ok (.bastore, 1)) : ai_Ok l Mt cc own nL ret pc (op_bast) := Or.inl ⟨_, rfl, ai_or_ok (ai_xs_ok3 hd) (ai_xs_ok0 hd), ai_mo_or (ai_mo_xs _ _) (ai_mo_xs _ _)⟩
abbrev op_new (ci N : Nat) (fs : List Value) : ai_Op := ai_sp (ai_nw2 ci N fs)
theorem k_new {fs : List Value} (ck : ai_ck ci C T N ty0) (hz : fs.all ai_nr = true) (hfs : ∀ j, j < N → defaultValue (ty0 j) = vp_V fs j) (hl : Cond.classLink own.1 index C ∈ lw_tbl) (hi : Cond.instantiable C N ∈ lw_tbl) (hn : Cond.initialized C ∈ lw_tbl) (hd : decode cc pc = .ok (.new index, 3)) : ai_Ok l Mt cc own nL ret pc (op_new ci N fs) := Or.inl ⟨_, rfl, ai_new_ok ck hz hfs hl hi hn hd, ai_mo_nw2 _ _ _⟩
abbrev op_nab : ai_Op := ai_sp (ai_na 0 (.inl (fun _ => 0)))
theorem k_nab (hl : Cond.arrayClass .byte ∈ lw_tbl) (hd : decode cc pc = .ok (.newarray .byte, 2)) : ai_Ok l Mt cc own nL ret pc (op_nab) := Or.inl ⟨_, rfl, ai_na_ok (ty := .byte) rfl (fun _ => rfl) (fun _ _ h => h) (fun _ => rfl) (fun _ _ => trivial) (fun _ _ => rfl) (by decide) hl hd, ai_mo_na _ _⟩
abbrev op_nai : ai_Op := ai_sp (ai_na 1 (.inl (fun _ => 0)))
theorem k_nai (hl : Cond.arrayClass .int ∈ lw_tbl) (hd : decode cc pc = .ok (.newarray .int, 2)) : ai_Ok l Mt cc own nL ret pc (op_nai) := Or.inl ⟨_, rfl, ai_na_ok (ty := .int) rfl (fun _ => rfl) (fun _ _ h => h) (fun _ => rfl) (fun _ _ => trivial) (fun _ _ => rfl) (by decide) hl hd, ai_mo_na _ _⟩
abbrev op_naz : ai_Op := ai_sp (ai_na 3 (.inl (fun _ => 0)))
theorem k_naz (hl : Cond.arrayClass .boolean ∈ lw_tbl) (hd : decode cc pc = .ok (.newarray .boolean, 2)) : ai_Ok l Mt cc own nL ret pc (op_naz) := Or.inl ⟨_, rfl, ai_na_ok (ty := .boolean) rfl (fun _ => rfl) (fun _ _ h => h) (fun _ => rfl) (fun _ _ => trivial) (fun _ _ => rfl) (by decide) hl hd, ai_mo_na _ _⟩
abbrev op_nal : ai_Op := ai_sp (ai_na 2 (.inr (.inl (fun _ => 0))))
theorem k_nal (hl : Cond.arrayClass .long ∈ lw_tbl) (hd : decode cc pc = .ok (.newarray .long, 2)) : ai_Ok l Mt cc own nL ret pc (op_nal) := Or.inl ⟨_, rfl, ai_na_ok (ty := .long) rfl (fun _ => rfl) (fun _ _ h => h) (fun _ => rfl) (fun _ _ => trivial) (fun _ _ => rfl) (by decide) hl hd, ai_mo_na _ _⟩
abbrev op_naq : ai_Op := ai_sp ai_nq
theorem k_naq (hl : Cond.classLink own.1 index "PathsKept$Standing" ∈ lw_tbl) (hd : decode cc pc = .ok (.anewarray index, 3)) : ai_Ok l Mt cc own nL ret pc (op_naq) := Or.inl ⟨_, rfl, ai_nq_ok hl hd, ai_mo_nq⟩
abbrev op_oi : ai_Op := ai_sp ai_oi
theorem k_oi (h1 : Cond.methodLink own.1 index objectInit ∈ lw_tbl) (h2 : Cond.instanceMethod objectInit ∈ lw_tbl) (h3 : Cond.code objectInit ⟨#[0xb1]⟩ 1 none ∈ lw_tbl) (hd : decode cc pc = .ok (.invokespecial index, 3)) : ai_Ok l Mt cc own nL ret pc (op_oi) := Or.inl ⟨_, rfl, ai_oi_ok h1 h2 h3 hd, ai_mo_oi⟩
abbrev op_nn (t : Nat) : ai_Op := ai_sp (ai_nn t)
theorem k_nn {off : Int} {t : Nat} (hd : decode cc pc = .ok (.ifnonnull off, 3)) (ht : (pc : Int) + off = (t : Int)) : ai_Ok l Mt cc own nL ret pc (op_nn t) := Or.inl ⟨_, rfl, ai_nn_ok hd ht, ai_mo_nn _⟩
abbrev op_imax : ai_Op := ai_sp (ai_m2 (fun x y => if x < y then y else x))
theorem k_imax (h1 : Cond.methodLink own.1 index Lib.Math.max.name ∈ lw_tbl) (h2 : Cond.static Lib.Math.max.name ∈ lw_tbl) (h3 : Cond.initialized "java/lang/Math" ∈ lw_tbl) (h4 : Cond.code Lib.Math.max.name Lib.Math.max.code 2 (some .int) ∈ lw_tbl) (hd : decode cc pc = .ok (.invokestatic index, 3)) : ai_Ok l Mt cc own nL ret pc (op_imax) := Or.inl ⟨_, rfl, ai_mmax_ok h1 h2 h3 h4 hd, ai_mo_m2 _⟩
abbrev op_imin : ai_Op := ai_sp (ai_m2 (fun x y => if y < x then y else x))
theorem k_imin (h1 : Cond.methodLink own.1 index Lib.Math.min.name ∈ lw_tbl) (h2 : Cond.static Lib.Math.min.name ∈ lw_tbl) (h3 : Cond.initialized "java/lang/Math" ∈ lw_tbl) (h4 : Cond.code Lib.Math.min.name Lib.Math.min.code 2 (some .int) ∈ lw_tbl) (hd : decode cc pc = .ok (.invokestatic index, 3)) : ai_Ok l Mt cc own nL ret pc (op_imin) := Or.inl ⟨_, rfl, ai_mmin_ok h1 h2 h3 h4 hd, ai_mo_m2 _⟩
abbrev op_lmax : ai_Op := ai_sp (ai_ml (fun x y => if y < x then x else y))
theorem k_lmax (h1 : Cond.methodLink own.1 index Lib.MathLoose.max_long.x ∈ lw_tbl) (h2 : Cond.static Lib.MathLoose.max_long.x ∈ lw_tbl) (h3 : Cond.initialized "java/lang/Math" ∈ lw_tbl) (h4 : Cond.code Lib.MathLoose.max_long.x Lib.MathLoose.max_long.code 4 (some .long) ∈ lw_tbl) (hd : decode cc pc = .ok (.invokestatic index, 3)) : ai_Ok l Mt cc own nL ret pc (op_lmax) := Or.inl ⟨_, rfl, ai_lmax_ok h1 h2 h3 h4 hd, ai_mo_ml _⟩
abbrev op_lmin : ai_Op := ai_sp (ai_ml (fun x y => if y < x then y else x))
theorem k_lmin (h1 : Cond.methodLink own.1 index Lib.MathLoose.min_long.x ∈ lw_tbl) (h2 : Cond.static Lib.MathLoose.min_long.x ∈ lw_tbl) (h3 : Cond.initialized "java/lang/Math" ∈ lw_tbl) (h4 : Cond.code Lib.MathLoose.min_long.x Lib.MathLoose.min_long.code 4 (some .long) ∈ lw_tbl) (hd : decode cc pc = .ok (.invokestatic index, 3)) : ai_Ok l Mt cc own nL ret pc (op_lmin) := Or.inl ⟨_, rfl, ai_lmin_ok h1 h2 h3 h4 hd, ai_mo_ml _⟩
abbrev op_labs : ai_Op := ai_sp (ai_ma)
theorem k_labs (h1 : Cond.methodLink own.1 index Lib.MathLoose.abs_long.x ∈ lw_tbl) (h2 : Cond.static Lib.MathLoose.abs_long.x ∈ lw_tbl) (h3 : Cond.initialized "java/lang/Math" ∈ lw_tbl) (h4 : Cond.code Lib.MathLoose.abs_long.x Lib.MathLoose.abs_long.code 2 (some .long) ∈ lw_tbl) (hd : decode cc pc = .ok (.invokestatic index, 3)) : ai_Ok l Mt cc own nL ret pc (op_labs) := Or.inl ⟨_, rfl, ai_labs_ok h1 h2 h3 h4 hd, ai_mo_ma⟩
abbrev op_cp : ai_Op := ai_sp ai_cp
theorem k_cp (h1 : Cond.methodLink own.1 index arraycopyName ∈ lw_tbl) (h2 : Cond.native arraycopyName ∈ lw_tbl) (h3 : Cond.static arraycopyName ∈ lw_tbl) (h4 : Cond.initialized "java/lang/System" ∈ lw_tbl) (hd : decode cc pc = .ok (.invokestatic index, 3)) : ai_Ok l Mt cc own nL ret pc (op_cp) := Or.inl ⟨_, rfl, ai_cp_ok h1 h2 h3 h4 hd, ai_mo_cp⟩
abbrev op_pw (i : Nat) : ai_Op := ai_sp (ai_pw i)
theorem k_pw {i : Nat} (hl : Cond.fieldLink own.1 index "PathsKept$Game" "POWERS_OF_THREE" "[I" ∈ lw_tbl) (d0 : decode cc pc = .ok (.getstatic index, 3)) (d1 : decode cc (pc + 3) = .ok (.iload i, 2)) (d2 : decode cc (pc + 5) = .ok (.iaload, 1)) : ai_Ok l Mt cc own nL ret pc (op_pw i) := Or.inl ⟨_, rfl, ai_pw_ok hl d0 d1 d2, ai_mo_pw _⟩
end Named
theorem k_ri {l : Launch} {Mt : Nat → ai_Md} {cc : ByteArray} {own : String × String} {nL pc : Nat} (hd : decode cc pc = .ok (.ireturn, 1)) : ai_Ok l Mt cc own nL (some .int) pc ai_ri := Or.inr (Or.inl (ai_ri_ok hd))
theorem k_rz {l : Launch} {Mt : Nat → ai_Md} {cc : ByteArray} {own : String × String} {nL pc : Nat} (hd : decode cc pc = .ok (.ireturn, 1)) : ai_Ok l Mt cc own nL (some .boolean) pc ai_rz := Or.inr (Or.inl (ai_rz_ok hd))
theorem k_rl {l : Launch} {Mt : Nat → ai_Md} {cc : ByteArray} {own : String × String} {nL pc : Nat} (hd : decode cc pc = .ok (.lreturn, 1)) : ai_Ok l Mt cc own nL (some .long) pc ai_rl2 := Or.inr (Or.inl (ai_rl2_ok hd))
theorem k_rv {l : Launch} {Mt : Nat → ai_Md} {cc : ByteArray} {own : String × String} {nL pc : Nat} (hd : decode cc pc = .ok (.return_, 1)) : ai_Ok l Mt cc own nL none pc ai_rv := Or.inr (Or.inl (ai_rv_ok hd))
theorem k_call {l : Launch} {Mt : Nat → ai_Md} {cc : ByteArray} {own : String × String} {nL pc : Nat} {ret : Option FieldType} {f : ai_Op} (h1 : ∀ (pc : Nat) (lv : ai_L) (st : List Value) (r : ai_Hp) (x : ai_Rs), f pc lv st r = some x → ∃ q, x = .inr (.inr (.inl q))) (h2 : ai_Co l Mt cc own nL pc f) : ai_Ok l Mt cc own nL ret pc f := Or.inr (Or.inr (Or.inl ⟨h1, h2⟩))
