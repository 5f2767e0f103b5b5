/-! ===== arrays ===== -/
theorem ai_ltE_i {n k z : Nat} {f : Nat → Int32} : ai_ltE n (.inl (k, z, .inl f)) := trivial
theorem ai_ltE_l {n k z : Nat} {f : Nat → Int64} : ai_ltE n (.inl (k, z, .inr (.inl f))) := trivial
section Arrays
variable {cc : ByteArray} {own : String × String} {nL pc : Nat}
def ai_len : ai_Sp := fun pc lv st r => match st with
  | .ref i :: t => match ai_ar r i with
    | some (k, z, _) => if k < 5 then some (pc + 1, lv, .int (Int32.ofNat z) :: t, r) else none
    | none => none
  | _ => none
theorem ai_tys_at {aC : Nat → ClassId} {k : Nat} (h : k < 5) : ∃ ty, (ai_tys aC)[k]? = some (aC k, ty) := by
  match k, h with
  | 0, _ => exact ⟨_, rfl⟩
  | 1, _ => exact ⟨_, rfl⟩
  | 2, _ => exact ⟨_, rfl⟩
  | 3, _ => exact ⟨_, rfl⟩
  | 4, _ => exact ⟨_, rfl⟩
theorem ai_len_ok (hd : decode cc pc = .ok (.arraylength, 1)) : ai_So cc own nL pc ai_len := by
  intro p l e R s m args below meth c D aC A ad0 n0 Q X lv st r pc' lv' st' r' hf hR hG ad H locs ls hI
  simp only [ai_len] at hf
  split at hf
  · split at hf
    · rename_i k z f ho
      split at hf
      · rename_i hk
        cases hf
        obtain ⟨hi, he⟩ := ai_ar_at ho
        obtain ⟨i1, i2, i3, i4, i5, i6, i7, i8⟩ := hI
        obtain ⟨hx, hb, hown, hwd, hK, -⟩ := X
        have he' : (ai_ws aC ad r.1 r.2.1)[_]? = _ := ai_ws_get (aC := aC) (ad := ad) (h := r.1) hi
        rw [he] at he'
        obtain ⟨ty, hty⟩ := ai_tys_at (aC := aC) hk
        exact va_alen hx hb hK i2 _ k he' hty rfl hd (hG ad H locs ls ⟨i1, i2, i3, i4, i5, ai_wS_c ai_lt_i (ai_wS_t i6), i7, i8⟩)
      · cases hf
    · cases hf
  · cases hf
/-- ints out of an array of kind k (0 bytes, 1 ints, 3 booleans) -/
def ai_xl (k : Nat) : ai_Sp := fun pc lv st r => match st with
  | .int j :: .ref i :: t => match ai_ar r i with
    | some (k', z, .inl f) => if k' = k ∧ ai_in j z = true then some (pc + 1, lv, .int (f j.toNatClampNeg) :: t, r) else none
    | _ => none
  | _ => none
theorem ai_xl_ok1 (hd : decode cc pc = .ok (.iaload, 1)) : ai_So cc own nL pc (ai_xl 1) := by
  intro p l e R s m args below meth c D aC A ad0 n0 Q X lv st r pc' lv' st' r' hf hR hG ad H locs ls hI
  simp only [ai_xl] at hf
  split at hf
  · split at hf
    · rename_i k' z f ho
      split at hf
      · rename_i hc
        obtain ⟨rfl, hin⟩ := hc
        cases hf
        obtain ⟨hi, he⟩ := ai_ar_at ho
        obtain ⟨i1, i2, i3, i4, i5, i6, i7, i8⟩ := hI
        obtain ⟨hx, hb, hown, hwd, hK, -⟩ := X
        have he' : (ai_ws aC ad r.1 r.2.1)[_]? = _ := ai_ws_get (aC := aC) (ad := ad) (h := r.1) hi
        rw [he] at he'
        exact va_iald hx hb hK i2 _ 1 he' rfl (ai_in_vp hin) hd (hG ad H locs ls ⟨i1, i2, i3, i4, i5, ai_wS_c ai_lt_i (ai_wS_t (ai_wS_t i6)), i7, i8⟩)
      · cases hf
    · cases hf
  · cases hf
theorem ai_xl_ok0 (hd : decode cc pc = .ok (.baload, 1)) : ai_So cc own nL pc (ai_xl 0) := by
  intro p l e R s m args below meth c D aC A ad0 n0 Q X lv st r pc' lv' st' r' hf hR hG ad H locs ls hI
  simp only [ai_xl] at hf
  split at hf
  · split at hf
    · rename_i k' z f ho
      split at hf
      · rename_i hc
        obtain ⟨rfl, hin⟩ := hc
        cases hf
        obtain ⟨hi, he⟩ := ai_ar_at ho
        obtain ⟨i1, i2, i3, i4, i5, i6, i7, i8⟩ := hI
        obtain ⟨hx, hb, hown, hwd, hK, -⟩ := X
        have he' : (ai_ws aC ad r.1 r.2.1)[_]? = _ := ai_ws_get (aC := aC) (ad := ad) (h := r.1) hi
        rw [he] at he'
        exact va_bald hx hb hK i2 _ 0 he' rfl (ai_in_vp hin) hd (hG ad H locs ls ⟨i1, i2, i3, i4, i5, ai_wS_c ai_lt_i (ai_wS_t (ai_wS_t i6)), i7, i8⟩)
      · cases hf
    · cases hf
  · cases hf
theorem ai_xl_ok3 (hd : decode cc pc = .ok (.baload, 1)) : ai_So cc own nL pc (ai_xl 3) := by
  intro p l e R s m args below meth c D aC A ad0 n0 Q X lv st r pc' lv' st' r' hf hR hG ad H locs ls hI
  simp only [ai_xl] at hf
  split at hf
  · split at hf
    · rename_i k' z f ho
      split at hf
      · rename_i hc
        obtain ⟨rfl, hin⟩ := hc
        cases hf
        obtain ⟨hi, he⟩ := ai_ar_at ho
        obtain ⟨i1, i2, i3, i4, i5, i6, i7, i8⟩ := hI
        obtain ⟨hx, hb, hown, hwd, hK, -⟩ := X
        have he' : (ai_ws aC ad r.1 r.2.1)[_]? = _ := ai_ws_get (aC := aC) (ad := ad) (h := r.1) hi
        rw [he] at he'
        exact va_zald hx hb hK i2 _ 3 he' rfl (ai_in_vp hin) hd (hG ad H locs ls ⟨i1, i2, i3, i4, i5, ai_wS_c ai_lt_i (ai_wS_t (ai_wS_t i6)), i7, i8⟩)
      · cases hf
    · cases hf
  · cases hf
def ai_lld : ai_Sp := fun pc lv st r => match st with
  | .int j :: .ref i :: t => match ai_ar r i with
    | some (k', z, .inr (.inl f)) => if k' = 2 ∧ ai_in j z = true then some (pc + 1, lv, .long (f j.toNatClampNeg) :: t, r) else none
    | _ => none
  | _ => none
theorem ai_lld_ok (hd : decode cc pc = .ok (.laload, 1)) : ai_So cc own nL pc ai_lld := by
  intro p l e R s m args below meth c D aC A ad0 n0 Q X lv st r pc' lv' st' r' hf hR hG ad H locs ls hI
  simp only [ai_lld] at hf
  split at hf
  · split at hf
    · rename_i k' z f ho
      split at hf
      · rename_i hc
        obtain ⟨rfl, hin⟩ := hc
        cases hf
        obtain ⟨hi, he⟩ := ai_ar_at ho
        obtain ⟨i1, i2, i3, i4, i5, i6, i7, i8⟩ := hI
        obtain ⟨hx, hb, hown, hwd, hK, -⟩ := X
        have he' : (ai_ws aC ad r.1 r.2.1)[_]? = _ := ai_ws_get (aC := aC) (ad := ad) (h := r.1) hi
        rw [he] at he'
        exact va_lald hx hb hK i2 _ 2 he' rfl (ai_in_vp hin) hd (hG ad H locs ls ⟨i1, i2, i3, i4, i5, ai_wS_c ai_lt_l (ai_wS_t (ai_wS_t i6)), i7, i8⟩)
      · cases hf
    · cases hf
  · cases hf
def ai_ald : ai_Sp := fun pc lv st r => match st with
  | .int j :: .ref i :: t => match ai_ar r i with
    | some (k', z, .inr (.inr (.inr (.inr f)))) => if k' = 4 ∧ ai_in j z = true then some (pc + 1, lv, va_rf (f j.toNatClampNeg) :: t, r) else none
    | _ => none
  | _ => none
theorem ai_rf_cv (ad : Nat → Nat) (o : Option Nat) : va_rf (o.map ad) = ai_cv ad (va_rf o) := by cases o <;> rfl
theorem ai_rf_lt {n : Nat} {o : Option Nat} (h : ∀ i, o = some i → i < n) : ai_lt n (va_rf o) := by
  cases o with
  | none => exact ai_lt_0
  | some i => exact ai_lt_r (h i rfl)
theorem ai_ald_ok (hd : decode cc pc = .ok (.aaload, 1)) : ai_So cc own nL pc ai_ald := by
  intro p l e R s m args below meth c D aC A ad0 n0 Q X lv st r pc' lv' st' r' hf hR hG ad H locs ls hI
  simp only [ai_ald] at hf
  split at hf
  · split at hf
    · rename_i k' z f ho
      split at hf
      · rename_i hc
        obtain ⟨rfl, hin⟩ := hc
        cases hf
        obtain ⟨hi, he⟩ := ai_ar_at ho
        obtain ⟨i1, i2, i3, i4, i5, i6, i7, i8⟩ := hI
        obtain ⟨hx, hb, hown, hwd, hK, -⟩ := X
        have he' : (ai_ws aC ad r.1 r.2.1)[_]? = _ := ai_ws_get (aC := aC) (ad := ad) (h := r.1) hi
        rw [he] at he'
        have hlt := i8.2 _ hi
        rw [he] at hlt
        have hlt : ∀ j i, f j = some i → i < r.2.1 := hlt
        refine va_aldq hx hb hK i2 _ 4 he' rfl (ai_in_vp hin) hd ?_
        rw [ai_rf_cv]
        exact hG ad H locs ls ⟨i1, i2, i3, i4, i5, ai_wS_c (ai_rf_lt (fun i h => hlt _ i h)) (ai_wS_t (ai_wS_t i6)), i7, i8⟩
      · cases hf
    · cases hf
  · cases hf
/-! stores -/
def ai_xs (k : Nat) (g : Int32 → Int32) : ai_Sp := fun pc lv st r => match st with
  | .int x :: .int j :: .ref i :: t => match ai_ar r i with
    | some (k', z, .inl f) => if k' = k ∧ ai_in j z = true then some (pc + 1, lv, t, (va_up r.1 i (.inl (k, z, .inl (upd f j.toNatClampNeg (g x)))), r.2)) else none
    | _ => none
  | _ => none
theorem ai_xs_ok1 (hd : decode cc pc = .ok (.iastore, 1)) : ai_So cc own nL pc (ai_xs 1 (fun x => x)) := by
  intro p l e R s m args below meth c D aC A ad0 n0 Q X lv st r pc' lv' st' r' hf hR hG ad H locs ls hI
  simp only [ai_xs] at hf
  split at hf
  · split at hf
    · rename_i k' z f ho
      split at hf
      · rename_i hc
        obtain ⟨rfl, hin⟩ := hc
        cases hf
        obtain ⟨hi, he⟩ := ai_ar_at ho
        obtain ⟨i1, i2, i3, i4, i5, i6, i7, i8⟩ := hI
        obtain ⟨hx, hb, hown, hwd, hK, -⟩ := X
        have he' : (ai_ws aC ad r.1 r.2.1)[_]? = _ := ai_ws_get (aC := aC) (ad := ad) (h := r.1) hi
        rw [he] at he'
        refine va_iast hx hb hK i2 i3 i4 _ 1 he' rfl (ai_in_vp hin) hd (fun H1 locs1 hP1 hD1 hS1 => ?_)
        exact hG ad H1 locs1 ls ⟨i1, (ai_ws_set hi (.inl (1, z, .inl (upd f _ _)))) ▸ hP1, (ai_ws_set hi (.inl (1, z, .inl (upd f _ _)))) ▸ hD1, hS1, i5, ai_wS_t (ai_wS_t (ai_wS_t i6)), i7, ai_wH_up i8 ai_ltE_i⟩
      · cases hf
    · cases hf
  · cases hf
theorem ai_xs_ok0 (hd : decode cc pc = .ok (.bastore, 1)) : ai_So cc own nL pc (ai_xs 0 (vp_nar .byte)) := by
  intro p l e R s m args below meth c D aC A ad0 n0 Q X lv st r pc' lv' st' r' hf hR hG ad H locs ls hI
  simp only [ai_xs] at hf
  split at hf
  · split at hf
    · rename_i k' z f ho
      split at hf
      · rename_i hc
        obtain ⟨rfl, hin⟩ := hc
        cases hf
        obtain ⟨hi, he⟩ := ai_ar_at ho
        obtain ⟨i1, i2, i3, i4, i5, i6, i7, i8⟩ := hI
        obtain ⟨hx, hb, hown, hwd, hK, -⟩ := X
        have he' : (ai_ws aC ad r.1 r.2.1)[_]? = _ := ai_ws_get (aC := aC) (ad := ad) (h := r.1) hi
        rw [he] at he'
        refine va_bast hx hb hK i2 i3 i4 _ 0 he' rfl (ai_in_vp hin) hd (fun H1 locs1 hP1 hD1 hS1 => ?_)
        exact hG ad H1 locs1 ls ⟨i1, (ai_ws_set hi (.inl (0, z, .inl (upd f _ _)))) ▸ hP1, (ai_ws_set hi (.inl (0, z, .inl (upd f _ _)))) ▸ hD1, hS1, i5, ai_wS_t (ai_wS_t (ai_wS_t i6)), i7, ai_wH_up i8 ai_ltE_i⟩
      · cases hf
    · cases hf
  · cases hf
theorem ai_xs_ok3 (hd : decode cc pc = .ok (.bastore, 1)) : ai_So cc own nL pc (ai_xs 3 (vp_nar .boolean)) := by
  intro p l e R s m args below meth c D aC A ad0 n0 Q X lv st r pc' lv' st' r' hf hR hG ad H locs ls hI
  simp only [ai_xs] at hf
  split at hf
  · split at hf
    · rename_i k' z f ho
      split at hf
      · rename_i hc
        obtain ⟨rfl, hin⟩ := hc
        cases hf
        obtain ⟨hi, he⟩ := ai_ar_at ho
        obtain ⟨i1, i2, i3, i4, i5, i6, i7, i8⟩ := hI
        obtain ⟨hx, hb, hown, hwd, hK, -⟩ := X
        have he' : (ai_ws aC ad r.1 r.2.1)[_]? = _ := ai_ws_get (aC := aC) (ad := ad) (h := r.1) hi
        rw [he] at he'
        refine va_zast hx hb hK i2 i3 i4 _ 3 he' rfl (ai_in_vp hin) hd (fun H1 locs1 hP1 hD1 hS1 => ?_)
        exact hG ad H1 locs1 ls ⟨i1, (ai_ws_set hi (.inl (3, z, .inl (upd f _ _)))) ▸ hP1, (ai_ws_set hi (.inl (3, z, .inl (upd f _ _)))) ▸ hD1, hS1, i5, ai_wS_t (ai_wS_t (ai_wS_t i6)), i7, ai_wH_up i8 ai_ltE_i⟩
      · cases hf
    · cases hf
  · cases hf
def ai_lxs : ai_Sp := fun pc lv st r => match st with
  | .long x :: .int j :: .ref i :: t => match ai_ar r i with
    | some (k', z, .inr (.inl f)) => if k' = 2 ∧ ai_in j z = true then some (pc + 1, lv, t, (va_up r.1 i (.inl (2, z, .inr (.inl (vp_updL f j.toNatClampNeg x)))), r.2)) else none
    | _ => none
  | _ => none
theorem ai_lxs_ok (hd : decode cc pc = .ok (.lastore, 1)) : ai_So cc own nL pc ai_lxs := by
  intro p l e R s m args below meth c D aC A ad0 n0 Q X lv st r pc' lv' st' r' hf hR hG ad H locs ls hI
  simp only [ai_lxs] at hf
  split at hf
  · split at hf
    · rename_i k' z f ho
      split at hf
      · rename_i hc
        obtain ⟨rfl, hin⟩ := hc
        cases hf
        obtain ⟨hi, he⟩ := ai_ar_at ho
        obtain ⟨i1, i2, i3, i4, i5, i6, i7, i8⟩ := hI
        obtain ⟨hx, hb, hown, hwd, hK, -⟩ := X
        have he' : (ai_ws aC ad r.1 r.2.1)[_]? = _ := ai_ws_get (aC := aC) (ad := ad) (h := r.1) hi
        rw [he] at he'
        refine va_last hx hb hK i2 i3 i4 _ 2 he' rfl (ai_in_vp hin) hd (fun H1 locs1 hP1 hD1 hS1 => ?_)
        exact hG ad H1 locs1 ls ⟨i1, (ai_ws_set hi (.inl (2, z, .inr (.inl (vp_updL f _ _))))) ▸ hP1, (ai_ws_set hi (.inl (2, z, .inr (.inl (vp_updL f _ _))))) ▸ hD1, hS1, i5, ai_wS_t (ai_wS_t (ai_wS_t i6)), i7, ai_wH_up i8 ai_ltE_l⟩
      · cases hf
    · cases hf
  · cases hf
/-- a Standing (class 5) into an array of them -/
def ai_axs : ai_Sp := fun pc lv st r => match st with
  | .ref v :: .int j :: .ref i :: t => match ai_ar r i with
    | some (k', z, .inr (.inr (.inr (.inr f)))) => if k' = 4 ∧ ai_in j z = true ∧ (ai_ob r v 5).isSome = true then some (pc + 1, lv, t, (va_up r.1 i (.inl (4, z, .inr (.inr (.inr (.inr (va_up f j.toNatClampNeg (some v))))))), r.2)) else none
    | _ => none
  | _ => none
theorem ai_axs_ok (hd : decode cc pc = .ok (.aastore, 1)) : ai_So cc own nL pc ai_axs := by
  intro p l e R s m args below meth c D aC A ad0 n0 Q X lv st r pc' lv' st' r' hf hR hG ad H locs ls hI
  simp only [ai_axs] at hf
  split at hf
  · rename_i v j i t
    split at hf
    · rename_i k' z f ho
      split at hf
      · rename_i hc
        obtain ⟨rfl, hin, hob⟩ := hc
        cases hf
        obtain ⟨hi, he⟩ := ai_ar_at ho
        obtain ⟨fs, hfs⟩ := Option.isSome_iff_exists.mp hob
        obtain ⟨hv, hev⟩ := ai_ob_at hfs
        obtain ⟨i1, i2, i3, i4, i5, i6, i7, i8⟩ := hI
        obtain ⟨hx, hb, hown, hwd, hK, -⟩ := X
        have he' : (ai_ws aC ad r.1 r.2.1)[_]? = _ := ai_ws_get (aC := aC) (ad := ad) (h := r.1) hi
        rw [he] at he'
        have hv' : (ai_ws aC ad r.1 r.2.1)[_]? = _ := ai_ws_get (aC := aC) (ad := ad) (h := r.1) hv
        rw [hev] at hv'
        have hlt := i8.2 _ hi
        rw [he] at hlt
        have hlt : ∀ j i, f j = some i → i < r.2.1 := hlt
        have hup : (fun q => (va_up f j.toNatClampNeg (some v) q).map ad) = va_up (fun q => (f q).map ad) j.toNatClampNeg (some (ad v)) := by
          funext q
          unfold va_up
          by_cases hq : q = j.toNatClampNeg
          · rw [if_pos hq, if_pos hq]; rfl
          · rw [if_neg hq, if_neg hq]
        have hset : (ai_ws aC ad r.1 r.2.1).set (i - 1) (ad i, .inl (aC 4, z, .inr (.inr (.inr (.inr (va_up (fun q => (f q).map ad) j.toNatClampNeg (some (ad v)))))))) = ai_ws aC ad (va_up r.1 i (.inl (4, z, .inr (.inr (.inr (.inr (va_up f j.toNatClampNeg (some v)))))))) r.2.1 := by
          rw [← ai_ws_set hi]
          simp only [ai_ca, ai_cf, hup]
        refine va_astq hx hb hK i2 i3 i4 _ 4 _ 5 (r := (RX5, TX5, 9)) he' rfl hv' rfl (ai_in_vp hin) hd (fun H1 locs1 hP1 hD1 hS1 => ?_)
        refine hG ad H1 locs1 ls ⟨i1, hset ▸ hP1, hset ▸ hD1, hS1, i5, ai_wS_t (ai_wS_t (ai_wS_t i6)), i7, ai_wH_up i8 ?_⟩
        show ∀ q w, va_up f j.toNatClampNeg (some v) q = some w → w < r.2.1
        intro q w hw
        unfold va_up at hw
        by_cases hq : q = j.toNatClampNeg
        · rw [if_pos hq] at hw
          cases hw
          exact hv.2
        · rw [if_neg hq] at hw
          exact hlt q w hw
      · cases hf
    · cases hf
  · cases hf
end Arrays
