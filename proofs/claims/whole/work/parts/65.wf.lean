/-! ===== what every call leaves well ===== -/
section Wf
variable {A : zA} {x y z : Int32} {w p c k : Nat}
theorem wf_go (hA : wfA A) : wfA (A.1, dyN (aT A) (O0 (aT A) 0) k (aS A), A.2.2.1, (if k = 0 then aP A else (0, (aP A).2)), A.2.2.2.2) := by
  obtain ⟨h1, h2, h3, h4, h5, h6⟩ := hA
  refine ⟨h1, dyN_w h1 h2 k, h3, ?_, h5, h6⟩
  show wP (aT A) (dyN (aT A) (O0 (aT A) 0) k (aS A)) (if k = 0 then aP A else (0, (aP A).2))
  by_cases e : k = 0
  · rw [if_pos e, e]
    exact h4
  · rw [if_neg e]
    exact ⟨by show (0 : Nat) ≤ 20; omega, fun i hi => absurd hi (Nat.not_lt_zero i)⟩
theorem wf_undo (hA : wfA A) (h : (aP A).1 ≠ 0) : wfA (wtP (wtS A ((aP A).2 ((aP A).1 - 1))) ((aP A).1 - 1, (aP A).2)) := by
  obtain ⟨h1, h2, h3, ⟨h4, h4'⟩, h5, h6⟩ := hA
  have q := h4' ((aP A).1 - 1) (by omega)
  refine ⟨h1, q.1, h3, ⟨by show (aP A).1 - 1 ≤ 20; omega, fun i hi => ?_⟩, h5, h6⟩
  have hi' : i < (aP A).1 - 1 := hi
  have r := h4' i (by omega)
  exact ⟨r.1, r.2.1.trans q.2.1.symm, r.2.2.1.trans q.2.2.1.symm, r.2.2.2.trans q.2.2.2.symm⟩
theorem wf_keep (hA : wfA A) : wfA (wtI A (true, aS A)) := ⟨hA.1, hA.2.1, fun _ => hA.2.1, hA.2.2.2⟩
theorem wf_back (hA : wfA A) (h : (aI A).1 = true) : wfA (wtP (wtS A (aI A).2) (0, (aP A).2)) := ⟨hA.1, hA.2.2.1 h, hA.2.2.1, ⟨by show (0 : Nat) ≤ 20; omega, fun i hi => absurd hi (Nat.not_lt_zero i)⟩, hA.2.2.2.2⟩
theorem wf_carry (hA : wfA A) (h : carOk A x y) : wfA (donV A (crV (aS A) x.toNatClampNeg y.toNatClampNeg)) := by
  have h0 := hA.1.1
  obtain ⟨w, hw, ew⟩ := inR_t (by omega) h.1
  obtain ⟨p, hp, ep⟩ := inR_t (by omega) h.2.1
  have c1 : x.toNatClampNeg = w := by rw [ew]; exact nI_clamp (by omega)
  have c2 : y.toNatClampNeg = p := by rw [ep]; exact nI_clamp (by omega)
  rw [c1, c2]
  obtain ⟨g1, g2, g3, g4⟩ := hA.2.1
  refine wfP_don hA ⟨g1, g2, fun v hv => ?_, fun q hq => ?_⟩ rfl rfl rfl
  · show up2 (aS A).2.2.1 0 w p 0 v < _ ∧ up2 (aS A).2.2.1 0 w p 1 v ≤ 99
    rw [up2_g, up2_g, if_neg (show ¬ (1 = 0 ∧ v = w) by omega)]
    refine ⟨?_, (g3 v hv).2⟩
    split
    · exact hp
    · exact (g3 v hv).1
  · show up2 (aS A).2.2.1 0 w p 2 q ≤ 999
    rw [up2_g, if_neg (show ¬ (2 = 0 ∧ q = w) by omega)]
    exact g4 q hq
theorem wf_mow (hA : wfA A) (h : mowOk A x) : wfA (donV A (mwV (aS A) x.toNatClampNeg)) := by
  have h0 := hA.1.1
  obtain ⟨p, hp, ep⟩ := inR_t (by omega) h.1
  have c1 : x.toNatClampNeg = p := by rw [ep]; exact nI_clamp (by omega)
  rw [c1]
  obtain ⟨g1, g2, g3, g4⟩ := hA.2.1
  exact wfP_don hA ⟨g1, Nat.or_lt_two_pow g2 (Nat.pow_lt_pow_right (by decide) hp), g3, g4⟩ rfl rfl rfl
theorem wf_walk (hA : wfA A) (hw : w < aT A 0 2) (hp : p < aT A 0 1) : wfA (donV A (goV (aT A) (aS A) w p c)) := wfP_don hA (goV_w hA.1 hA.2.1 hw hp) (by show upd (aS A).1 1 ((aS A).1 1 + 1) 0 = _; rw [upd_ne (by omega)]) (by show upd (aS A).1 1 ((aS A).1 1 + 1) 2 = _; rw [upd_ne (by omega)]) rfl
theorem wf_strike (hA : wfA A) (h : strOk A x) : wfA (wtE A (adE (aE A) 2 0 x.toNatClampNeg 0)) := by
  have h6 := hA.2.2.2.2.2.1
  obtain ⟨j, hj, ej⟩ := inR_t (by omega) h.2
  have c1 : x.toNatClampNeg = j := by rw [ej]; exact nI_clamp (by omega)
  rw [c1]
  exact wfE_ad hA h.1 (Or.inr ⟨rfl, rfl, hj, rfl⟩)
theorem wf_see (hA : wfA A) (h : seeOk A x y z) {b : Int32} : wfA (wtE A (adE (aE A) (if b = nI 0 then 1 else 0) x.toNatClampNeg y.toNatClampNeg z.toNatClampNeg)) := by
  have h0 := hA.1.1
  obtain ⟨d, hd1, hd2, ed⟩ := wiV_t (by omega) (by omega) h.2.1
  obtain ⟨w, hw, ew⟩ := inR_t (by omega) h.2.2.1
  obtain ⟨p, hp, ep⟩ := inR_t (by omega) h.2.2.2
  have c0 : x.toNatClampNeg = d := by rw [ed]; exact nI_clamp (by omega)
  have c1 : y.toNatClampNeg = w := by rw [ew]; exact nI_clamp (by omega)
  have c2 : z.toNatClampNeg = p := by rw [ep]; exact nI_clamp (by omega)
  rw [c0, c1, c2]
  refine wfE_ad hA h.1 (Or.inl ⟨?_, hd1, hd2, hw, hp⟩)
  split <;> omega
end Wf
