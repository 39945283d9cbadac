/-! THE REFERENCE's answers, and the questions on the best play -/
section RA
def ownN (f : Nat → Int32) : Nat := xun (f (7 + xun (f 3)))
def othN (f : Nat → Int32) : Nat := xun (f (8 - xun (f 3)))
theorem own_lt {f : Nat → Int32} (h : gok f) : ownN f < 3 ∧ othN f < 3 ∧ xun (f 4) < 2 := by
  obtain ⟨m, hm1, _, um⟩ := gok_mover h
  have h7 := h.2.2.2.2.2.2.2.1
  have h8 := h.2.2.2.2.2.2.2.2.1
  have h4 := h.2.2.2.2.2.1
  unfold ownN othN
  rw [um]
  match m, hm1 with
  | 0, _ => exact ⟨Nat.lt_succ_of_le h7, Nat.lt_succ_of_le h8, Nat.lt_succ_of_le h4⟩
  | 1, _ => exact ⟨Nat.lt_succ_of_le h8, Nat.lt_succ_of_le h7, Nat.lt_succ_of_le h4⟩
theorem cn_now {f : Nat → Int32} (h : gok f) {mv : Nat} : cnB f (sptN f) mv = canN (xun (f 0)) (gcode f) (ownN f) (xun (f 4)) mv := by
  obtain ⟨_, s1, s2, s3, s4⟩ := spt_parts h
  unfold cnB
  rw [s1, s2, s3]
  rfl
theorem mw_now {f : Nat → Int32} (h : gok f) {mv : Nat} : mwV f (sptN f) mv = mvV f (VV f 25) (gcode f) (ownN f) (othN f) mv ∧ mwW f (sptN f) mv = mvW f (WW f 25) (gcode f) (ownN f) (othN f) mv := by
  obtain ⟨_, s1, s2, s3, s4⟩ := spt_parts h
  unfold mwV mwW
  rw [s1, s3, s4]
  exact ⟨rfl, rfl⟩
theorem gm_bit {f : Nat → Int32} (h : gok f) (h5 : f 5 = 0) {mv : Nat} (hm : mv < 21) : (gmoves f).testBit mv = cnB f (sptN f) mv := by rw [← cn_spt h h5, cn_bit hm]
end RA
