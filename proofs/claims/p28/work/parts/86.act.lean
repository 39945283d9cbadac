/-! THE LAW's own methods: act -/
section AC8
theorem lowOK {a b : Int32} (hb : ¬ b = 0) {X : XM} : fL_low a b X = some (o_rem (a &&& 2147483647) b, X) := by
  unfold fL_low
  rw [zz_ok hb]
theorem zi_id {x : Option (Int32 × XM)} : zi x (fun r X => some (r, X)) = x := by
  cases x <;> rfl
theorem OpOK.of_eq {k k' : XM → Option (Int32 × XM)} {f g : Nat → Int32} {r : Int32} {f' : Nat → Int32} (h : OpOK k f g r f') (e : ∀ X n C, PS X f n C g → k' X = k X) : OpOK k' f g r f' :=
  ⟨h.1, h.2.1, fun X n C P => by rw [e X n C P]; exact h.2.2 X n C P⟩
theorem and1 (w : Int32) : w &&& 1 = 0 ∨ w &&& 1 = 1 := by
  have h1 : nI (xun w) &&& 1 = nI (xun w % 2) := fa_mask (xun w) 1
  rw [nI_xun] at h1
  rw [h1]
  have : xun w % 2 < 2 := Nat.mod_lt _ (by decide)
  match xun w % 2, this with
  | 0, _ => exact Or.inl rfl
  | 1, _ => exact Or.inr rfl
theorem n_one {f : Nat → Int32} (h : gk f) : ¬ f 2 + 1 = 0 := by
  have h4 := h.1.2.2.2.1
  rw [← nI_xun (f 2), nI_1, nI_z (by omega)]
  omega
def ActOK (v w : Int32) (f g : Nat → Int32) (r : Int32) (f' : Nat → Int32) : Prop := OpOK (fL_act v w) f g r f' ∧ (v &&& 15 = 8 → ¬ r < 0 → f' = g)
theorem act_ok {f g : Nat → Int32} (hf : gk f) (hg : gk g) (v w : Int32) : ∃ r f', ActOK v w f g r f' := by
  have n1 := n_one hf
  have n3 : ¬ (3 : Int32) = 0 := by decide
  have n4 : ¬ (4 : Int32) = 0 := by decide
  have n5 : ¬ (5 : Int32) = 0 := by decide
  have n6 : ¬ (6 : Int32) = 0 := by decide
  have n7 : ¬ (7 : Int32) = 0 := by decide
  have n11 : ¬ (11 : Int32) = 0 := by decide
  have n40 : ¬ (40 : Int32) = 0 := by decide
  have n42 : ¬ (42 : Int32) = 0 := by decide
  by_cases c0 : v &&& 15 = 0
  · by_cases d : o_shr w 20 &&& 7 = 0
    · by_cases e : o_shr w 7 &&& 3 = 0
      · obtain ⟨r, f', h⟩ := o_pile g hf (o_rem (w &&& 2147483647) 7) (o_rem (o_shr w 3 &&& 2147483647) 11) 1
        refine ⟨r, f', h.of_eq (fun X n C P => ?_), fun q => absurd (c0.symm.trans q) (by decide)⟩
        unfold fL_act
        rw [c_0 P, zi_ok, lowOK n1, zi_ok, if_pos c0, if_pos d, lowOK n7, zi_ok, lowOK n11, zi_ok, if_pos e, zi_id]
      · obtain ⟨r, f', h⟩ := o_pile g hf (o_rem (w &&& 2147483647) 7) (o_rem (o_shr w 3 &&& 2147483647) 11) 0
        refine ⟨r, f', h.of_eq (fun X n C P => ?_), fun q => absurd (c0.symm.trans q) (by decide)⟩
        unfold fL_act
        rw [c_0 P, zi_ok, lowOK n1, zi_ok, if_pos c0, if_pos d, lowOK n7, zi_ok, lowOK n11, zi_ok, if_neg e, zi_id]
    · by_cases e : o_shr w 7 &&& 3 = 0
      · obtain ⟨r, f', h⟩ := o_pile g hf (o_rem (w &&& 2147483647) 6) (o_rem (o_shr w 3 &&& 2147483647) 11) 1
        refine ⟨r, f', h.of_eq (fun X n C P => ?_), fun q => absurd (c0.symm.trans q) (by decide)⟩
        unfold fL_act
        rw [c_0 P, zi_ok, lowOK n1, zi_ok, if_pos c0, if_neg d, lowOK n6, zi_ok, lowOK n11, zi_ok, if_pos e, zi_id]
      · obtain ⟨r, f', h⟩ := o_pile g hf (o_rem (w &&& 2147483647) 6) (o_rem (o_shr w 3 &&& 2147483647) 11) 0
        refine ⟨r, f', h.of_eq (fun X n C P => ?_), fun q => absurd (c0.symm.trans q) (by decide)⟩
        unfold fL_act
        rw [c_0 P, zi_ok, lowOK n1, zi_ok, if_pos c0, if_neg d, lowOK n6, zi_ok, lowOK n11, zi_ok, if_neg e, zi_id]
  by_cases c1 : v &&& 15 = 1
  · by_cases d : o_shr w 20 &&& 7 = 0
    · by_cases e : o_shr w 7 &&& 3 = 0
      · obtain ⟨r, f', h⟩ := o_pile g hf (o_rem (w &&& 2147483647) 7) (o_rem (o_shr w 3 &&& 2147483647) 11) 1
        refine ⟨r, f', h.of_eq (fun X n C P => ?_), fun q => absurd (c1.symm.trans q) (by decide)⟩
        unfold fL_act
        rw [c_0 P, zi_ok, lowOK n1, zi_ok, if_neg c0, if_pos c1, if_pos d, lowOK n7, zi_ok, lowOK n11, zi_ok, if_pos e, zi_id]
      · obtain ⟨r, f', h⟩ := o_pile g hf (o_rem (w &&& 2147483647) 7) (o_rem (o_shr w 3 &&& 2147483647) 11) 0
        refine ⟨r, f', h.of_eq (fun X n C P => ?_), fun q => absurd (c1.symm.trans q) (by decide)⟩
        unfold fL_act
        rw [c_0 P, zi_ok, lowOK n1, zi_ok, if_neg c0, if_pos c1, if_pos d, lowOK n7, zi_ok, lowOK n11, zi_ok, if_neg e, zi_id]
    · by_cases e : o_shr w 7 &&& 3 = 0
      · obtain ⟨r, f', h⟩ := o_pile g hf (o_rem (w &&& 2147483647) 6) (o_rem (o_shr w 3 &&& 2147483647) 11) 1
        refine ⟨r, f', h.of_eq (fun X n C P => ?_), fun q => absurd (c1.symm.trans q) (by decide)⟩
        unfold fL_act
        rw [c_0 P, zi_ok, lowOK n1, zi_ok, if_neg c0, if_pos c1, if_neg d, lowOK n6, zi_ok, lowOK n11, zi_ok, if_pos e, zi_id]
      · obtain ⟨r, f', h⟩ := o_pile g hf (o_rem (w &&& 2147483647) 6) (o_rem (o_shr w 3 &&& 2147483647) 11) 0
        refine ⟨r, f', h.of_eq (fun X n C P => ?_), fun q => absurd (c1.symm.trans q) (by decide)⟩
        unfold fL_act
        rw [c_0 P, zi_ok, lowOK n1, zi_ok, if_neg c0, if_pos c1, if_neg d, lowOK n6, zi_ok, lowOK n11, zi_ok, if_neg e, zi_id]
  by_cases c2 : v &&& 15 = 2
  · obtain ⟨r, f', h⟩ := o_set g hf (o_rem (w &&& 2147483647) 3) (o_rem (o_shr w 2 &&& 2147483647) 40)
    refine ⟨r, f', h.of_eq (fun X n C P => ?_), fun q => absurd (c2.symm.trans q) (by decide)⟩
    unfold fL_act
    rw [c_0 P, zi_ok, lowOK n1, zi_ok, if_neg c0, if_neg c1, if_pos c2, lowOK n3, zi_ok, lowOK n40, zi_ok, zi_id]
  by_cases c3 : v &&& 15 = 3
  · obtain ⟨r, f', h⟩ := o_passes g hf (o_rem (w &&& 2147483647) 4) (o_rem (o_shr w 2 &&& 2147483647) 3)
    refine ⟨r, f', h.of_eq (fun X n C P => ?_), fun q => absurd (c3.symm.trans q) (by decide)⟩
    unfold fL_act
    rw [c_0 P, zi_ok, lowOK n1, zi_ok, if_neg c0, if_neg c1, if_neg c2, if_pos c3, lowOK n4, zi_ok, lowOK n3, zi_ok, zi_id]
  by_cases c4 : v &&& 15 = 4
  · obtain ⟨r, f', h⟩ := o_begin g hf
    refine ⟨r, f', h.of_eq (fun X n C P => ?_), fun q => absurd (c4.symm.trans q) (by decide)⟩
    unfold fL_act
    rw [c_0 P, zi_ok, lowOK n1, zi_ok, if_neg c0, if_neg c1, if_neg c2, if_neg c3, if_pos c4, zi_id]
  by_cases c5 : v &&& 15 = 5
  · obtain ⟨r, f', h⟩ := o_pass g hf
    refine ⟨r, f', h.of_eq (fun X n C P => ?_), fun q => absurd (c5.symm.trans q) (by decide)⟩
    unfold fL_act
    rw [c_0 P, zi_ok, lowOK n1, zi_ok, if_neg c0, if_neg c1, if_neg c2, if_neg c3, if_neg c4, if_pos c5, zi_id]
  by_cases c6 : v &&& 15 = 6
  · obtain ⟨r, f', h⟩ := o_pass g hf
    refine ⟨r, f', h.of_eq (fun X n C P => ?_), fun q => absurd (c6.symm.trans q) (by decide)⟩
    unfold fL_act
    rw [c_0 P, zi_ok, lowOK n1, zi_ok, if_neg c0, if_neg c1, if_neg c2, if_neg c3, if_neg c4, if_neg c5, if_pos c6, zi_id]
  by_cases c7 : v &&& 15 = 7
  · by_cases d : o_shr w 20 &&& 1 = 0
    · obtain ⟨r, f', h⟩ := o_play g hf (o_rem (w &&& 2147483647) 4)
      refine ⟨r, f', h.of_eq (fun X n C P => ?_), fun q => absurd (c7.symm.trans q) (by decide)⟩
      unfold fL_act
      rw [c_0 P, zi_ok, lowOK n1, zi_ok, if_neg c0, if_neg c1, if_neg c2, if_neg c3, if_neg c4, if_neg c5, if_neg c6, if_pos c7, if_pos d, lowOK n4, zi_ok, zi_id]
    · obtain ⟨r, f', h⟩ := o_play g hf (o_rem (w &&& 2147483647) 42)
      refine ⟨r, f', h.of_eq (fun X n C P => ?_), fun q => absurd (c7.symm.trans q) (by decide)⟩
      unfold fL_act
      rw [c_0 P, zi_ok, lowOK n1, zi_ok, if_neg c0, if_neg c1, if_neg c2, if_neg c3, if_neg c4, if_neg c5, if_neg c6, if_pos c7, if_neg d, lowOK n42, zi_ok, zi_id]
  by_cases c8 : v &&& 15 = 8
  · rcases and1 w with d | d
    · refine ⟨nI (gsum g), g, (o_restore0 hg : OpOK _ _ _ _ _).of_eq (fun X n C P => ?_), fun _ _ => rfl⟩
      unfold fL_act
      rw [c_0 P, zi_ok, lowOK n1, zi_ok, if_neg c0, if_neg c1, if_neg c2, if_neg c3, if_neg c4, if_neg c5, if_neg c6, if_neg c7, if_pos c8, d, zi_id]
    · refine ⟨-5, f, (o_restore1 g hf : OpOK _ _ _ _ _).of_eq (fun X n C P => ?_), fun _ q => absurd (show (-5 : Int32) < 0 by decide) q⟩
      unfold fL_act
      rw [c_0 P, zi_ok, lowOK n1, zi_ok, if_neg c0, if_neg c1, if_neg c2, if_neg c3, if_neg c4, if_neg c5, if_neg c6, if_neg c7, if_pos c8, d, zi_id]
  obtain ⟨r, f', h⟩ := o_take g hf (o_rem (o_shr v 4 &&& 2147483647) (f 2 + 1)) (o_rem (w &&& 2147483647) 5)
  refine ⟨r, f', h.of_eq (fun X n C P => ?_), fun q => absurd q c8⟩
  unfold fL_act
  rw [c_0 P, zi_ok, lowOK n1, zi_ok, if_neg c0, if_neg c1, if_neg c2, if_neg c3, if_neg c4, if_neg c5, if_neg c6, if_neg c7, if_neg c8, lowOK n5, zi_ok, zi_id]
end AC8
