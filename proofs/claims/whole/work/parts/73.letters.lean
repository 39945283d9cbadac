/-! THE PAD: reading one character -/
section LT
/-- the pad holds the characters c 0 .. c (len - 1), in the class and in the reference -/
def PD1 (X : XM) (len : Nat) (c : Nat → Nat) : Prop := len ≤ 80 ∧ X 20 0 = nI len ∧ X 22 2 = nI len ∧ ∀ i, i < len → 33 ≤ c i ∧ c i ≤ 126 ∧ X 21 i = nI (c i) ∧ X 28 i = nI (c i)
theorem pad_chars {X : XM} (I : Base X) : ∃ len c, PD1 X len c := by
  obtain ⟨len, l1, l2, l3, l4⟩ := I.pad
  refine ⟨len, fun i => xun (X 21 i), l1, l2, l3, fun i hi => ?_⟩
  obtain ⟨v, a, b, e1, e2⟩ := l4 i hi
  have : xun (X 21 i) = v := by rw [e1]; exact xun_nI (by omega)
  show 33 ≤ xun (X 21 i) ∧ xun (X 21 i) ≤ 126 ∧ X 21 i = nI (xun (X 21 i)) ∧ X 28 i = nI (xun (X 21 i))
  rw [this]
  exact ⟨a, b, e1, e2⟩
theorem q_letter {X : XM} {len i : Nat} {c : Nat → Nat} (h : PD1 X len c) (h3 : X 22 3 = nI i) (hi : i < 2 ^ 31) : fX9_letter X = some (if i < len then nI (c i) else 0, X) := by
  obtain ⟨l1, l2, l3, l4⟩ := h
  unfold fX9_letter
  rw [l3, h3]
  by_cases d : i < len
  · rw [if_neg (by rw [nI_leI (by omega) (by omega)]; omega), zd_ok (vp_in_nI (by omega) (by decide)), nI_clampN (by omega), if_pos d, (l4 i d).2.2.2]
  · rw [if_pos (by rw [nI_leI (by omega) (by omega)]; omega), if_neg d]
theorem zc_ok : ∀ v, v < 128 → (nI v).toUInt32.toUInt16.toUInt32.toInt32 = nI v := by decide +kernel
theorem f_at {X : XM} {len i : Nat} {c : Nat → Nat} (h : PD1 X len c) {a : Int32} (ha : a = nI i) (hi : i < 2 ^ 31) : fX2_at a X = some (nI (if i < len then c i else 59), X) := by
  obtain ⟨l1, l2, l3, l4⟩ := h
  unfold fX2_at
  rw [ha, if_neg (nI_pos hi), l2]
  by_cases d : i < len
  · have g := l4 i d
    rw [if_neg (by rw [nI_leI (by omega) (by omega)]; omega), if_pos (show nI i < 80 by rw [show (80 : Int32) = nI 80 from rfl, nI_ltI (by omega) (by decide)]; omega), zd_ok (vp_in_nI (by omega) (by decide)), nI_clampN (by omega), if_pos d, g.2.2.1]
    unfold zc
    rw [if_pos (zc_ok _ (by omega))]
  · rw [if_pos (by rw [nI_leI (by omega) (by omega)]; omega), if_neg d]
    rfl
end LT
