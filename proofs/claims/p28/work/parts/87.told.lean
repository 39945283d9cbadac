/-! THE LAW's own methods: told; it hangs on the game alone -/
section TO8
def TOK (k : XM → Option (Int64 × XM)) (f : Nat → Int32) : Prop := ∃ t : Int64, ∀ X n C g, PS X f n C g → ∃ Y, k X = some (t, Y) ∧ PS Y f n C g
theorem le_nI {a b : Nat} (ha : a < 2 ^ 31) (hb : b < 2 ^ 31) : nI a ≤ nI b ↔ a ≤ b := nI_leI ha hb
theorem told_80 {f : Nat → Int32} : ∀ (m i : Nat) (h : Int64), i ≤ 6 → 6 < i + m → TOK (fL_told_80 m h (nI i)) f := by
  intro m
  induction m with
  | zero => intro i h h1 h2; omega
  | succ m ih =>
    intro i h h1 h2
    by_cases c : 6 ≤ i
    · refine ⟨((31 : Int64) * h) + (Int32.toInt64 (nI (gmoves f))), fun X n C g P => ⟨X, ?_, P⟩⟩
      rw [fL_told_80, if_pos (show (6 : Int32) ≤ nI i from (le_nI (a := 6) (by decide) (by omega)).2 c), a_moves P, zi_ok]
    · obtain ⟨v, hv⟩ := t_ofPlayer f (nI i / 3) (o_rem (nI i) 3)
      obtain ⟨t, ht⟩ := ih (i + 1) (((31 : Int64) * h) + (Int32.toInt64 v)) (by omega) (by omega)
      refine ⟨t, fun X n C g P => ?_⟩
      rw [fL_told_80, if_neg (show ¬ (6 : Int32) ≤ nI i from fun q => c ((le_nI (a := 6) (by decide) (by omega)).1 q)), hv X n C g P, zi_ok, zl_ok, nI_1]
      exact ht X n C g P
theorem told_45 {f : Nat → Int32} (hf : gk f) {k33 : Int64 → Int32 → XM → Option (Int64 × XM)} {p : Nat} (hk : ∀ h, TOK (k33 h (nI (p + 1))) f) : ∀ (m j : Nat) (h : Int64), j ≤ 5 → 5 < j + m → TOK (fL_told_45 k33 m h (nI p) (nI j)) f := by
  intro m
  induction m with
  | zero => intro j h h1 h2; omega
  | succ m ih =>
    intro j h h1 h2
    by_cases c : 5 ≤ j
    · obtain ⟨t, ht⟩ := hk h
      refine ⟨t, fun X n C g P => ?_⟩
      rw [fL_told_45, if_pos (show (5 : Int32) ≤ nI j from (le_nI (a := 5) (by decide) (by omega)).2 c), nI_1]
      exact ht X n C g P
    · obtain ⟨v, hv⟩ := t_ofPile hf (nI p) (nI j)
      obtain ⟨t, ht⟩ := ih (j + 1) (((31 : Int64) * h) + (Int32.toInt64 v)) (by omega) (by omega)
      refine ⟨t, fun X n C g P => ?_⟩
      obtain ⟨Y, y1, y2⟩ := hv X n C g P
      rw [fL_told_45, if_neg (show ¬ (5 : Int32) ≤ nI j from fun q => c ((le_nI (a := 5) (by decide) (by omega)).1 q)), y1, zi_ok, zl_ok, nI_1]
      exact ht Y n C g y2
theorem told_33 {f : Nat → Int32} (hf : gk f) : ∀ (m p : Nat) (h : Int64), p ≤ xun (f 2) → xun (f 2) < p + m → TOK (fL_told_33 m h (nI p)) f := by
  have h4 := hf.1.2.2.2.1
  have hfu := fuel_ge
  intro m
  induction m with
  | zero => intro p h h1 h2; omega
  | succ m ih =>
    intro p h h1 h2
    have e2 : f 2 = nI (xun (f 2)) := (nI_xun _).symm
    by_cases c : xun (f 2) ≤ p
    · obtain ⟨t, ht⟩ := told_80 (f := f) fuel 0 h (by decide) (by omega)
      refine ⟨t, fun X n C g P => ?_⟩
      rw [fL_told_33, c_0 P, zi_ok, if_pos (show f 2 ≤ nI p by rw [e2]; exact (le_nI (by omega) (by omega)).2 c)]
      exact ht X n C g P
    · obtain ⟨t, ht⟩ := told_45 hf (k33 := fL_told_33 m) (p := p) (fun h => ih (p + 1) h (by omega) (by omega)) fuel 0 h (by decide) (by omega)
      refine ⟨t, fun X n C g P => ?_⟩
      rw [fL_told_33, c_0 P, zi_ok, if_neg (show ¬ f 2 ≤ nI p by rw [e2]; exact fun q => c ((le_nI (by omega) (by omega)).1 q))]
      exact ht X n C g P
theorem told_6 {f : Nat → Int32} (hf : gk f) : ∀ (m i : Nat) (h : Int64), i ≤ 9 → 9 < i + m → TOK (fL_told_6 m h (nI i)) f := by
  have hfu := fuel_ge
  have h4 := hf.1.2.2.2.1
  intro m
  induction m with
  | zero => intro i h h1 h2; omega
  | succ m ih =>
    intro i h h1 h2
    by_cases c : 9 ≤ i
    · obtain ⟨t, ht⟩ := told_33 hf fuel 0 h (by omega) (by omega)
      refine ⟨t, fun X n C g P => ?_⟩
      rw [fL_told_6, if_pos (show (9 : Int32) ≤ nI i from (le_nI (a := 9) (by decide) (by omega)).2 c)]
      exact ht X n C g P
    · obtain ⟨v, hv⟩ := t_count f (i := i) (by omega)
      obtain ⟨t, ht⟩ := ih (i + 1) (((31 : Int64) * h) + (Int32.toInt64 v)) (by omega) (by omega)
      refine ⟨t, fun X n C g P => ?_⟩
      rw [fL_told_6, if_neg (show ¬ (9 : Int32) ≤ nI i from fun q => c ((le_nI (a := 9) (by decide) (by omega)).1 q)), hv X n C g P, zi_ok, zl_ok, nI_1]
      exact ht X n C g P
theorem told_ok {f : Nat → Int32} (hf : gk f) : TOK fL_told f := by
  obtain ⟨t, ht⟩ := told_6 hf fuel 0 3 (by decide) (by have := fuel_ge; omega)
  refine ⟨t, fun X n C g P => ?_⟩
  unfold fL_told
  rw [zl_ok, show (0 : Int32) = nI 0 from rfl]
  exact ht X n C g P
end TO8
