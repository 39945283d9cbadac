/-! THE PAD: what a long holds -/
section PT
def cs (n : Nat) : Nat → Nat → Nat
  | 0, k => k
  | d + 1, k => if byt n k = 0 then (if n / 256 ^ k = 0 then k else 0) else if 33 ≤ byt n k ∧ byt n k ≤ 126 then cs n d (k + 1) else 0
theorem byt_lt (n k : Nat) : byt n k < 256 := Nat.mod_lt _ (by decide)
theorem f_chars_2 {n : Nat} (hn : n < 2 ^ 64) {X : XM} : ∀ (m k : Nat), k ≤ 8 → 8 < k + m → fX2_charactersIn_2 m (lU n) (nI k) X = some (nI (cs n (8 - k) k), X) := by
  intro m
  induction m with
  | zero => intro k h1 h2; omega
  | succ m ih =>
    intro k h1 h2
    rw [fX2_charactersIn_2]
    by_cases c : k = 8
    · subst c
      rw [if_pos (show (8 : Int32) ≤ nI 8 by decide), if_pos (show nI 8 = (8 : Int32) from rfl)]
      rfl
    · have hk : k < 8 := by omega
      have ed : 8 - k = (8 - (k + 1)) + 1 := by omega
      have bl := byt_lt n k
      have e8 : 8 * nI k = nI (8 * k) := by
        match k, hk with
        | 0, _ => rfl
        | 1, _ => rfl
        | 2, _ => rfl
        | 3, _ => rfl
        | 4, _ => rfl
        | 5, _ => rfl
        | 6, _ => rfl
        | 7, _ => rfl
      rw [if_neg (show ¬ (8 : Int32) ≤ nI k by rw [show (8 : Int32) = nI 8 from rfl, nI_leI (by decide) (by omega)]; omega), f_codeIn hn hk, zi_ok, ed]
      unfold cs
      by_cases c0 : byt n k = 0
      · rw [if_pos (by rw [c0]; rfl), if_neg (show ¬ nI k = 8 from fun q => absurd (nI_inj (b := 8) (by omega) (by decide) q) (by omega)), if_pos c0, e8, lus_ok hn (by omega), pow256]
        have hq : n / 256 ^ k < 2 ^ 64 := Nat.lt_of_le_of_lt (Nat.div_le_self _ _) hn
        by_cases c1 : n / 256 ^ k = 0
        · rw [if_pos (cmp0.2 ((lU_z hq).2 c1)), if_pos c1]
        · rw [if_neg (fun q => c1 ((lU_z hq).1 (cmp0.1 q))), if_neg c1]
          rfl
      · rw [if_neg (fun q => c0 ((nI_z (by omega)).1 q)), if_neg c0, f_codeIn hn hk, zi_ok]
        by_cases c2 : byt n k < 33
        · rw [if_pos (show nI (byt n k) < 33 by rw [show (33 : Int32) = nI 33 from rfl, nI_ltI (by omega) (by decide)]; exact c2), if_neg (by omega)]
          rfl
        · rw [if_neg (show ¬ nI (byt n k) < 33 by rw [show (33 : Int32) = nI 33 from rfl, nI_ltI (by omega) (by decide)]; exact c2)]
          by_cases c3 : byt n k ≤ 126
          · rw [if_pos (show nI (byt n k) ≤ 126 by rw [show (126 : Int32) = nI 126 from rfl, nI_leI (by omega) (by decide)]; exact c3), if_pos ⟨by omega, c3⟩, nI_1]
            exact ih (k + 1) (by omega) (by omega)
          · rw [if_neg (show ¬ nI (byt n k) ≤ 126 by rw [show (126 : Int32) = nI 126 from rfl, nI_leI (by omega) (by decide)]; exact c3), if_neg (fun q => c3 q.2)]
            rfl
theorem lus8 {n k : Nat} (hn : n < 2 ^ 64) : o_lus (lU (n / 256 ^ k)) 8 = lU (n / 256 ^ (k + 1)) := by
  rw [show (8 : Int32) = nI 8 from rfl, lus_ok (Nat.lt_of_le_of_lt (Nat.div_le_self _ _) hn) (by decide), Nat.div_div_eq_div_mul, show 2 ^ 8 = 256 from rfl, ← Nat.pow_succ]
theorem top0 {n : Nat} (hn : n < 2 ^ 64) : n / 256 ^ 8 = 0 := Nat.div_eq_of_lt (by rw [show 256 ^ 8 = 2 ^ 64 from rfl]; exact hn)
theorem q_put_bad {n : Nat} (hn : n < 2 ^ 64) {x1 : Int64} {X : XM} : ∀ (m k : Nat), 1 ≤ k → k ≤ 8 → 8 < k + m → fX9_put_13 m x1 (nI k) (lU (n / 256 ^ k)) 0 X = some (-2, X) := by
  intro m
  induction m with
  | zero => intro k h0 h1 h2; omega
  | succ m ih =>
    intro k h0 h1 h2
    rw [fX9_put_13]
    have nk : ¬ nI k = 0 := fun q => absurd ((nI_z (by omega)).1 q) (by omega)
    by_cases c : (8 : Int32) ≤ nI k
    · rw [if_pos c, if_neg nk, if_pos rfl]
    · have hk : k < 8 := by
        refine Nat.lt_of_not_le fun q => c ?_
        rw [show (8 : Int32) = nI 8 from rfl, nI_leI (by decide) (by omega)]
        exact q
      rw [if_neg c, if_neg nk, if_pos rfl]
      split
      · rfl
      · rw [if_pos rfl, zl_ok, lus8 hn, nI_1]
        exact ih (k + 1) (by omega) (by omega) (by omega)
theorem q_put_ok {n : Nat} (hn : n < 2 ^ 64) {x1 : Int64} {X : XM} : ∀ (m k : Nat), k ≤ 8 → 8 < k + m → fX9_put_13 m x1 (nI k) (lU (n / 256 ^ k)) 1 X = if cs n (8 - k) k = 0 then some (-2, X) else if (X 22 2) + nI (cs n (8 - k) k) ≤ 80 then fX9_put_108 fuel x1 (nI (cs n (8 - k) k)) (lU 0) 1 0 X else some (-4, X) := by
  intro m
  induction m with
  | zero => intro k h1 h2; omega
  | succ m ih =>
    intro k h1 h2
    rw [fX9_put_13]
    have hq : n / 256 ^ k < 2 ^ 64 := Nat.lt_of_le_of_lt (Nat.div_le_self _ _) hn
    by_cases c : k = 8
    · subst c
      have nk : ¬ nI 8 = 0 := by decide
      have e8 : cs n (8 - 8) 8 = 8 := rfl
      rw [if_pos (show (8 : Int32) ≤ nI 8 by decide), if_neg nk, if_neg i10, e8, top0 hn, if_pos (cmp0.2 ((lU_z (by decide)).2 rfl)), if_neg (show ¬ (8 : Nat) = 0 by decide)]
    · have hk : k < 8 := by omega
      have ed : 8 - k = (8 - (k + 1)) + 1 := by omega
      have bl := byt_lt n k
      have ea : lU (n / 256 ^ k) &&& (255 : Int64) = lU (byt n k) := and255 hq
      rw [if_neg (show ¬ (8 : Int32) ≤ nI k by rw [show (8 : Int32) = nI 8 from rfl, nI_leI (by decide) (by omega)]; omega), ea, ed]
      unfold cs
      by_cases c0 : byt n k = 0
      · rw [if_pos (cmp0.2 ((lU_z (by omega)).2 c0)), if_pos c0, if_neg i10]
        by_cases c1 : n / 256 ^ k = 0
        · rw [if_pos (cmp0.2 ((lU_z hq).2 c1)), if_pos c1, c1]
          by_cases c2 : k = 0
          · rw [if_pos (show nI k = 0 by rw [c2]; rfl), if_pos c2]
          · rw [if_neg (show ¬ nI k = 0 from fun q => c2 ((nI_z (by omega)).1 q)), if_neg c2]
        · rw [if_neg (fun q => c1 ((lU_z hq).1 (cmp0.1 q))), if_neg c1, if_pos rfl]
          split <;> rfl
      · rw [if_neg (fun q => c0 ((lU_z (by omega)).1 (cmp0.1 q))), if_neg c0, if_neg i10, byte32 _ bl]
        by_cases c2 : 33 ≤ byt n k ∧ byt n k ≤ 126
        · rw [q_inT (show ¬ nI (byt n k) < 33 by rw [show (33 : Int32) = nI 33 from rfl, nI_ltI (by omega) (by decide)]; omega) (show ¬ 126 < nI (byt n k) by rw [show (126 : Int32) = nI 126 from rfl, nI_ltI (by decide) (by omega)]; omega), zi_ok, if_neg i10, zl_ok, lus8 hn, nI_1, if_pos c2]
          exact ih (k + 1) (by omega) (by omega)
        · rw [q_inF (show nI (byt n k) < 33 ∨ 126 < nI (byt n k) by rw [show (33 : Int32) = nI 33 from rfl, nI_ltI (by omega) (by decide), show (126 : Int32) = nI 126 from rfl, nI_ltI (by decide) (by omega)]; omega), zi_ok, if_pos rfl, zl_ok, lus8 hn, nI_1, if_neg c2, if_pos rfl]
          exact q_put_bad hn m (k + 1) (by omega) (by omega) (by omega)
end PT
