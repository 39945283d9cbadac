/-! THE SIZES: of a pile, and the period -/
section SZ3
theorem op_ofPile {X : XM} (I : Base X) (S : SI X) (a1 a2 : Int32) : ∃ r X1 X2, fX8_ofPile a1 a2 X = some (r, X1) ∧ fX9_ofPile a1 a2 X1 = some (r, X2) ∧ Base X2 ∧ SI X2 ∧ K17 X X2 := by
  have e : srw X 22 (upd (X 22) 0 0) 23 = X 0 := by rw [srw_n (by decide), I.same]
  have ge : gok (srw X 22 (upd (X 22) 0 0) 23) := by rw [e]; exact I.g0
  have plain : (∃ r, fX8_ofPile a1 a2 X = some (r, X) ∧ fX9_ofPile a1 a2 X = some (r, srw X 22 (upd (X 22) 0 0))) → ∃ r X1 X2, fX8_ofPile a1 a2 X = some (r, X1) ∧ fX9_ofPile a1 a2 X1 = some (r, X2) ∧ Base X2 ∧ SI X2 ∧ K17 X X2 := by
    rintro ⟨r, p, q⟩
    refine ⟨r, X, _, p, q, (base_ask I).1, ?_, fun k a b => (base_ask I).2 k a (by omega)⟩
    unfold SI SZ
    rw [srw_n (by decide), srw_n (by decide)]; exact S
  have h4 := I.g0.2.2.2.1
  by_cases c1 : a1 < 0
  · refine plain ⟨-1, ?_, ?_⟩
    · unfold fX8_ofPile
      rw [f_hasPileN c1, zi_ok, if_pos rfl]
    · unfold fX9_ofPile
      rw [zl_ok, xup_eq, q_isPileN c1, zi_ok, if_pos rfl]
  obtain ⟨p, hp31, ep⟩ := nat_of c1
  by_cases c2 : p < xun (X 0 2)
  · have hp : p < 4 := by omega
    have hP := I.g0.2.2.2.2.2.2.2.2.2.1 p hp
    have cls : fX8_ofPile a1 a2 X = if a2 = 0 then some (X 0 (11 + 4 * p), X) else if a2 = 1 then some (X 0 (12 + 4 * p), X) else if a2 = 2 then (if X 0 (13 + 4 * p) = 0 then some (0, X) else some (1, X)) else if a2 = 3 then some (X 0 (14 + 4 * p), X) else if a2 = 4 then zi (fX5_nimber (X 0 0) (X 0 (11 + 4 * p)) X) (fun r Y => some (r, Y)) else some (-2, X) := by
      unfold fX8_ofPile
      rw [f_hasPile I.g0 ep hp31, if_pos c2, zi_ok, if_neg i10, ep, zd_ok (vp_in_nI hp (by decide)), nI_clampN (by omega)]
    have ref : ∀ Y : XM, Y 23 = X 0 → fX9_ofPile a1 a2 Y = if a2 = 4 then zi (fX9_of a1 0 (srw Y 22 (upd (Y 22) 0 0))) (fun r_16 X_15 => zi (fX9_grundyOf r_16 X_15) (fun r_19 X_18 => some (r_19, X_18))) else zi (fX9_in a2 0 3 (srw Y 22 (upd (Y 22) 0 0))) (fun r_9 X_8 => if r_9 = 0 then some ((-2), X_8) else zi (fX9_of a1 a2 X_8) (fun r_13 X_12 => some (r_13, X_12))) := by
      intro Y hy
      have ey : srw Y 22 (upd (Y 22) 0 0) 23 = X 0 := by rw [srw_n (by decide), hy]
      unfold fX9_ofPile
      rw [zl_ok, xup_eq, q_isPile (by rw [ey]; exact I.g0) ep hp31, ey, if_pos c2, zi_ok, if_neg i10]
    by_cases d4 : a2 = 4
    · have e00 : X 0 0 = nI (xun (X 0 0)) := (nI_xun _).symm
      have eT : X 0 (11 + 4 * p) = nI (gT (X 0) p) := (nI_xun _).symm
      have hT := gT_le I.g0 hp
      obtain ⟨Y, hY, hr, hs⟩ := f_nimber I.g0.1 (by have := I.g0.2.1; omega) S e00 eT (by omega)
      have y23 : srw Y 22 (upd (Y 22) 0 0) 23 = X 0 := by rw [srw_n (by decide), hr 23 (by decide) (by decide), I.same]
      obtain ⟨Z, hZ, zr⟩ := q_grundyOf (X := srw Y 22 (upd (Y 22) 0 0)) (by rw [y23]; exact I.g0) eT (by omega)
      rw [y23] at hZ
      refine ⟨nI (gr (xun (X 0 0)) (gT (X 0) p)), Y, Z, ?_, ?_, base_aux I (fun r a b => ?_) ?_ ?_, ?_, fun r a b => ?_⟩
      · rw [cls, if_neg (by rw [d4]; decide), if_neg (by rw [d4]; decide), if_neg (by rw [d4]; decide), if_neg (by rw [d4]; decide), if_pos d4, hY, zi_ok]
      · rw [ref Y (by rw [hr 23 (by decide) (by decide), I.same]), if_pos d4, q_of ep (show (0 : Int32) = nI 0 from rfl) hp (by decide), zi_ok, y23]
        rw [show X 0 (11 + 4 * p + 0) = X 0 (11 + 4 * p) from rfl, hZ, zi_ok]
      · rw [zr r (by omega), srw_n a, hr r (by omega) (by omega)]
      · rw [zr 22 (by decide), srw_s, hr 22 (by decide) (by decide)]; rfl
      · rw [zr 22 (by decide), srw_s, hr 22 (by decide) (by decide)]; rfl
      · refine Or.inr ⟨_, I.g0.1, by have := I.g0.2.1; omega, ?_⟩
        unfold SZ
        rw [zr 18 (by decide), zr 19 (by decide), srw_n (by decide), srw_n (by decide)]
        exact hs
      · rw [zr r (by omega), srw_n (by omega), hr r (by omega) (by omega)]
    · refine plain ?_
      rw [ref X I.same, if_neg d4, cls]
      by_cases d0 : a2 = 0
      · refine ⟨X 0 (11 + 4 * p), by rw [if_pos d0], ?_⟩
        rw [d0, q_inT (by decide) (by decide), zi_ok, if_neg i10, q_of ep (show (0 : Int32) = nI 0 from rfl) hp (by decide), zi_ok, e]
        rfl
      rw [if_neg d0]
      by_cases d1 : a2 = 1
      · refine ⟨X 0 (12 + 4 * p), by rw [if_pos d1], ?_⟩
        rw [d1, q_inT (by decide) (by decide), zi_ok, if_neg i10, q_of ep (show (1 : Int32) = nI 1 from rfl) hp (by decide), zi_ok, e, show 11 + 4 * p + 1 = 12 + 4 * p by omega]
      rw [if_neg d1]
      by_cases d2 : a2 = 2
      · refine ⟨X 0 (13 + 4 * p), by rw [if_pos d2, flag_ok (b01 hP.2.2.1)], ?_⟩
        rw [d2, q_inT (by decide) (by decide), zi_ok, if_neg i10, q_of ep (show (2 : Int32) = nI 2 from rfl) hp (by decide), zi_ok, e, show 11 + 4 * p + 2 = 13 + 4 * p by omega]
      rw [if_neg d2]
      by_cases d3 : a2 = 3
      · refine ⟨X 0 (14 + 4 * p), by rw [if_pos d3], ?_⟩
        rw [d3, q_inT (by decide) (by decide), zi_ok, if_neg i10, q_of ep (show (3 : Int32) = nI 3 from rfl) hp (by decide), zi_ok, e, show 11 + 4 * p + 3 = 14 + 4 * p by omega]
      rw [if_neg d3, if_neg d4]
      have c7 : a2 < 0 ∨ 3 < a2 := by
        by_cases p1 : a2 < 0
        · exact Or.inl p1
        · by_cases p2 : 3 < a2
          · exact Or.inr p2
          · have b := rng (x := a2) (lo := 0) (hi := 3) (by decide) (by decide) p1 p2
            have ea : a2 = nI (xun a2) := (nI_xun _).symm
            generalize xun a2 = t at *
            match t, b.2 with
            | 0, _ => exact absurd ea d0
            | 1, _ => exact absurd ea d1
            | 2, _ => exact absurd ea d2
            | 3, _ => exact absurd ea d3
      exact ⟨-2, rfl, by rw [q_inF c7, zi_ok, if_pos rfl]⟩
  · refine plain ⟨-1, ?_, ?_⟩
    · unfold fX8_ofPile
      rw [f_hasPile I.g0 ep hp31, if_neg c2, zi_ok, if_pos rfl]
    · unfold fX9_ofPile
      rw [zl_ok, xup_eq, q_isPile ge ep hp31, e, if_neg c2, zi_ok, if_pos rfl]
def rep (tk p : Nat) : Nat → Nat
  | 0 => 0
  | x + 1 => if gr tk x = gr tk (x + p) then rep tk p x else x + 1
theorem rep_le (tk p : Nat) : ∀ x, rep tk p x ≤ x := by
  intro x
  induction x with
  | zero => exact Nat.le_refl _
  | succ x ih =>
    unfold rep
    split
    · omega
    · exact Nat.le_refl _
theorem gr_lt (tk x : Nat) : gr tk x < 2 ^ 32 := by
  have := gtab_le tk 201 x
  unfold gr
  omega
theorem dec1 {x : Nat} : nI (x + 1) + (-1) = nI x := by
  rw [← Int32.sub_eq_add_neg, ← nI_add]
  exact Int32.add_sub_cancel _ _
theorem f_rep {tk p : Nat} (hp : 1 ≤ p) {X : XM} (h : SZ tk X) : ∀ (m x : Nat), x + p ≤ 201 → x < m → fX5_repeatsFrom_13 m (nI tk) (nI p) (nI x) X = some (nI (rep tk p x), X) := by
  intro m
  induction m with
  | zero => intro x h1 h2; omega
  | succ m ih =>
    intro x h1 h2
    rw [fX5_repeatsFrom_13]
    match x, h1, h2 with
    | 0, _, _ => rw [if_pos (show nI 0 ≤ (0 : Int32) by decide)]; rfl
    | x + 1, h1, h2 =>
      have e1 : nI (x + 1) - 1 = nI x := by rw [show (1 : Int32) = nI 1 from rfl, nI_sub (by omega)]; rfl
      rw [if_neg (show ¬ nI (x + 1) ≤ 0 by rw [nI_le0 (by omega)]; omega), e1, nI_add, f_nimbered h (by omega), zi_ok, f_nimbered h (by omega), zi_ok, dec1]
      unfold rep
      by_cases c : gr tk x = gr tk (x + p)
      · rw [if_pos (by rw [c]), if_pos c]
        exact ih x (by omega) (by omega)
      · rw [if_neg (fun q => c (nI_inj (gr_lt _ _) (gr_lt _ _) q)), if_neg c]
theorem q_rep {tk p : Nat} (hp : 1 ≤ p) {X : XM} (h : ∀ k, k < 201 → X 31 k = nI (gr tk k)) : ∀ (m x : Nat), x + p ≤ 201 → x < m → fX9_firstSize_8 m (nI p) (nI x) X = some (nI (rep tk p x), X) := by
  intro m
  induction m with
  | zero => intro x h1 h2; omega
  | succ m ih =>
    intro x h1 h2
    rw [fX9_firstSize_8]
    match x, h1, h2 with
    | 0, _, _ => rw [if_pos (show nI 0 ≤ (0 : Int32) by decide)]; rfl
    | x + 1, h1, h2 =>
      have e1 : nI (x + 1) - 1 = nI x := by rw [show (1 : Int32) = nI 1 from rfl, nI_sub (by omega)]; rfl
      rw [if_neg (show ¬ nI (x + 1) ≤ 0 by rw [nI_le0 (by omega)]; omega), e1, nI_add, zd_ok (vp_in_nI (by omega) (by decide)), zd_ok (vp_in_nI (by omega) (by decide)), nI_clampN (by omega), nI_clampN (by omega), h x (by omega), h (x + p) (by omega), dec1]
      unfold rep
      by_cases c : gr tk x = gr tk (x + p)
      · rw [if_pos (by rw [c]), if_pos c]
        exact ih x (by omega) (by omega)
      · rw [if_neg (fun q => c (nI_inj (gr_lt _ _) (gr_lt _ _) q)), if_neg c]
theorem f_repeats {tk p : Nat} (h1 : 1 ≤ tk) (htk : tk < 32) (hp : 1 ≤ p) (hp2 : p ≤ 100) {X : XM} (I : SI X) : ∃ Y, fX5_repeatsFrom (nI tk) (nI p) X = some (nI (rep tk p (201 - p)), Y) ∧ (∀ r, r ≠ 18 → r ≠ 19 → Y r = X r) ∧ SZ tk Y := by
  obtain ⟨Y, hY, hr, hs⟩ := f_learn h1 htk I
  refine ⟨Y, ?_, hr, hs⟩
  have hf := fuel_ge
  unfold fX5_repeatsFrom
  rw [hY, zv_ok, zl_ok, show (201 : Int32) = nI 201 from rfl, nI_sub (by omega), f_rep hp hs fuel (201 - p) (by omega) (by omega)]
theorem q_first {tk p : Nat} (hp : 1 ≤ p) (hp2 : p ≤ 100) {X : XM} (h : ∀ k, k < 201 → X 31 k = nI (gr tk k)) : fX9_firstSize (nI p) X = some (nI (rep tk p (201 - p)), X) := by
  have hf := fuel_ge
  unfold fX9_firstSize
  rw [zl_ok, show (200 : Int32) = nI 200 from rfl, nI_sub (by omega), nI_1, show 200 - p + 1 = 201 - p by omega, q_rep hp h fuel (201 - p) (by omega) (by omega)]
theorem per_pair {tk : Nat} (h1 : 1 ≤ tk) (htk : tk < 32) {a : Int32} {Z : XM} (hZ : ∀ k, k < 201 → Z 31 k = nI (gr tk k)) : ∀ (m p : Nat) (X : XM), X 0 0 = nI tk → SI X → 1 ≤ p → p ≤ 101 → 101 < p + m → ∃ r Y, fX8_period_14 m a (nI p) X = some (r, Y) ∧ (∀ q, q ≠ 18 → q ≠ 19 → Y q = X q) ∧ SI Y ∧ fX9_period_23 m a (nI p) Z = some (r, Z) := by
  intro m
  induction m with
  | zero => intro p X h0 I hp hp2 hm; omega
  | succ m ih =>
    intro p X h0 I hp hp2 hm
    rw [fX8_period_14, fX9_period_23]
    by_cases c : p = 101
    · rw [if_pos (show (100 : Int32) < nI p by rw [c]; decide), if_pos (show (100 : Int32) < nI p by rw [c]; decide)]
      exact ⟨_, X, rfl, fun _ _ _ => rfl, I, rfl⟩
    · have hn : ¬ (100 : Int32) < nI p := by rw [show (100 : Int32) = nI 100 from rfl, nI_ltI (by decide) (by omega)]; omega
      obtain ⟨Y, hY, hr, hs⟩ := f_repeats h1 htk hp (by omega) I
      have SY : SI Y := Or.inr ⟨tk, h1, htk, hs⟩
      rw [if_neg hn, if_neg hn, h0, hY, zi_ok, q_first hp (by omega) hZ, zi_ok]
      by_cases d : (100 : Int32) < nI (rep tk p (201 - p)) + nI p
      · rw [if_pos d, if_pos d, nI_1]
        obtain ⟨r, V, a1, a2, a3, a4⟩ := ih (p + 1) Y (by rw [hr 0 (by decide) (by decide)]; exact h0) SY (by omega) (by omega) (by omega)
        exact ⟨r, V, a1, fun q b1 b2 => by rw [a2 q b1 b2, hr q b1 b2], a3, a4⟩
      · rw [if_neg d, if_neg d]
        by_cases e : a = 0
        · rw [if_pos e, if_pos e]
          exact ⟨_, Y, rfl, hr, SY, rfl⟩
        · rw [if_neg e, if_neg e]
          exact ⟨_, Y, rfl, hr, SY, rfl⟩
end SZ3
