/-! THE SIZES: the reference's side, and the three operations -/
section SZ2
theorem q_lay56 {k2 : Int32 → XM → Option XM} {a m : Nat} (ha : a ≤ 200) (hm : m < 63) {X : XM} : ∀ (n i : Nat), i ≤ 5 → 5 < i + n → (∀ j, j < i → m.testBit j = true) → fX9_laysGrundies_56 k2 n (nI a) (nI m) (nI i) X = k2 (nI (a + 1)) (srw X 31 (upd (X 31) a (nI (mx m)))) := by
  intro n
  induction n with
  | zero => intro i h1 h2; omega
  | succ n ih =>
    intro i h1 h2 hb
    rw [fX9_laysGrundies_56]
    by_cases d : m.testBit i = true
    · have hb2 : ∀ j, j < i + 1 → m.testBit j = true := fun j hj => by
        by_cases e : j = i
        · rw [e]; exact d
        · exact hb j (by omega)
      have h5 : i ≠ 5 := fun e => by
        have := all6 (by omega : m < 64) (fun j hj => hb2 j (by omega))
        omega
      rw [if_pos ((s_bit (by omega) (by omega)).2 d), nI_1]
      exact ih (i + 1) (by omega) (by omega) hb2
    · rw [if_neg (fun q => d ((s_bit (by omega) (by omega)).1 q)), zd_ok (vp_in_nI (by omega) (by decide)), nI_clampN (by omega), zl_ok, xup_eq, nI_1, mx_at h1 hb (Or.inr (by simpa using d))]
theorem q_lay13 {k2 : Int32 → XM → Option XM} {tk n : Nat} {X : XM} (h : gok (X 23)) (htk : xun (X 23 0) = tk) (hn : n ≤ 200) {g : Nat → Nat} (hg : ∀ k, g k ≤ 5) (hX : ∀ k, k < n → X 31 k = nI (g k)) : ∀ (m t : Nat), t ≤ 5 → 5 < t + m → fX9_laysGrundies_13 k2 m (nI n) (nI (omP tk g n t)) (nI (t + 1)) X = fX9_laysGrundies_56 k2 fuel (nI n) (nI (omP tk g n 5)) 0 X := by
  intro m
  induction m with
  | zero => intro t h1 h2; omega
  | succ m ih =>
    intro t h1 h2
    rw [fX9_laysGrundies_13]
    by_cases c : t = 5
    · rw [if_pos (show (5 : Int32) < nI (t + 1) by rw [c]; decide), c]
    · have hnx := ih (t + 1) (by omega) (by omega)
      rw [if_neg (show ¬ (5 : Int32) < nI (t + 1) by rw [show (5 : Int32) = nI 5 from rfl, nI_ltI (by decide) (by omega)]; omega), q_isAllowed h (t := t + 1) rfl (by omega) (by omega), zi_ok, htk, Nat.add_sub_cancel, nI_1, Int32.or_zero]
      by_cases e : tk.testBit t = true
      · rw [if_pos e, if_neg i10]
        by_cases d : t + 1 ≤ n
        · rw [if_neg (show ¬ nI n < nI (t + 1) by rw [nI_ltI (by omega) (by omega)]; omega), nI_sub d, zd_ok (vp_in_nI (by omega) (by decide)), nI_clampN (by omega), zl_ok, hX _ (by omega), or_shl (hg _)]
          have eo : omP tk g n (t + 1) = omP tk g n t ||| 2 ^ g (n - (t + 1)) := by
            show _ ||| _ = _
            rw [if_pos ⟨e, d⟩]
          rw [← eo]
          exact hnx
        · rw [if_pos (show nI n < nI (t + 1) by rw [nI_ltI (by omega) (by omega)]; omega), zl_ok]
          have eo : omP tk g n (t + 1) = omP tk g n t := by
            show _ ||| _ = _
            rw [if_neg (fun q => d q.2), Nat.or_zero]
          rw [← eo]
          exact hnx
      · rw [if_neg e, if_pos rfl, zl_ok]
        have eo : omP tk g n (t + 1) = omP tk g n t := by
          show _ ||| _ = _
          rw [if_neg (fun q => e q.1), Nat.or_zero]
        rw [← eo]
        exact hnx
theorem q_lay2 {tk : Nat} : ∀ (m n : Nat) (X : XM), gok (X 23) → xun (X 23 0) = tk → n ≤ 201 → 201 < n + m → (∀ k, k < n → X 31 k = nI (gtab tk n k)) → ∃ Y, fX9_laysGrundies_2 m (nI n) X = some Y ∧ (∀ r, r ≠ 31 → Y r = X r) ∧ ∀ k, k < 201 → Y 31 k = nI (gr tk k) := by
  intro m
  induction m with
  | zero => intro n X h ht h1 h2; omega
  | succ m ih =>
    intro n X h ht h1 h2 hX
    rw [fX9_laysGrundies_2]
    by_cases c : n = 201
    · subst c
      rw [if_pos (show (200 : Int32) < nI 201 by decide)]
      exact ⟨X, rfl, fun r _ => rfl, hX⟩
    · have hf := fuel_ge
      rw [if_neg (show ¬ (200 : Int32) < nI n by rw [show (200 : Int32) = nI 200 from rfl, nI_ltI (by decide) (by omega)]; omega)]
      have a := q_lay13 (k2 := fX9_laysGrundies_2 m) h ht (by omega : n ≤ 200) (gtab_le tk n) hX fuel 0 (by decide) (by omega)
      have b := q_lay56 (k2 := fX9_laysGrundies_2 m) (by omega : n ≤ 200) (om_63 (tk := tk) (n := n) (gtab_le tk n)) (X := X) fuel 0 (by decide) (by omega) (fun j hj => absurd hj (by omega))
      rw [show fX9_laysGrundies_13 (fX9_laysGrundies_2 m) fuel (nI n) 0 1 X = _ from a, show fX9_laysGrundies_56 (fX9_laysGrundies_2 m) fuel (nI n) (nI (omP tk (gtab tk n) n 5)) 0 X = _ from b]
      obtain ⟨Y, hY, hr, hs⟩ := ih (n + 1) (srw X 31 (upd (X 31) n (nI (mx (omP tk (gtab tk n) n 5))))) (by rw [srw_n (by decide)]; exact h) (by rw [srw_n (by decide)]; exact ht) (by omega) (by omega) (fun k hk => by
        rw [srw_s]
        unfold upd gtab
        by_cases d : k = n
        · rw [if_pos d, if_pos d]
        · rw [if_neg d, if_neg d]; exact hX k (by omega))
      exact ⟨Y, hY, fun r a => by rw [hr r a, srw_n a], hs⟩
theorem q_lays {X : XM} (h : gok (X 23)) : ∃ Y, fX9_laysGrundies X = some Y ∧ (∀ r, r ≠ 31 → Y r = X r) ∧ ∀ k, k < 201 → Y 31 k = nI (gr (xun (X 23 0)) k) :=
  q_lay2 fuel 0 X h rfl (by decide) (by have := fuel_ge; omega) (fun k hk => absurd hk (by omega))
theorem q_grundyOf {X : XM} (h : gok (X 23)) {a : Int32} {t : Nat} (ha : a = nI t) (ht : t < 201) : ∃ Y, fX9_grundyOf a X = some (nI (gr (xun (X 23 0)) t), Y) ∧ ∀ r, r ≠ 31 → Y r = X r := by
  obtain ⟨Y, hY, hr, hs⟩ := q_lays h
  refine ⟨Y, ?_, hr⟩
  unfold fX9_grundyOf
  rw [hY, zv_ok, ha, zd_ok (vp_in_nI ht (by decide)), nI_clampN (by omega), hs t ht]
theorem f_nimber {tk : Nat} (h1 : 1 ≤ tk) (htk : tk < 32) {X : XM} (I : SI X) {a b : Int32} {t : Nat} (ha : a = nI tk) (hb : b = nI t) (ht : t < 201) : ∃ Y, fX5_nimber a b X = some (nI (gr tk t), Y) ∧ (∀ r, r ≠ 18 → r ≠ 19 → Y r = X r) ∧ SZ tk Y := by
  obtain ⟨Y, hY, hr, hs⟩ := f_learn h1 htk I
  refine ⟨Y, ?_, hr, hs⟩
  unfold fX5_nimber
  rw [ha, hY, zv_ok, hb, if_neg (nI_pos (by omega)), if_neg (show ¬ (201 : Int32) ≤ nI t by rw [show (201 : Int32) = nI 201 from rfl, nI_leI (by decide) (by omega)]; omega), zd_ok (vp_in_nI ht (by decide)), nI_clampN (by omega), hs.2 t ht]
theorem f_nimbered {tk t : Nat} {X : XM} (h : SZ tk X) (ht : t < 201) : fX5_nimber (nI tk) (nI t) X = some (nI (gr tk t), X) := by
  unfold fX5_nimber
  rw [f_learned h, zv_ok, if_neg (nI_pos (by omega)), if_neg (show ¬ (201 : Int32) ≤ nI t by rw [show (201 : Int32) = nI 201 from rfl, nI_leI (by decide) (by omega)]; omega), zd_ok (vp_in_nI ht (by decide)), nI_clampN (by omega), h.2 t ht]
theorem base_aux {X Y : XM} (I : Base X) (h : ∀ r, r ≠ 22 → (r < 13 ∨ (20 ≤ r ∧ r ≠ 24 ∧ r < 29)) → Y r = X r) (h1 : Y 22 1 = X 22 1) (h2 : Y 22 2 = X 22 2) : Base Y := by
  obtain ⟨n, C, a, b, c⟩ := I.hist
  have e0 := h 0 (by decide) (by decide)
  refine Base.of I (by rw [e0]; exact I.g0) (by rw [h 23 (by decide) (by decide), e0]; exact I.same) ⟨n, C, HC_cong a (fun r hr => h r (by omega) (by omega)), HM_cong b h1 (h 25 (by decide) (by decide)), c⟩ (by rw [h 1 (by decide) (by decide)]; exact I.z1) (fun r hr => h r (by omega) (by omega)) h2
def K17 (X Y : XM) : Prop := ∀ r, 13 ≤ r → r ≤ 17 → Y r = X r
theorem op_grundy {X : XM} (I : Base X) (S : SI X) (a1 : Int32) : ∃ r X1 X2, fX8_grundy a1 X = some (r, X1) ∧ fX9_grundy a1 X1 = some (r, X2) ∧ Base X2 ∧ SI X2 ∧ K17 X X2 := by
  have out : (a1 < 0 ∨ 200 < a1) → ∃ r X1 X2, fX8_grundy a1 X = some (r, X1) ∧ fX9_grundy a1 X1 = some (r, X2) ∧ Base X2 ∧ SI X2 ∧ K17 X X2 := by
    intro c
    refine ⟨-2, X, _, ?_, ?_, (base_ask I).1, ?_, fun r a b => (base_ask I).2 r a (by omega)⟩
    · unfold fX8_grundy
      by_cases c1 : a1 < 0
      · rw [if_pos c1]
      · rw [if_neg c1, if_neg (fun q => absurd (c.resolve_left c1) (Int32.not_lt.2 q))]
    · unfold fX9_grundy
      rw [zl_ok, xup_eq, q_inF c, zi_ok, if_pos rfl]
    · unfold SI SZ
      rw [srw_n (by decide), srw_n (by decide)]; exact S
  by_cases c1 : a1 < 0
  · exact out (Or.inl c1)
  by_cases c2 : 200 < a1
  · exact out (Or.inr c2)
  have bt := rng (x := a1) (lo := 0) (hi := 200) (by decide) (by decide) c1 c2
  have e00 : X 0 0 = nI (xun (X 0 0)) := (nI_xun _).symm
  obtain ⟨Y, hY, hr, hs⟩ := f_nimber I.g0.1 (by have := I.g0.2.1; omega) S e00 (nI_xun a1).symm (by omega)
  have y23 : srw Y 22 (upd (Y 22) 0 0) 23 = X 0 := by rw [srw_n (by decide), hr 23 (by decide) (by decide), I.same]
  obtain ⟨Z, hZ, zr⟩ := q_grundyOf (X := srw Y 22 (upd (Y 22) 0 0)) (by rw [y23]; exact I.g0) (nI_xun a1).symm (by omega)
  rw [y23] at hZ
  refine ⟨nI (gr (xun (X 0 0)) (xun a1)), Y, Z, ?_, ?_, base_aux I (fun r a b => ?_) ?_ ?_, ?_, fun r a b => ?_⟩
  · unfold fX8_grundy
    rw [if_neg c1, if_pos (le_nlt c2), hY, zi_ok]
  · unfold fX9_grundy
    rw [zl_ok, xup_eq, q_inT c1 c2, zi_ok, if_neg i10, hZ, zi_ok]
  · rw [zr r (by omega), srw_n a, hr r (by omega) (by omega)]
  · rw [zr 22 (by decide), srw_s, hr 22 (by decide) (by decide)]; rfl
  · rw [zr 22 (by decide), srw_s, hr 22 (by decide) (by decide)]; rfl
  · refine Or.inr ⟨_, I.g0.1, by have := I.g0.2.1; omega, ?_⟩
    unfold SZ
    rw [zr 18 (by decide), zr 19 (by decide), srw_n (by decide), srw_n (by decide)]
    exact hs
  · rw [zr r (by omega), srw_n (by omega), hr r (by omega) (by omega)]
end SZ2
