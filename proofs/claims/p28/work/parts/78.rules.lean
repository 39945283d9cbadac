/-! THE SOLVER learns the rules -/
section SR
def enN (f : Nat → Int32) : Nat → Nat
  | 0 => xun (f 0) * 100 + xun (f 1)
  | i + 1 => enN f i * 20 + (2 * xun (f (12 + 4 * i)) + xun (f (13 + 4 * i)))
theorem enN_lt {f : Nat → Int32} (h : gok f) : ∀ i, i ≤ 4 → enN f i < 3200 * 20 ^ i := by
  intro i
  induction i with
  | zero => intro _; have h1 := h.2.1; have h2 := h.2.2.1; show _ * 100 + _ < 3200; omega
  | succ i ih =>
    intro hi
    have z := h.2.2.2.2.2.2.2.2.2.1 i (by omega)
    have := ih (by omega)
    show enN f i * 20 + _ < _
    rw [Nat.pow_succ]
    omega
theorem enN_lt31 {f : Nat → Int32} (h : gok f) {i : Nat} (hi : i ≤ 4) : enN f i < 2 ^ 31 := by
  have h1 := enN_lt h i hi
  have h2 : 20 ^ i ≤ 20 ^ 4 := Nat.pow_le_pow_right (by decide) hi
  omega
theorem enN_same {f g : Nat → Int32} (hf : gok f) (hg : gok g) (h : enN f 4 = enN g 4) : sameR f g := by
  have st : ∀ i, i < 4 → enN f (i + 1) = enN g (i + 1) → enN f i = enN g i ∧ f (12 + 4 * i) = g (12 + 4 * i) ∧ f (13 + 4 * i) = g (13 + 4 * i) := by
    intro i hi q
    have z := hf.2.2.2.2.2.2.2.2.2.1 i hi
    have y := hg.2.2.2.2.2.2.2.2.2.1 i hi
    have q' : enN f i * 20 + (2 * xun (f (12 + 4 * i)) + xun (f (13 + 4 * i))) = enN g i * 20 + (2 * xun (g (12 + 4 * i)) + xun (g (13 + 4 * i))) := q
    refine ⟨by omega, ?_, ?_⟩
    · rw [← nI_xun (f (12 + 4 * i)), ← nI_xun (g (12 + 4 * i))]
      congr 1
      omega
    · rw [← nI_xun (f (13 + 4 * i)), ← nI_xun (g (13 + 4 * i))]
      congr 1
      omega
  obtain ⟨e3, w3, p3⟩ := st 3 (by decide) h
  obtain ⟨e2, w2, p2⟩ := st 2 (by decide) e3
  obtain ⟨e1, w1, p1⟩ := st 1 (by decide) e2
  obtain ⟨e0, w0, p0⟩ := st 0 (by decide) e1
  have e0' : xun (f 0) * 100 + xun (f 1) = xun (g 0) * 100 + xun (g 1) := e0
  have b1 := hf.2.2.1
  have b2 := hg.2.2.1
  refine ⟨?_, ?_, fun p hp => ?_⟩
  · rw [← nI_xun (f 0), ← nI_xun (g 0)]
    congr 1
    omega
  · rw [← nI_xun (f 1), ← nI_xun (g 1)]
    congr 1
    omega
  · match p, hp with
    | 0, _ => exact ⟨w0, p0⟩
    | 1, _ => exact ⟨w1, p1⟩
    | 2, _ => exact ⟨w2, p2⟩
    | 3, _ => exact ⟨w3, p3⟩
theorem f_fillV {v : Int32} : ∀ (n i : Nat) (X : XM), i ≤ 23328 → 23328 < i + n → fJ7_fill_VAL_5 n v (nI i) 23328 X = some (srw X 14 (fun k => if i ≤ k ∧ k < 23328 then v else X 14 k)) := by
  intro n
  induction n with
  | zero => intro i X h1 h2; omega
  | succ n ih =>
    intro i X h1 h2
    rw [fJ7_fill_VAL_5]
    by_cases ci : i = 23328
    · subst ci
      rw [if_pos (show (23328 : Int32) ≤ nI 23328 by decide)]
      congr 1
      have e : (fun k => if 23328 ≤ k ∧ k < 23328 then v else X 14 k) = X 14 := by
        funext k
        rw [if_neg (by omega)]
      rw [e, srw_id]
    · rw [if_neg (show ¬ (23328 : Int32) ≤ nI i by rw [show (23328 : Int32) = nI 23328 from rfl, nI_leI (by decide) (by omega)]; omega), zd_ok (vp_in_nI (by omega) (by decide)), zl_ok, nI_clampN (by omega), nI_1, ih (i + 1) _ (by omega) (by omega), xup_eq, srw_ss, srw_s]
      congr 2
      funext k
      unfold upd
      by_cases e : k = i
      · subst e
        rw [if_neg (by omega), if_pos rfl, if_pos ⟨Nat.le_refl _, by omega⟩]
      · rw [if_neg e]
        by_cases g : i ≤ k ∧ k < 23328
        · rw [if_pos g, if_pos ⟨by omega, g.2⟩]
        · rw [if_neg g, if_neg (fun q => g ⟨by omega, q.2⟩)]
theorem f_fillR {v : Int32} : ∀ (n i : Nat) (X : XM), i ≤ 23328 → 23328 < i + n → fJ7_fill_RES_5 n v (nI i) 23328 X = some (srw X 15 (fun k => if i ≤ k ∧ k < 23328 then v else X 15 k)) := by
  intro n
  induction n with
  | zero => intro i X h1 h2; omega
  | succ n ih =>
    intro i X h1 h2
    rw [fJ7_fill_RES_5]
    by_cases ci : i = 23328
    · subst ci
      rw [if_pos (show (23328 : Int32) ≤ nI 23328 by decide)]
      congr 1
      have e : (fun k => if 23328 ≤ k ∧ k < 23328 then v else X 15 k) = X 15 := by
        funext k
        rw [if_neg (by omega)]
      rw [e, srw_id]
    · rw [if_neg (show ¬ (23328 : Int32) ≤ nI i by rw [show (23328 : Int32) = nI 23328 from rfl, nI_leI (by decide) (by omega)]; omega), zd_ok (vp_in_nI (by omega) (by decide)), zl_ok, nI_clampN (by omega), nI_1, ih (i + 1) _ (by omega) (by omega), xup_eq, srw_ss, srw_s]
      congr 2
      funext k
      unfold upd
      by_cases e : k = i
      · subst e
        rw [if_neg (by omega), if_pos rfl, if_pos ⟨Nat.le_refl _, by omega⟩]
      · rw [if_neg e]
        by_cases g : i ≤ k ∧ k < 23328
        · rw [if_pos g, if_pos ⟨by omega, g.2⟩]
        · rw [if_neg g, if_neg (fun q => g ⟨by omega, q.2⟩)]
/-- while the piles are learnt: b piles in the set, k gains -/
def LPf (f : Nat → Int32) (X0 : XM) (b k : Nat) (X : XM) : Prop := (∀ r, r ≠ 13 → r ≠ 17 → X r = X0 r) ∧ (∀ q, q ≠ 2 → X 13 q = X0 13 q) ∧ X 13 2 = nI (bsum (pmP f) b) ∧ (∀ mv, mv < k → X 17 mv = gnI f mv) ∧ X 17 20 = 0
theorem tm5 : ∀ i, i < 4 → ∀ t, t < 6 → 1 ≤ t → (5 * nI i + nI t) - 1 = nI (5 * i + t - 1) := by decide +kernel
theorem f_lp49 {f : Nat → Int32} {X0 : XM} (h0 : X0 0 = f) {i : Nat} (hi : i < 4) {k7 : Nat → Int32 → XM → Option XM} {P : XM → Prop} (K : ∀ X, LPf f X0 (i + 1) (5 * (i + 1)) X → ∃ Y, k7 0 (nI (i + 1)) X = some Y ∧ P Y) : ∀ (n t : Nat) (X : XM), 1 ≤ t → t ≤ 6 → 6 < t + n → LPf f X0 (i + 1) (5 * i + t - 1) X →
    ∃ Y, fX7_learnPiles_49 k7 n 0 (nI i) 0 i (nI t) X = some Y ∧ P Y := by
  intro n
  induction n with
  | zero => intro t X _ h1 h2; omega
  | succ n ih =>
    intro t X ht h1 h2 hX
    rw [fX7_learnPiles_49]
    by_cases ct : t = 6
    · subst ct
      rw [if_pos (show (5 : Int32) < nI 6 by decide), nI_1]
      exact K X hX
    · rw [if_neg (show ¬ (5 : Int32) < nI t by rw [show (5 : Int32) = nI 5 from rfl, nI_ltI (by decide) (by omega)]; omega)]
      unfold fX8_takeMove
      rw [zi_ok, tm5 i hi t (by omega) ht, if_neg (nI_pos (by omega)), if_neg (i21n (by omega)), zd_ok (vp_in_nI (by omega) (by decide)), zl_ok, nI_clampN (by omega), xup_eq, nI_1]
      refine ih (t + 1) _ (by omega) (by omega) (by omega) ?_
      obtain ⟨a1, a2, a3, a4, a5⟩ := hX
      have x0 : X 0 = f := by rw [a1 0 (by decide) (by decide), h0]
      refine ⟨fun r b1 b2 => by rw [srw_n b2, a1 r b1 b2], fun q hq => by rw [srw_n (by decide), a2 q hq], by rw [srw_n (by decide), a3], fun mv hm => ?_, ?_⟩
      · rw [srw_s]
        by_cases e : mv = 5 * i + t - 1
        · rw [e, pk_us, x0]
          unfold gnI
          rw [if_neg (by omega), show (5 * i + t - 1) % 5 + 1 = t by omega, show (5 * i + t - 1) / 5 = i by omega, Int32.mul_comm]
        · rw [pk_un e, a4 mv (by omega)]
      · rw [srw_s, pk_un (by omega), a5]
theorem f_lp7 {f : Nat → Int32} {X0 : XM} (h0 : X0 0 = f) (hf : gok f) : ∀ (n i : Nat) (X : XM), i ≤ 4 → 4 < i + n → LPf f X0 i (5 * i) X → ∃ Y, fX7_learnPiles_7 n 0 (nI i) X = some Y ∧ LPf f X0 4 20 Y := by
  intro n
  induction n with
  | zero => intro i X h1 h2; omega
  | succ n ih =>
    intro i X h1 h2 hX
    rw [fX7_learnPiles_7]
    by_cases ci : i = 4
    · subst ci
      rw [if_pos (show (4 : Int32) ≤ nI 4 by decide)]
      exact ⟨X, rfl, hX⟩
    · have hi : i < 4 := by omega
      obtain ⟨a1, a2, a3, a4, a5⟩ := hX
      have x0 : X 0 = f := by rw [a1 0 (by decide) (by decide), h0]
      rw [if_neg (show ¬ (4 : Int32) ≤ nI i by rw [show (4 : Int32) = nI 4 from rfl, nI_leI (by decide) (by omega)]; omega), zd_ok (vp_in_nI hi (by decide)), nI_clampN (by omega), x0]
      have go : ∀ v : Int32, v = nI (bsum (pmP f) (i + 1)) → ∃ Y, (zl (xup X 13 2 v) fun X_19 => fX7_learnPiles_49 (fX7_learnPiles_7 n) fuel 0 (nI i) 0 i 1 X_19) = some Y ∧ LPf f X0 4 20 Y := by
        intro v hv
        rw [zl_ok, xup_eq]
        refine f_lp49 h0 hi (fun Z hZ => ih (i + 1) Z (by omega) (by omega) hZ) fuel 1 _ (by decide) (by decide) (by have := fuel_ge; omega) ?_
        refine ⟨fun r b1 b2 => by rw [srw_n b1, a1 r b1 b2], fun q hq => by rw [srw_s, pk_un hq, a2 q hq], by rw [srw_s, pk_us, hv], fun mv hm => by rw [srw_n (by decide)]; exact a4 mv (by omega), by rw [srw_n (by decide)]; exact a5⟩
      have hb := b01 (hf.2.2.2.2.2.2.2.2.2.1 i hi).2.2.1
      have hl := bsum_lt (pmP f) i
      have eb : bsum (pmP f) (i + 1) = bsum (pmP f) i + (pmP f i).toNat * 2 ^ i := rfl
      by_cases c : f (13 + 4 * i) = 0
      · rw [if_pos c]
        refine go _ ?_
        have ep : pmP f i = false := decide_eq_false (by rw [c]; decide)
        rw [eb, ep, a3, show (0 : Int32) = nI 0 from rfl, fa_or, Nat.or_zero]
        simp
      · rw [if_neg c]
        refine go _ ?_
        have ep : pmP f i = true := decide_eq_true (hb.resolve_left c)
        rw [eb, ep, a3, shl1 i (by omega), or_sum (b := 1) hl (Nat.mul_one _).symm]
        simp
/-- what the solver knows between two operations -/
def SIn (X : XM) : Prop := (∀ mv, mv < 21 → X 16 mv = nI (stpN mv)) ∧ X 17 20 = 0 ∧ (X 13 3 = -100000 ∨ ∃ f, gok f ∧ X 13 3 = nI (enN f 4) ∧ SV f X)
theorem SV_same {f g : Nat → Int32} {X : XM} (hs : sameR f g) (h : SV f X) : SV g X := by
  obtain ⟨⟨a1, a2, a3, a4, a5⟩, b, c⟩ := h
  have ev : ∀ s, Vs f s = Vs g s := fun s => VV_same hs 25 _ _ _ _
  have ew : ∀ s, Ws f s = Ws g s := fun s => WW_same hs 25 _ _ _ _
  have ep : bsum (pmP f) 4 = bsum (pmP g) 4 := by
    have e : ∀ p, p < 4 → pmP f p = pmP g p := fun p hp => by unfold pmP; rw [(hs.2.2 p hp).2]
    show bsum (pmP f) 3 + _ = bsum (pmP g) 3 + _
    show ((((0 + _) + _) + _) + _) = ((((0 + _) + _) + _) + _)
    rw [e 0 (by decide), e 1 (by decide), e 2 (by decide), e 3 (by decide)]
  refine ⟨⟨by rw [a1, hs.1], by rw [a2, hs.2.1], by rw [a3, ep], a4, fun mv hm => by rw [a5 mv hm, gnI_same hs hm]⟩, fun s h => ?_, fun s h => ?_⟩
  · rw [← ev s]; exact b s h
  · rw [← ew s]; exact c s h
theorem f_learn25 {f : Nat → Int32} {X : XM} (h0 : X 0 = f) (hf : gok f) (hI : SIn X) : ∀ (n i : Nat), i ≤ 4 → 4 < i + n → ∃ Y, fX7_learnRules_25 n 0 (nI (enN f i)) 0 4 (nI i) X = some Y ∧ SV f Y ∧ Y 13 3 = nI (enN f 4) ∧ ∀ r, r ≠ 13 → r ≠ 14 → r ≠ 15 → r ≠ 17 → Y r = X r := by
  intro n
  induction n with
  | zero => intro i h1 h2; omega
  | succ n ih =>
    intro i h1 h2
    rw [fX7_learnRules_25]
    by_cases ci : i = 4
    · subst ci
      rw [if_pos (show (4 : Int32) ≤ nI 4 by decide)]
      obtain ⟨i1, i2, i3⟩ := hI
      by_cases ck : nI (enN f 4) = X 13 3
      · rw [if_pos ck]
        refine ⟨X, rfl, ?_, ck.symm, fun r _ _ _ _ => rfl⟩
        rcases i3 with q | ⟨g, hg, eg, hS⟩
        · exfalso
          have := nI_toInt (enN_lt31 hf (i := 4) (by decide))
          rw [ck, q] at this
          have e : (-100000 : Int32).toInt = -100000 := by decide
          omega
        · rw [eg] at ck
          exact SV_same (enN_same hg hf (nI_inj (by have := enN_lt31 hg (i := 4) (by decide); omega) (by have := enN_lt31 hf (i := 4) (by decide); omega) ck.symm)) hS
      · rw [if_neg ck]
        unfold fJ7_fill_VAL fJ7_fill_RES
        have hfu := fuel_ge
        rw [show fJ7_fill_VAL_5 fuel (-100000) 0 23328 X = _ from f_fillV fuel 0 X (by decide) (by omega), zv_ok, show ∀ Z, fJ7_fill_RES_5 fuel (-100000) 0 23328 Z = _ from fun Z => f_fillR fuel 0 Z (by decide) (by omega), zv_ok, zl_ok, zl_ok, xup_eq, xup_eq]
        unfold fX7_learnPiles
        rw [zl_ok, xup_eq]
        generalize hZ : (srw (srw (srw (srw (srw X 14 fun k => if 0 ≤ k ∧ k < 23328 then -100000 else X 14 k) 15 _) 13 _) 13 _) 13 _) = Z
        have z13 : ∀ k, Z 13 k = if k = 2 then 0 else if k = 1 then f 1 else if k = 0 then f 0 else X 13 k := by
          intro k
          rw [← hZ]
          simp only [srw_s, srw_ss, srw_n (show (0 : Nat) ≠ 13 by decide), srw_n (show (0 : Nat) ≠ 14 by decide), srw_n (show (0 : Nat) ≠ 15 by decide), srw_n (show (13 : Nat) ≠ 14 by decide), srw_n (show (13 : Nat) ≠ 15 by decide), h0]
          rfl
        have z14 : ∀ k, k < 23328 → Z 14 k = -100000 := by
          intro k hk
          rw [← hZ, srw_n (by decide), srw_n (by decide), srw_n (by decide), srw_n (by decide), srw_s, if_pos ⟨Nat.zero_le _, hk⟩]
        have z15 : ∀ k, k < 23328 → Z 15 k = -100000 := by
          intro k hk
          rw [← hZ, srw_n (by decide), srw_n (by decide), srw_n (by decide), srw_s, if_pos ⟨Nat.zero_le _, hk⟩]
        have zr : ∀ r, r ≠ 13 → r ≠ 14 → r ≠ 15 → Z r = X r := by
          intro r b1 b2 b3
          rw [← hZ, srw_n b1, srw_n b1, srw_n b1, srw_n b3, srw_n b2]
        have hL : LPf f Z 0 (5 * 0) Z := ⟨fun r _ _ => rfl, fun q _ => rfl, by rw [z13 2, if_pos rfl]; rfl, fun mv hm => by omega, by rw [zr 17 (by decide) (by decide) (by decide)]; exact i2⟩
        obtain ⟨Y, y1, y2, y3, y4, y5, y6⟩ := f_lp7 (X0 := Z) (by rw [zr 0 (by decide) (by decide) (by decide)]; exact h0) hf fuel 0 Z (by decide) (by omega) hL
        rw [show fX7_learnPiles_7 fuel 0 0 Z = some Y from y1, zv_ok, zl_ok, xup_eq]
        have yr : ∀ r, r ≠ 13 → r ≠ 17 → srw Y 13 (upd (Y 13) 3 (nI (enN f 4))) r = Z r := fun r b1 b2 => by rw [srw_n b1, y2 r b1 b2]
        refine ⟨_, rfl, ⟨⟨?_, ?_, ?_, fun mv hm => ?_, fun mv hm => ?_⟩, fun s hs => Or.inl ?_, fun s hs => Or.inl ?_⟩, by rw [srw_s, pk_us], fun r b1 b2 b3 b4 => by rw [yr r b1 b4, zr r b1 b2 b3]⟩
        · rw [srw_s, pk_un (by decide), y3 0 (by decide), z13 0]; rfl
        · rw [srw_s, pk_un (by decide), y3 1 (by decide), z13 1]; rfl
        · rw [srw_s, pk_un (by decide), y4]
        · rw [yr 16 (by decide) (by decide), zr 16 (by decide) (by decide) (by decide)]; exact i1 mv hm
        · rw [srw_n (by decide)]
          by_cases e : mv = 20
          · rw [e, y6]; rfl
          · exact y5 mv (by omega)
        · rw [yr 14 (by decide) (by decide)]; exact z14 s hs
        · rw [yr 15 (by decide) (by decide)]; exact z15 s hs
    · have hi : i < 4 := by omega
      rw [if_neg (show ¬ (4 : Int32) ≤ nI i by rw [show (4 : Int32) = nI 4 from rfl, nI_leI (by decide) (by omega)]; omega), zd_ok (vp_in_nI hi (by decide)), nI_clampN (by omega), h0]
      have hb := b01 (hf.2.2.2.2.2.2.2.2.2.1 i hi).2.2.1
      have e1 : ∀ (v : Int32) (p : Nat), v = nI p → xun (f (13 + 4 * i)) = p → ((((nI (enN f i) * 2) * 10) + (2 * (f (12 + 4 * i)))) + v) = nI (enN f (i + 1)) := by
        intro v p hv hp
        have ew : f (12 + 4 * i) = nI (xun (f (12 + 4 * i))) := (nI_xun _).symm
        rw [hv, ew, show (2 : Int32) = nI 2 from rfl, show (10 : Int32) = nI 10 from rfl, pk_mul, pk_mul, pk_mul, nI_add, nI_add]
        congr 1
        show _ = enN f i * 20 + (2 * xun (f (12 + 4 * i)) + xun (f (13 + 4 * i)))
        rw [hp]
        omega
      by_cases c : f (13 + 4 * i) = 0
      · rw [if_pos c, zl_ok, e1 0 0 rfl (by rw [c]; rfl), nI_1]
        exact ih (i + 1) (by omega) (by omega)
      · rw [if_neg c, zl_ok, e1 1 1 rfl (by rw [hb.resolve_left c]; rfl), nI_1]
        exact ih (i + 1) (by omega) (by omega)
theorem f_learnRules {f : Nat → Int32} {X : XM} (h0 : X 0 = f) (hf : gok f) (hI : SIn X) : ∃ Y, fX7_learnRules 0 X = some Y ∧ SV f Y ∧ Y 13 3 = nI (enN f 4) ∧ ∀ r, r ≠ 13 → r ≠ 14 → r ≠ 15 → r ≠ 17 → Y r = X r := by
  have e : (X 0 0) * 100 + (X 0 1) = nI (enN f 0) := by
    have e0 : f 0 = nI (xun (f 0)) := (nI_xun _).symm
    have e1 : f 1 = nI (xun (f 1)) := (nI_xun _).symm
    show _ = nI (xun (f 0) * 100 + xun (f 1))
    rw [h0, ← nI_add, ← pk_mul, ← e0, ← e1]
    rfl
  unfold fX7_learnRules
  rw [e, zl_ok]
  exact f_learn25 h0 hf hI fuel 0 (by decide) (by have := fuel_ge; omega)
/-- the spot of a game -/
def sptN (f : Nat → Int32) : Nat := 18 * gcode f + 9 * (1 - xun (f 4)) + 3 * xun (f (7 + xun (f 3))) + xun (f (8 - xun (f 3)))
theorem spt_parts {f : Nat → Int32} (h : gok f) : sptN f < 23328 ∧ sptN f / 18 = gcode f ∧ 1 - sptN f / 9 % 2 = xun (f 4) ∧ sptN f / 3 % 3 = xun (f (7 + xun (f 3))) ∧ sptN f % 3 = xun (f (8 - xun (f 3))) := by
  have hc := gcode_lt h
  obtain ⟨m, hm1, hm, um⟩ := gok_mover h
  have h4 := h.2.2.2.2.2.1
  have h7 := h.2.2.2.2.2.2.2.1
  have h8 := h.2.2.2.2.2.2.2.2.1
  have b1 : xun (f (7 + m)) ≤ 2 := by
    match m, hm1 with
    | 0, _ => exact h7
    | 1, _ => exact h8
  have b2 : xun (f (8 - m)) ≤ 2 := by
    match m, hm1 with
    | 0, _ => exact h8
    | 1, _ => exact h7
  unfold sptN
  rw [um]
  generalize xun (f (7 + m)) = o at *
  generalize xun (f (8 - m)) = t at *
  generalize xun (f 4) = a at *
  omega
theorem f_spotOf {f : Nat → Int32} {X : XM} (h0 : X 0 = f) (hf : gok f) (hI : SIn X) : ∃ Y, fX7_spotOf 0 X = some (nI (sptN f), Y) ∧ SV f Y ∧ Y 13 3 = nI (enN f 4) ∧ ∀ r, r ≠ 13 → r ≠ 14 → r ≠ 15 → r ≠ 17 → Y r = X r := by
  obtain ⟨Y, y1, y2, y3, y4⟩ := f_learnRules h0 hf hI
  refine ⟨Y, ?_, y2, y3, y4⟩
  have g0 : Y 0 = f := by rw [y4 0 (by decide) (by decide) (by decide) (by decide), h0]
  obtain ⟨m, hm1, hm, um⟩ := gok_mover hf
  have e1 : (1 : Int32) - nI m = nI (1 - m) := pk_sub hm1
  have ec : (((0 + f 23) * 6 + f 19) * 6 + f 15) * 6 + f 11 = nI (gcode f) := by
    have e : ∀ k, f k = nI (xun (f k)) := fun k => (nI_xun _).symm
    rw [e 23, e 19, e 15, e 11, show (0 : Int32) = nI 0 from rfl, show (6 : Int32) = nI 6 from rfl]
    simp only [nI_add, pk_mul]
    congr 1
    show _ = xun (f 11) + 6 * xun (f 15) + 36 * xun (f 19) + 216 * xun (f 23)
    omega
  have e7 : ∀ k, f k = nI (xun (f k)) := fun k => (nI_xun _).symm
  have h4 := b01 hf.2.2.2.2.2.1
  have k8 : 7 + (1 - m) = 8 - m := by omega
  unfold fX7_spotOf sptN
  rw [y1, zv_ok, zl_ok, zl_ok, zl_ok, zl_ok, g0, ec, um, hm]
  have eo := e7 (7 + m)
  have et := e7 (8 - m)
  generalize xun (f (7 + m)) = o at *
  generalize xun (f (8 - m)) = t at *
  by_cases c : f 4 = 0
  · rw [if_pos c, f_player rfl hm1, zi_ok, zl_ok, g0, hm, e1, f_player rfl (by omega), zi_ok, zl_ok, g0, k8, eo, et, show (18 : Int32) = nI 18 from rfl, show (9 : Int32) = nI 9 from rfl, show (3 : Int32) = nI 3 from rfl, c]
    simp only [nI_add, pk_mul]
    congr 3
    show _ = 18 * gcode f + 9 * (1 - 0) + _ + _
    omega
  · have c1 : f 4 = 1 := h4.resolve_left c
    rw [if_neg c, f_player rfl hm1, zi_ok, zl_ok, g0, hm, e1, f_player rfl (by omega), zi_ok, zl_ok, g0, k8, eo, et, show (18 : Int32) = nI 18 from rfl, show (0 : Int32) = nI 0 from rfl, show (3 : Int32) = nI 3 from rfl, c1]
    simp only [nI_add, pk_mul]
    congr 3
    show _ = 18 * gcode f + 9 * (1 - 1) + _ + _
    omega
theorem cn_spt {f : Nat → Int32} (h : gok f) (h5 : f 5 = 0) : bsum (cnB f (sptN f)) 21 = gmoves f := by
  obtain ⟨_, e1, e2, e3, _⟩ := spt_parts h
  rw [gmoves_can h, if_pos h5]
  unfold cnB
  rw [e1, e2, e3]
end SR
