/-! HISTORY: n states C 0 .. C (n - 1), the oldest first -/
def gid (X : XM) (j : Nat) : Nat := xun (X 11 (j + 1))
def HC (X : XM) (n : Nat) (C : Nat → Nat → Int32) : Prop :=
  n ≤ 6 ∧ X 11 0 = nI n ∧ (∀ j, j < 6 → 3 ≤ gid X j ∧ gid X j ≤ 8) ∧ (∀ i j, i < 6 → j < 6 → gid X i = gid X j → i = j) ∧ (∀ r, 3 ≤ r → r ≤ 8 → z27 (X r)) ∧ ∀ j, j < n → X (gid X j) = C j
def pushN (n : Nat) : Nat := if n < 6 then n + 1 else 6
def pushC (n : Nat) (C : Nat → Nat → Int32) (b : Nat → Int32) : Nat → Nat → Int32 := fun j => if n < 6 then (if j = n then b else C j) else (if j = 5 then b else C (j + 1))
def rot (f : Nat → Int32) : Nat → Int32 := fun k => if k = 0 then f 0 - 1 else if k = 6 then f 1 else if k ≤ 5 then f (k + 1) else f k
theorem f_dropOldest {X : XM} : fX1_dropOldest X = some (srw X 11 (rot (X 11))) := by
  unfold fX1_dropOldest
  simp only [zl_ok, xup_eq, srw_ss, srw_s, nI_xun]
  congr 2
  funext k
  match k with
  | 0 => simp [upd, rot]
  | 1 => simp [upd, rot]
  | 2 => simp [upd, rot]
  | 3 => simp [upd, rot]
  | 4 => simp [upd, rot]
  | 5 => simp [upd, rot]
  | 6 => simp [upd, rot]
  | n + 7 =>
    simp [upd, rot]
theorem f_histAdd {X : XM} {n : Nat} {C : Nat → Nat → Int32} (h : HC X n C) (hn : n < 6) (hz : z27 (X 1)) (hb : bok (X 1)) (v : Int32) (hv : v = nI n) : (zd v 6 (zv (fX0_copyFrom (xun (X 11 ((Int32.toNatClampNeg v) + 1))) 1 X) (fun X_6 => zl (xup X_6 11 0 ((X_6 11 0) + 1)) (fun X_8 => some X_8)))) = some (srw (srw X (gid X n) (X 1)) 11 (upd (X 11) 0 (nI (n + 1)))) := by
  subst hv
  obtain ⟨h6, h0, hg, hi, hz6, hc⟩ := h
  have g := hg n hn
  rw [zd_ok (vp_in_nI hn (by decide)), nI_clampN (by omega)]
  show zv (fX0_copyFrom (gid X n) 1 X) _ = _
  rw [f_copyFrom (by omega) (hz6 _ g.1 g.2) hz hb, zv_ok, zl_ok, xup_eq, srw_n (by omega), h0, nI_1]
theorem HC_push {X : XM} {n : Nat} {C : Nat → Nat → Int32} (h : HC X n C) (hn : n < 6) (hz : z27 (X 1)) : HC (srw (srw X (gid X n) (X 1)) 11 (upd (X 11) 0 (nI (n + 1)))) (n + 1) (fun j => if j = n then X 1 else C j) := by
  obtain ⟨h6, h0, hg, hi, hz6, hc⟩ := h
  have eg : ∀ j, gid (srw (srw X (gid X n) (X 1)) 11 (upd (X 11) 0 (nI (n + 1)))) j = gid X j := fun j => by
    unfold gid
    rw [srw_s]
    unfold upd
    rw [if_neg (by omega)]
  have gn := hg n hn
  refine ⟨by omega, by rw [srw_s]; rfl, fun j hj => by rw [eg]; exact hg j hj, fun i j h1 h2 h3 => by rw [eg, eg] at h3; exact hi i j h1 h2 h3, fun r h1 h2 => ?_, fun j hj => ?_⟩
  · rw [srw_n (by omega)]
    by_cases e : r = gid X n
    · rw [e, srw_s]
      exact hz
    · rw [srw_n e]
      exact hz6 r h1 h2
  · rw [eg]
    have gj := hg j (by omega)
    rw [srw_n (by omega)]
    by_cases e : j = n
    · subst e
      rw [srw_s]
      exact (if_pos rfl).symm
    · rw [srw_n (fun q => e (hi j n (by omega) hn q))]
      exact (hc j (by omega)).trans (if_neg e).symm
theorem HC_rot {X : XM} {C : Nat → Nat → Int32} (h : HC X 6 C) : HC (srw X 11 (rot (X 11))) 5 (fun j => C (j + 1)) := by
  obtain ⟨h6, h0, hg, hi, hz6, hc⟩ := h
  have eg : ∀ j, j < 6 → gid (srw X 11 (rot (X 11))) j = gid X ((j + 1) % 6) := fun j hj => by
    unfold gid
    rw [srw_s]
    match j, hj with
    | 0, _ => rfl
    | 1, _ => rfl
    | 2, _ => rfl
    | 3, _ => rfl
    | 4, _ => rfl
    | 5, _ => rfl
  refine ⟨by omega, by rw [srw_s]; show X 11 0 - 1 = _; rw [h0]; rfl, fun j hj => by rw [eg j hj]; exact hg _ (Nat.mod_lt _ (by decide)), fun i j h1 h2 h3 => ?_, fun r h1 h2 => by rw [srw_n (by omega)]; exact hz6 r h1 h2, fun j hj => ?_⟩
  · rw [eg i h1, eg j h2] at h3
    have := hi _ _ (Nat.mod_lt _ (by decide)) (Nat.mod_lt _ (by decide)) h3
    omega
  · rw [eg j (by omega), show (j + 1) % 6 = j + 1 by omega]
    have := hg (j + 1) (by omega)
    rw [srw_n (by omega)]
    exact hc (j + 1) (by omega)
/-- recording in the class: the row 1 goes into the history -/
theorem f_add {X : XM} {n : Nat} {C : Nat → Nat → Int32} (h : HC X n C) (hz : z27 (X 1)) (hb : bok (X 1)) : ∃ Y, fX1_add 1 X = some Y ∧ HC Y (pushN n) (pushC n C (X 1)) ∧ ∀ r, r ≠ 11 → (r < 3 ∨ 8 < r) → Y r = X r := by
  have h6 := h.1
  have h0 := h.2.1
  unfold fX1_add pushN pushC
  by_cases c : n < 6
  · rw [if_pos (show X 11 0 < 6 by rw [h0, show (6 : Int32) = nI 6 from rfl, nI_ltI (by omega) (by decide)]; exact c), if_neg (show ¬ X 11 0 < 0 by rw [h0]; exact nI_pos (by omega)), if_neg (show ¬ 6 ≤ X 11 0 by rw [h0, show (6 : Int32) = nI 6 from rfl, nI_leI (by decide) (by omega)]; omega)]
    rw [f_histAdd h c hz hb _ h0]
    refine ⟨_, rfl, ?_, fun r h1 h2 => ?_⟩
    · rw [if_pos c]
      have e := HC_push h c hz
      have e2 : (fun j => if n < 6 then (if j = n then X 1 else C j) else (if j = 5 then X 1 else C (j + 1))) = fun j => if j = n then X 1 else C j := by
        funext j
        rw [if_pos c]
      rw [e2]
      exact e
    · have := h.2.2.1 n c
      rw [srw_n h1, srw_n (by omega)]
  · have e6 : n = 6 := by omega
    subst e6
    rw [if_neg (show ¬ X 11 0 < 6 by rw [h0]; decide), f_dropOldest, zv_ok]
    have hr := HC_rot h
    have e0 : srw X 11 (rot (X 11)) 11 0 = nI 5 := hr.2.1
    rw [if_neg (show ¬ srw X 11 (rot (X 11)) 11 0 < 0 by rw [e0]; decide), if_neg (show ¬ 6 ≤ srw X 11 (rot (X 11)) 11 0 by rw [e0]; decide)]
    have e1 : srw X 11 (rot (X 11)) 1 = X 1 := srw_n (by decide)
    rw [f_histAdd hr (by decide) (by rw [e1]; exact hz) (by rw [e1]; exact hb) _ e0]
    refine ⟨_, rfl, ?_, fun r h1 h2 => ?_⟩
    · have e := HC_push hr (by decide) (by rw [e1]; exact hz)
      rw [e1] at e ⊢
      rw [if_neg (by decide)]
      have e2 : (fun j => if 6 < 6 then (if j = 6 then X 1 else C j) else (if j = 5 then X 1 else C (j + 1))) = fun j => if j = 5 then X 1 else C (j + 1) := by
        funext j
        rw [if_neg (by decide)]
      rw [e2]
      exact e
    · have := hr.2.2.1 5 (by decide)
      rw [srw_n h1, srw_n (by omega), srw_n h1]

/-- taking back in the class: the newest state comes into the row 0 -/
theorem f_takeBack0 {X : XM} {C : Nat → Nat → Int32} (h : HC X 0 C) : fX1_takeBack 0 X = some (0, X) := by
  unfold fX1_takeBack
  rw [if_pos (show X 11 0 < 1 by rw [h.2.1]; decide)]
theorem f_takeBack {X : XM} {n : Nat} {C : Nat → Nat → Int32} (h : HC X (n + 1) C) (hz : z27 (X 0)) (hb : bok (C n)) : ∃ Y, fX1_takeBack 0 X = some (1, Y) ∧ HC Y n C ∧ Y 0 = C n ∧ ∀ r, r ≠ 11 → r ≠ 0 → Y r = X r := by
  obtain ⟨h6, h0, hg, hi, hz6, hc⟩ := h
  have gn := hg n (by omega)
  unfold fX1_takeBack
  rw [if_neg (show ¬ X 11 0 < 1 by rw [h0, nI_lt1 (by omega)]; omega), if_pos (show X 11 0 ≤ 6 by rw [h0, show (6 : Int32) = nI 6 from rfl, nI_leI (by omega) (by decide)]; exact h6), zl_ok, xup_eq]
  have e0 : srw X 11 (upd (X 11) 0 (X 11 0 - 1)) 11 0 = nI n := by
    rw [srw_s, h0, nI_pred]
    rfl
  rw [e0, zd_ok (vp_in_nI (by omega) (by decide)), nI_clampN (by omega)]
  have eg : ∀ j, gid (srw X 11 (upd (X 11) 0 (X 11 0 - 1))) j = gid X j := fun j => by
    unfold gid
    rw [srw_s]
    unfold upd
    rw [if_neg (by omega)]
  have er : ∀ r, r ≠ 11 → srw X 11 (upd (X 11) 0 (X 11 0 - 1)) r = X r := fun r hr => srw_n hr
  show ∃ Y, zv (fX0_copyFrom 0 (gid (srw X 11 (upd (X 11) 0 (X 11 0 - 1))) n) _) _ = _ ∧ _
  rw [eg]
  have ec : srw X 11 (upd (X 11) 0 (X 11 0 - 1)) (gid X n) = C n := by rw [er _ (by omega)]; exact hc n (by omega)
  rw [f_copyFrom (by omega) (by rw [er _ (by decide)]; exact hz) (by rw [er _ (by omega)]; exact hz6 _ gn.1 gn.2) (by rw [ec]; exact hb), zv_ok, ec]
  refine ⟨_, rfl, ⟨by omega, by rw [srw_n (by decide)]; exact e0, fun j hj => ?_, fun i j h1 h2 h3 => ?_, fun r h1 h2 => ?_, fun j hj => ?_⟩, srw_s, fun r h1 h2 => by rw [srw_n h2, er r h1]⟩
  · unfold gid
    rw [srw_n (by decide)]
    show 3 ≤ gid _ j ∧ gid _ j ≤ 8
    rw [eg]
    exact hg j hj
  · unfold gid at h3
    rw [srw_n (by decide)] at h3
    have h3' : gid (srw X 11 (upd (X 11) 0 (X 11 0 - 1))) i = gid (srw X 11 (upd (X 11) 0 (X 11 0 - 1))) j := h3
    rw [eg, eg] at h3'
    exact hi i j h1 h2 h3'
  · rw [srw_n (by omega), er r (by omega)]
    exact hz6 r h1 h2
  · have e : gid (srw (srw X 11 (upd (X 11) 0 (X 11 0 - 1))) 0 (C n)) j = gid X j := by
      unfold gid
      rw [srw_n (by decide)]
      exact eg j
    have gj := hg j (by omega)
    rw [e, srw_n (by omega), er _ (by omega)]
    exact hc j (by omega)
