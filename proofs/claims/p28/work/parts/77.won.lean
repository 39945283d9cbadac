/-! THE SOLVER's search -/
section SW
def bI (b : Bool) : Int32 := if b = true then 1 else 0
theorem bI_0 (b : Bool) : bI b = 0 ↔ b = false := by cases b <;> decide
theorem bI_1 (b : Bool) : bI b = 1 ↔ b = true := by cases b <;> decide
def Vs (f : Nat → Int32) (s : Nat) : Int32 := VV f 25 (s / 18) (1 - s / 9 % 2) (s / 3 % 3) (s % 3)
def Ws (f : Nat → Int32) (s : Nat) : Bool := WW f 25 (s / 18) (1 - s / 9 % 2) (s / 3 % 3) (s % 3)
def cnB (f : Nat → Int32) (s mv : Nat) : Bool := canN (xun (f 0)) (s / 18) (s / 3 % 3) (1 - s / 9 % 2) mv
def mwV (f : Nat → Int32) (s mv : Nat) : Int32 := mvV f (VV f 25) (s / 18) (s / 3 % 3) (s % 3) mv
def mwW (f : Nat → Int32) (s mv : Nat) : Bool := mvW f (WW f 25) (s / 18) (s / 3 % 3) (s % 3) mv
def wpB (f : Nat → Int32) (s mv : Nat) : Bool := cnB f s mv && mwW f s mv
theorem Vs_eq {f : Nat → Int32} {s : Nat} (hs : s < 23328) : Vs f s = mxI (cnB f s) (mwV f s) (-(f 1)) 21 := VV_eq (by omega) (by omega) (by omega)
theorem Ws_eq {f : Nat → Int32} {s : Nat} (hs : s < 23328) : Ws f s = anB (wpB f s) 21 := WW_eq (by omega) (by omega) (by omega)
def msN (s : Nat) : Nat := dsm (s / 18) + s / 3 % 3 + s % 3
theorem msN_le (s : Nat) : msN s ≤ 24 := by
  have := dsm_le (s / 18)
  unfold msN
  omega
def SVr (f : Nat → Int32) (X : XM) : Prop := X 13 0 = f 0 ∧ X 13 1 = f 1 ∧ X 13 2 = nI (bsum (pmP f) 4) ∧ (∀ mv, mv < 21 → X 16 mv = nI (stpN mv)) ∧ ∀ mv, mv < 21 → X 17 mv = gnI f mv
def SV (f : Nat → Int32) (X : XM) : Prop := SVr f X ∧ (∀ s, s < 23328 → X 14 s = -100000 ∨ X 14 s = Vs f s) ∧ ∀ s, s < 23328 → X 15 s = -100000 ∨ X 15 s = bI (Ws f s)
theorem SVr_cong {f : Nat → Int32} {X Y : XM} (h : SVr f X) (h1 : Y 13 = X 13) (h2 : Y 16 = X 16) (h3 : Y 17 = X 17) : SVr f Y := by
  unfold SVr
  rw [h1, h2, h3]
  exact h
theorem SV_cong {f : Nat → Int32} {X Y : XM} (h : SV f X) (h1 : ∀ r, 13 ≤ r → r ≤ 17 → Y r = X r) : SV f Y := by
  refine ⟨SVr_cong h.1 (h1 13 (by decide) (by decide)) (h1 16 (by decide) (by decide)) (h1 17 (by decide) (by decide)), ?_⟩
  rw [h1 14 (by decide) (by decide), h1 15 (by decide) (by decide)]
  exact h.2
theorem SV_w15 {f : Nat → Int32} {X : XM} {s : Nat} (h : SV f X) : SV f (srw X 15 (upd (X 15) s (bI (Ws f s)))) := by
  refine ⟨SVr_cong h.1 (srw_n (by decide)) (srw_n (by decide)) (srw_n (by decide)), fun q hq => ?_, fun q hq => ?_⟩
  · rw [srw_n (by decide)]; exact h.2.1 q hq
  · rw [srw_s]
    unfold upd
    by_cases e : q = s
    · rw [if_pos e, e]; exact Or.inr rfl
    · rw [if_neg e]; exact h.2.2 q hq
theorem SV_w14 {f : Nat → Int32} {X : XM} {s : Nat} (h : SV f X) : SV f (srw X 14 (upd (X 14) s (Vs f s))) := by
  refine ⟨SVr_cong h.1 (srw_n (by decide)) (srw_n (by decide)) (srw_n (by decide)), fun q hq => ?_, fun q hq => ?_⟩
  · rw [srw_s]
    unfold upd
    by_cases e : q = s
    · rw [if_pos e, e]; exact Or.inr rfl
    · rw [if_neg e]; exact h.2.1 q hq
  · rw [srw_n (by decide)]; exact h.2.2 q hq
def WcK (f : Nat → Int32) (d : Nat) (Wc : Int32 → Int32 → XM → Option (Int32 × XM)) : Prop := ∀ (s e : Nat) (X : XM), s < 23328 → msN s < d → e + msN s ≤ 24 → SV f X → ∃ Y, Wc (nI s) (nI e) X = some (bI (Ws f s), Y) ∧ SV f Y ∧ ∀ r, r ≠ 15 → Y r = X r
def VcK (f : Nat → Int32) (d : Nat) (Vc : Int32 → Int32 → XM → Option (Int32 × XM)) : Prop := ∀ (s e : Nat) (X : XM), s < 23328 → msN s < d → e + msN s ≤ 24 → SV f X → ∃ Y, Vc (nI s) (nI e) X = some (Vs f s, Y) ∧ SV f Y ∧ ∀ r, r ≠ 14 → Y r = X r
theorem f_isInB {a b : Int32} {n k : Nat} {X : XM} (ha : a = nI n) (hb : b = nI k) (hn : n < 2 ^ 31) (hk : k < 31) : fX8_isIn a b X = some (bI (n.testBit k), X) := f_isIn ha hb hn hk
theorem i21 {i : Nat} (h : i < 21) : ¬ (20 : Int32) < nI i := by rw [show (20 : Int32) = nI 20 from rfl, nI_ltI (by decide) (by omega)]; omega
theorem i21l {i : Nat} (h : i < 21) : nI i < (21 : Int32) := by rw [show (21 : Int32) = nI 21 from rfl, nI_ltI (by omega) (by decide)]; exact h
theorem i21n {i : Nat} (h : i < 21) : ¬ (21 : Int32) ≤ nI i := by rw [show (21 : Int32) = nI 21 from rfl, nI_leI (by decide) (by omega)]; omega
theorem cn_bsum {f : Nat → Int32} {s : Nat} : bsum (cnB f s) 21 < 2 ^ 31 := Nat.lt_of_lt_of_le (bsum_lt _ 21) (by decide)
theorem cn_bit {f : Nat → Int32} {s mv : Nat} (h : mv < 21) : (bsum (cnB f s) 21).testBit mv = cnB f s mv := by rw [bsum_bit, decide_eq_true h, Bool.true_and]
theorem pm_lt31 {f : Nat → Int32} {c : Nat} : pmN f c 4 < 2 ^ 31 := Nat.lt_of_lt_of_le (pmN_lt 4 (Nat.le_refl _)) (by decide)
/-- a move leads to a smaller spot -/
theorem cn_next {f : Nat → Int32} {s mv : Nat} (hs : s < 23328) (hmv : mv < 21) (hc : cnB f s mv = true) : stpN mv ≤ tuN s ∧ tuN s - stpN mv < 23328 ∧ msN (tuN s - stpN mv) < msN s ∧ Vs f (tuN s - stpN mv) = VV f 25 (bcN (s / 18) mv) (baN mv) (s % 3) (boN (s / 3 % 3) mv) ∧ Ws f (tuN s - stpN mv) = WW f 25 (bcN (s / 18) mv) (baN mv) (s % 3) (boN (s / 3 % 3) mv) := by
  obtain ⟨a1, a2, a3, a4, a5, a6⟩ := spot_next hs hmv hc
  have hl := can_less (t := s % 3) (by omega) hmv hc
  refine ⟨a1, a2, ?_, ?_, ?_⟩
  · unfold msN
    rw [a3, a5, a6]
    omega
  · unfold Vs
    rw [a3, a4, a5, a6]
  · unfold Ws
    rw [a3, a4, a5, a6]
theorem f_winsBy {f : Nat → Int32} {d : Nat} {Wc : Int32 → Int32 → XM → Option (Int32 × XM)} (K : WcK f d Wc) {s e mv : Nat} {X : XM} (hs : s < 23328) (hmv : mv < 21) (hc : cnB f s mv = true) (hd : msN s ≤ d) (he : e + msN s ≤ 24) (h : SV f X) :
    ∃ Y, fX7_winsBy Wc (nI mv) (nI (tuN s)) (bI (psB f (s / 18) mv)) (nI e) X = some (bI (mwW f s mv), Y) ∧ SV f Y ∧ ∀ r, r ≠ 15 → Y r = X r := by
  unfold fX7_winsBy mwW mvW
  cases hp : psB f (s / 18) mv
  · obtain ⟨a1, a2, a3, _, a5⟩ := cn_next hs hmv hc
    obtain ⟨Y, hY, hS, hr⟩ := K (tuN s - stpN mv) (e + 1) X a2 (by omega) (by omega) h
    refine ⟨Y, ?_, hS, hr⟩
    rw [if_pos (show bI false = 0 from rfl), if_neg (nI_pos (by omega)), if_pos (i21l hmv), zd_ok (vp_in_nI hmv (by decide)), nI_clampN (by omega), h.1.2.2.2.1 mv hmv, nI_sub a1, nI_1, hY, zi_ok, a5]
    cases WW f 25 (bcN (s / 18) mv) (baN mv) (s % 3) (boN (s / 3 % 3) mv) <;> rfl
  · refine ⟨X, ?_, h, fun r _ => rfl⟩
    rw [if_neg (show ¬ bI true = 0 by decide)]
    rfl
theorem f_wonAt_46 {f : Nat → Int32} {d : Nat} {Wc : Int32 → Int32 → XM → Option (Int32 × XM)} (K : WcK f d Wc) {s e : Nat} (hs : s < 23328) (hd : msN s ≤ d) (he : e + msN s ≤ 24) : ∀ (n i : Nat) (X : XM), i ≤ 21 → 21 < i + n → SV f X →
    ∃ Y, fX7_wonAt_46 Wc n (nI s) (nI e) (nI (bsum (cnB f s) 21)) (nI (pmN f (s / 18) 4)) (nI (tuN s)) (bI (anB (wpB f s) i)) (nI i) X = some (bI (Ws f s), Y) ∧ SV f Y ∧ ∀ r, r ≠ 15 → Y r = X r := by
  have fin : ∀ (X : XM), SV f X → (zd (nI s) 23328 (zl (xup X 15 (Int32.toNatClampNeg (nI s)) (bI (Ws f s))) (fun X_3 => zd (nI s) 23328 (if (X_3 15 (Int32.toNatClampNeg (nI s))) = 1 then some ((1 : Int32), X_3) else some (0, X_3))))) = some (bI (Ws f s), srw X 15 (upd (X 15) s (bI (Ws f s)))) := by
    intro X hX
    rw [zd_ok (vp_in_nI hs (by decide)), zl_ok, zd_ok (vp_in_nI hs (by decide)), nI_clampN (by omega), xup_eq, srw_s]
    have e1 : upd (X 15) s (bI (Ws f s)) s = bI (Ws f s) := pk_us
    rw [e1]
    cases hw : Ws f s <;> rfl
  intro n
  induction n with
  | zero => intro i X h1 h2; omega
  | succ n ih =>
    intro i X h1 h2 hX
    rw [fX7_wonAt_46]
    by_cases ci : i = 21
    · subst ci
      rw [if_pos (show (20 : Int32) < nI 21 by decide), ← Ws_eq hs]
      exact ⟨_, fin X hX, SV_w15 hX, fun r hr => srw_n hr⟩
    · have hi : i < 21 := by omega
      rw [if_neg (i21 hi)]
      cases ha : anB (wpB f s) i
      · rw [if_pos (show bI false = 0 from rfl), f_isInB rfl rfl cn_bsum (by omega), zi_ok, cn_bit hi, nI_1]
        have step : ∀ (b : Bool) (Y : XM), b = wpB f s i → SV f Y → (∀ r, r ≠ 15 → Y r = X r) → ∃ Z, fX7_wonAt_46 Wc n (nI s) (nI e) (nI (bsum (cnB f s) 21)) (nI (pmN f (s / 18) 4)) (nI (tuN s)) (bI b) (nI (i + 1)) Y = some (bI (Ws f s), Z) ∧ SV f Z ∧ ∀ r, r ≠ 15 → Z r = X r := by
          intro b Y hb hY hr
          have e1 : anB (wpB f s) (i + 1) = b := by
            show (anB (wpB f s) i || wpB f s i) = b
            rw [ha, Bool.false_or, hb]
          obtain ⟨Z, z1, z2, z3⟩ := ih (i + 1) Y (by omega) (by omega) hY
          rw [e1] at z1
          exact ⟨Z, z1, z2, fun r h => by rw [z3 r h, hr r h]⟩
        cases hc : cnB f s i
        · rw [if_pos (show bI false = 0 from rfl)]
          exact step false X (by unfold wpB; rw [hc, Bool.false_and]) hX (fun r _ => rfl)
        · rw [if_neg (show ¬ bI true = 0 by decide), f_isInB rfl rfl pm_lt31 (by omega), zi_ok, ps_bit hi]
          obtain ⟨Y, y1, y2, y3⟩ := f_winsBy K hs hi hc hd he hX
          rw [y1, zi_ok]
          have ew : wpB f s i = mwW f s i := by unfold wpB; rw [hc, Bool.true_and]
          cases hw : mwW f s i
          · rw [if_pos (show bI false = 0 from rfl)]
            exact step false Y (by rw [ew, hw]) y2 y3
          · rw [if_neg (show ¬ bI true = 0 by decide)]
            exact step true Y (by rw [ew, hw]) y2 y3
      · have e1 : Ws f s = true := by rw [Ws_eq hs]; exact anB_up h1 ha
        have e2 : bI true = bI (Ws f s) := by rw [e1]
        rw [if_neg (show ¬ bI true = 0 by decide), e2]
        exact ⟨_, fin X hX, SV_w15 hX, fun r hr => srw_n hr⟩
theorem f_wonAt {f : Nat → Int32} (hf : gok f) : ∀ d, WcK f d (fX7_wonAt d) := by
  have htk : xun (f 0) < 32 := by have := hf.2.1; omega
  intro d
  induction d with
  | zero => intro s e X _ h; omega
  | succ d ih =>
    intro s e X hs hd he hX
    show ∃ Y, fX7_wonAtB (fX7_wonAt d) (nI s) (nI e) X = _ ∧ _
    unfold fX7_wonAtB
    rw [f_isSpot hs (by omega), zi_ok, if_neg i10, zd_ok (vp_in_nI hs (by decide)), nI_clampN (by omega)]
    by_cases c : X 15 s = -100000
    · have e0 : X 13 0 = nI (xun (f 0)) := by rw [hX.1.1, nI_xun]
      rw [if_pos c, f_movesAt e0 htk hs, zi_ok, f_poisonAt hX.1.2.2.1 hs, zi_ok, f_turned hs, zi_ok]
      exact f_wonAt_46 ih hs (by omega) he fuel 0 X (by decide) (by have := fuel_ge; omega) hX
    · have e1 : X 15 s = bI (Ws f s) := (hX.2.2 s hs).resolve_left c
      refine ⟨X, ?_, hX, fun r _ => rfl⟩
      rw [if_neg c, zd_ok (vp_in_nI hs (by decide)), e1]
      cases Ws f s <;> rfl
theorem f_valueBy {f : Nat → Int32} {d : Nat} {Vc : Int32 → Int32 → XM → Option (Int32 × XM)} (K : VcK f d Vc) {s e mv : Nat} {X : XM} (hs : s < 23328) (hmv : mv < 21) (hc : cnB f s mv = true) (hd : msN s ≤ d) (he : e + msN s ≤ 24) (h : SV f X) :
    ∃ Y, fX7_valueBy Vc (nI mv) (nI (tuN s)) (bI (psB f (s / 18) mv)) (nI e) X = some (mwV f s mv, Y) ∧ SV f Y ∧ ∀ r, r ≠ 14 → Y r = X r := by
  unfold fX7_valueBy mwV mvV
  rw [if_neg (nI_pos (by omega)), if_neg (i21n hmv), if_pos (i21l hmv)]
  cases hp : psB f (s / 18) mv
  · obtain ⟨a1, a2, a3, a4, _⟩ := cn_next hs hmv hc
    obtain ⟨Y, hY, hS, hr⟩ := K (tuN s - stpN mv) (e + 1) X a2 (by omega) (by omega) h
    refine ⟨Y, ?_, hS, hr⟩
    rw [if_pos (show bI false = 0 from rfl), zd_ok (vp_in_nI hmv (by decide)), zd_ok (vp_in_nI hmv (by decide)), nI_clampN (by omega), h.1.2.2.2.1 mv hmv, nI_sub a1, nI_1, hY, zi_ok, a4, h.1.2.2.2.2 mv hmv]
    rfl
  · refine ⟨X, ?_, h, fun r _ => rfl⟩
    rw [if_neg (show ¬ bI true = 0 by decide), zd_ok (vp_in_nI hmv (by decide)), nI_clampN (by omega), h.1.2.2.2.2 mv hmv, h.1.2.1]
    rfl
def xsI (f : Nat → Int32) (s : Nat) (z : Int32) (i : Nat) : Int32 := if anB (cnB f s) i = true then mxI (cnB f s) (mwV f s) (-(f 1)) i else z
theorem xsI_0 {f : Nat → Int32} {s : Nat} {z : Int32} : xsI f s z 0 = z := if_neg (show ¬ false = true from Bool.false_ne_true)
theorem xsI_end {f : Nat → Int32} {s : Nat} {z : Int32} (hs : s < 23328) (hz : anB (cnB f s) 21 = false → z = -(f 1)) : xsI f s z 21 = Vs f s := by
  unfold xsI
  rw [Vs_eq hs]
  cases ha : anB (cnB f s) 21
  · rw [if_neg (by decide), hz ha, mxI_none ha]
  · rw [if_pos rfl]
theorem xsI_step {f : Nat → Int32} (hf : gok f) {s : Nat} {z : Int32} {i : Nat} (hi : i < 21) (hz : anB (cnB f s) 21 = true → z = -100000) (hc : cnB f s i = true) : o_max (xsI f s z i) (mwV f s i) = xsI f s z (i + 1) := by
  have e1 : anB (cnB f s) (i + 1) = true := anB_of (Nat.lt_succ_self i) hc
  unfold xsI
  rw [if_pos e1]
  show _ = if cnB f s i = true then _ else _
  rw [if_pos hc]
  by_cases a : anB (cnB f s) i = true
  · rw [if_pos a, if_pos a]
  · rw [if_neg a, if_neg a, hz (anB_of hi hc)]
    show (if -100000 < mwV f s i then _ else _) = _
    exact if_pos (mvV_lo hf hi)
theorem xsI_skip {f : Nat → Int32} {s : Nat} {z : Int32} {i : Nat} (hc : cnB f s i = false) : xsI f s z (i + 1) = xsI f s z i := by
  unfold xsI
  show (if (anB (cnB f s) i || cnB f s i) = true then (if cnB f s i = true then _ else _) else _) = _
  rw [hc, Bool.or_false, if_neg (show ¬ false = true by decide)]
theorem f_valueAt_59 {f : Nat → Int32} (hf : gok f) {d : Nat} {Vc : Int32 → Int32 → XM → Option (Int32 × XM)} (K : VcK f d Vc) {s e : Nat} {z : Int32} (hs : s < 23328) (hd : msN s ≤ d) (he : e + msN s ≤ 24) (hz1 : anB (cnB f s) 21 = false → z = -(f 1)) (hz2 : anB (cnB f s) 21 = true → z = -100000) : ∀ (n i : Nat) (X : XM), i ≤ 21 → 21 < i + n → SV f X →
    ∃ Y, fX7_valueAt_59 Vc n (nI s) (nI e) (nI (bsum (cnB f s) 21)) (nI (pmN f (s / 18) 4)) (nI (tuN s)) (xsI f s z i) (nI i) X = some (Vs f s, Y) ∧ SV f Y ∧ ∀ r, r ≠ 14 → Y r = X r := by
  intro n
  induction n with
  | zero => intro i X h1 h2; omega
  | succ n ih =>
    intro i X h1 h2 hX
    rw [fX7_valueAt_59]
    by_cases ci : i = 21
    · subst ci
      refine ⟨srw X 14 (upd (X 14) s (Vs f s)), ?_, SV_w14 hX, fun r hr => srw_n hr⟩
      rw [if_pos (show (20 : Int32) < nI 21 by decide), xsI_end hs hz1, zd_ok (vp_in_nI hs (by decide)), zl_ok, zd_ok (vp_in_nI hs (by decide)), nI_clampN (by omega), xup_eq, srw_s, pk_us]
    · have hi : i < 21 := by omega
      rw [if_neg (i21 hi), f_isInB rfl rfl cn_bsum (by omega), zi_ok, cn_bit hi, nI_1]
      cases hc : cnB f s i
      · rw [if_pos (show bI false = 0 from rfl), ← xsI_skip (z := z) hc]
        exact ih (i + 1) X (by omega) (by omega) hX
      · rw [if_neg (show ¬ bI true = 0 by decide), f_isInB rfl rfl pm_lt31 (by omega), zi_ok, ps_bit hi]
        obtain ⟨Y, y1, y2, y3⟩ := f_valueBy K hs hi hc hd he hX
        rw [y1, zi_ok, zl_ok, xsI_step hf hi hz2 hc]
        obtain ⟨Z, z1, z2, z3⟩ := ih (i + 1) Y (by omega) (by omega) y2
        exact ⟨Z, z1, z2, fun r h => by rw [z3 r h, y3 r h]⟩
theorem f_valueAt {f : Nat → Int32} (hf : gok f) : ∀ d, VcK f d (fX7_valueAt d) := by
  have htk : xun (f 0) < 32 := by have := hf.2.1; omega
  intro d
  induction d with
  | zero => intro s e X _ h; omega
  | succ d ih =>
    intro s e X hs hd he hX
    show ∃ Y, fX7_valueAtB (fX7_valueAt d) (nI s) (nI e) X = _ ∧ _
    unfold fX7_valueAtB
    rw [f_isSpot hs (by omega), zi_ok, if_neg i10, zd_ok (vp_in_nI hs (by decide)), nI_clampN (by omega)]
    by_cases c : X 14 s = -100000
    · have e0 : X 13 0 = nI (xun (f 0)) := by rw [hX.1.1, nI_xun]
      rw [if_pos c, f_movesAt e0 htk hs, zi_ok, f_poisonAt hX.1.2.2.1 hs, zi_ok, f_turned hs, zi_ok]
      have eb : bsum (canN (xun (f 0)) (s / 18) (s / 3 % 3) (1 - s / 9 % 2)) 21 = bsum (cnB f s) 21 := rfl
      rw [eb]
      by_cases cm : bsum (cnB f s) 21 = 0
      · have ha := (bsum_any _ 21).mp cm
        have g := f_valueAt_59 hf ih hs (by omega) he (z := -(f 1)) (fun _ => rfl) (fun q => absurd (q.symm.trans ha) (by decide)) fuel 0 X (by decide) (by have := fuel_ge; omega) hX
        rw [xsI_0, cm] at g
        rw [if_pos (by rw [cm]; rfl), zl_ok, hX.1.2.1]
        exact g
      · have ha : anB (cnB f s) 21 = true := by
          cases q : anB (cnB f s) 21
          · exact absurd ((bsum_any _ 21).mpr q) cm
          · rfl
        have g := f_valueAt_59 hf ih hs (by omega) he (z := -100000) (fun q => absurd (q.symm.trans ha) (by decide)) (fun _ => rfl) fuel 0 X (by decide) (by have := fuel_ge; omega) hX
        rw [xsI_0] at g
        rw [if_neg (fun q => cm ((nI_z (Nat.lt_trans cn_bsum (by decide))).mp q))]
        exact g
    · have e1 : X 14 s = Vs f s := (hX.2.1 s hs).resolve_left c
      refine ⟨X, ?_, hX, fun r _ => rfl⟩
      rw [if_neg c, zd_ok (vp_in_nI hs (by decide)), e1]
end SW
