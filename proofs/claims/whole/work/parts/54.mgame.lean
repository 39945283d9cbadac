/-! THE REFERENCE's GAME, purely: over its row 23 -/
def gcode (f : Nat → Int32) : Nat := gT f 0 + 6 * gT f 1 + 36 * gT f 2 + 216 * gT f 3
def dig (c p : Nat) : Nat := c / 6 ^ p % 6
theorem gcode_dig {f : Nat → Int32} (h : gok f) {p : Nat} (hp : p < 4) : dig (gcode f) p = gT f p := by
  have t0 := gT_le h (p := 0) (by decide)
  have t1 := gT_le h (p := 1) (by decide)
  have t2 := gT_le h (p := 2) (by decide)
  have t3 := gT_le h (p := 3) (by decide)
  unfold dig gcode
  match p, hp with
  | 0, _ => show _ / 1 % 6 = _; omega
  | 1, _ => show _ / 6 % 6 = _; omega
  | 2, _ => show _ / 36 % 6 = _; omega
  | 3, _ => show _ / 216 % 6 = _; omega
theorem gcode_lt {f : Nat → Int32} (h : gok f) : gcode f < 1296 := by
  have t0 := gT_le h (p := 0) (by decide)
  have t1 := gT_le h (p := 1) (by decide)
  have t2 := gT_le h (p := 2) (by decide)
  have t3 := gT_le h (p := 3) (by decide)
  unfold gcode
  omega
theorem gcode_pos {f : Nat → Int32} : 0 < gcode f ↔ 0 < gsum f := by unfold gcode gsum; omega
/-- whether a move is one: takes tk, tokens c, passes o, a pass ahead a -/
def canN (tk c o a mv : Nat) : Bool := if mv = 20 then decide (0 < o) && (decide (a = 0) && decide (0 < c)) else tk.testBit (mv % 5) && decide (mv % 5 < dig c (mv / 5))
def bsum (p : Nat → Bool) : Nat → Nat
  | 0 => 0
  | n + 1 => bsum p n + (p n).toNat * 2 ^ n
theorem bsum_lt (p : Nat → Bool) : ∀ n, bsum p n < 2 ^ n
  | 0 => by show 0 < 1; decide
  | n + 1 => by
    have := bsum_lt p n
    have h2 : (p n).toNat ≤ 1 := by cases p n <;> decide
    have h3 : (p n).toNat * 2 ^ n ≤ 1 * 2 ^ n := Nat.mul_le_mul_right _ h2
    unfold bsum
    rw [Nat.pow_succ]
    omega
theorem bsum_bit (p : Nat → Bool) : ∀ n i, (bsum p n).testBit i = (decide (i < n) && p i)
  | 0, i => by simp [bsum]
  | n + 1, i => by
    have hl := bsum_lt p n
    have e : bsum p (n + 1) = 2 ^ n * (p n).toNat + bsum p n := by show bsum p n + (p n).toNat * 2 ^ n = _; rw [Nat.add_comm, Nat.mul_comm]
    rw [e, Nat.testBit_two_pow_mul_add _ hl]
    by_cases c : i < n
    · rw [if_pos c, bsum_bit p n i]
      simp [c, Nat.lt_succ_of_lt c]
    · rw [if_neg c]
      by_cases c2 : i = n
      · subst c2
        cases p i <;> simp
      · have : ¬ i < n + 1 := by omega
        have h3 : i - n ≠ 0 := by omega
        simp only [this, decide_false, Bool.false_and]
        obtain ⟨k, hk⟩ : ∃ k, i - n = k + 1 := ⟨i - n - 1, by omega⟩
        rw [hk]
        cases p n <;> simp [Nat.testBit_succ]
theorem tkm_bits : ∀ tk, tk < 32 → ∀ t, t < 6 → tkm tk t = (tk.testBit 0 && decide (0 < t)).toNat + 2 * (tk.testBit 1 && decide (1 < t)).toNat + 4 * (tk.testBit 2 && decide (2 < t)).toNat + 8 * (tk.testBit 3 && decide (3 < t)).toNat + 16 * (tk.testBit 4 && decide (4 < t)).toNat := by decide +kernel
theorem bsum_can {tk c o a : Nat} (htk : tk < 32) : bsum (canN tk c o a) 21 = tkm tk (dig c 0) + 32 * tkm tk (dig c 1) + 1024 * tkm tk (dig c 2) + 32768 * tkm tk (dig c 3) + 1048576 * (decide (0 < o) && (decide (a = 0) && decide (0 < c))).toNat := by
  have hd : ∀ p, dig c p < 6 := fun p => Nat.mod_lt _ (by decide)
  rw [tkm_bits tk htk _ (hd 0), tkm_bits tk htk _ (hd 1), tkm_bits tk htk _ (hd 2), tkm_bits tk htk _ (hd 3)]
  simp only [bsum, canN, Nat.reduceEqDiff, if_false, if_true, Nat.reduceMod, Nat.reduceDiv, Nat.reducePow, Nat.zero_mod, Nat.zero_div, reduceIte, Nat.zero_add]
  omega
theorem gmoves_can {f : Nat → Int32} (h : gok f) : gmoves f = if f 5 = 0 then bsum (canN (xun (f 0)) (gcode f) (xun (f (7 + xun (f 3)))) (xun (f 4))) 21 else 0 := by
  unfold gmoves
  have htk : xun (f 0) < 32 := by have := h.2.1; omega
  split
  · rw [bsum_can htk, gcode_dig h (by decide), gcode_dig h (by decide), gcode_dig h (by decide), gcode_dig h (by decide)]
    unfold gtakes gpassB
    have e4 : (f 4 = 0) ↔ (xun (f 4) = 0) := ⟨fun q => by rw [q]; rfl, fun q => xun_eq q⟩
    have ec : (0 < gsum f) ↔ (0 < gcode f) := gcode_pos.symm
    simp only [e4, ec]
    cases hb : (decide (0 < xun (f (7 + xun (f 3)))) && (decide (xun (f 4) = 0) && decide (0 < gcode f)))
    · simp
    · simp
  · rfl
theorem gmoves_bit {f : Nat → Int32} (h : gok f) (h5 : f 5 = 0) {mv : Nat} (hm : mv < 21) : (gmoves f).testBit mv = canN (xun (f 0)) (gcode f) (xun (f (7 + xun (f 3)))) (xun (f 4)) mv := by
  rw [gmoves_can h, if_pos h5, bsum_bit]
  simp [hm]
section MG
variable {X : XM}
theorem q_in (a b c : Int32) : fX9_in a b c X = some (if a < b ∨ c < a then 0 else 1, X) := by
  unfold fX9_in
  by_cases h1 : a < b
  · simp [h1]
  · by_cases h2 : c < a
    · simp [h1, h2]
    · simp [h1, h2]
theorem q_at {a b : Int32} {p j : Nat} (ha : a = nI p) (hb : b = nI j) : (11 + (4 * a)) + b = nI (11 + 4 * p + j) := by
  rw [ha, hb, show (11 : Int32) = nI 11 from rfl, show (4 : Int32) = nI 4 from rfl, pk_mul, nI_add, nI_add]
theorem q_of {a b : Int32} {p j : Nat} (ha : a = nI p) (hb : b = nI j) (hp : p < 4) (hj : j < 4) : fX9_of a b X = some (X 23 (11 + 4 * p + j), X) := by
  unfold fX9_of
  rw [q_at ha hb, zd_ok (vp_in_nI (by omega) (by decide)), nI_clampN (by omega)]
theorem q_lay {a b v : Int32} {p j : Nat} (ha : a = nI p) (hb : b = nI j) (hp : p < 4) (hj : j < 4) : fX9_lay a b v X = some (srw X 23 (upd (X 23) (11 + 4 * p + j) v)) := by
  unfold fX9_lay
  rw [q_at ha hb, zd_ok (vp_in_nI (by omega) (by decide)), nI_clampN (by omega), zl_ok, xup_eq]
theorem q_unit {a : Int32} {p : Nat} (ha : a = nI p) (hp : p < 4) : fX9_unit a X = some (nI (6 ^ p), X) := by
  subst ha
  match p, hp with
  | 0, _ => rfl
  | 1, _ => rfl
  | 2, _ => rfl
  | 3, _ => rfl
theorem q_tokensIn {a b : Int32} {c p : Nat} (ha : a = nI c) (hb : b = nI p) (hp : p < 4) (hc : c < 2 ^ 31) : fX9_tokensIn a b X = some (nI (dig c p), X) := by
  have h6 : 6 ^ p < 2 ^ 31 := by
    match p, hp with
    | 0, _ => decide
    | 1, _ => decide
    | 2, _ => decide
    | 3, _ => decide
  have h0 : 0 < 6 ^ p := Nat.pow_pos (by decide)
  have hd : c / 6 ^ p < 2 ^ 31 := Nat.lt_of_le_of_lt (Nat.div_le_self _ _) hc
  unfold fX9_tokensIn
  rw [q_unit hb hp, zi_ok, zz_ok (nI_ne0 h0 h6), ha, pk_div hc h0 h6, show (6 : Int32) = nI 6 from rfl]
  unfold o_rem
  rw [pk_rem hd (by decide) (by decide)]
  rfl
theorem q_code : fX9_code X = some (nI (gcode (X 23)), X) := by
  unfold fX9_code
  rw [q_unit (a := 0) (p := 0) rfl (by decide), zi_ok, q_of (a := 0) (b := 0) (p := 0) (j := 0) rfl rfl (by decide) (by decide), zi_ok, zl_ok]
  rw [q_unit (a := 1) (p := 1) rfl (by decide), zi_ok, q_of (a := 1) (b := 0) (p := 1) (j := 0) rfl rfl (by decide) (by decide), zi_ok, zl_ok]
  rw [q_unit (a := 2) (p := 2) rfl (by decide), zi_ok, q_of (a := 2) (b := 0) (p := 2) (j := 0) rfl rfl (by decide) (by decide), zi_ok, zl_ok]
  rw [q_unit (a := 3) (p := 3) rfl (by decide), zi_ok, q_of (a := 3) (b := 0) (p := 3) (j := 0) rfl rfl (by decide) (by decide), zi_ok, zl_ok]
  have e : ∀ p, X 23 (11 + 4 * p + 0) = nI (gT (X 23) p) := fun p => (nI_xun _).symm
  rw [e 0, e 1, e 2, e 3, show (0 : Int32) = nI 0 from rfl, pk_mul, pk_mul, pk_mul, pk_mul, nI_add, nI_add, nI_add, nI_add]
  unfold gcode
  congr 3
  simp only [Nat.reducePow]
  omega
theorem q_own {m : Nat} (hm : X 23 3 = nI m) (hm1 : m ≤ 1) : fX9_own X = some (X 23 (7 + m), X) := by
  unfold fX9_own
  rw [hm, show (7 : Int32) = nI 7 from rfl, nI_add, zd_ok (vp_in_nI (by omega) (by decide)), nI_clampN (by omega)]
theorem q_others {m : Nat} (hm : X 23 3 = nI m) (hm1 : m ≤ 1) : fX9_others X = some (X 23 (8 - m), X) := by
  unfold fX9_others
  rw [hm, show (8 : Int32) = nI 8 from rfl, pk_sub (by omega), zd_ok (vp_in_nI (by omega) (by decide)), nI_clampN (by omega)]
theorem nI_lt1 {t : Nat} (ht : t < 2 ^ 31) : nI t < 1 ↔ t = 0 := by
  rw [show (1 : Int32) = nI 1 from rfl, nI_ltI ht (by decide)]
  omega
theorem q_isAllowed (h : gok (X 23)) {a : Int32} {t : Nat} (ha : a = nI t) (ht0 : 1 ≤ t) (ht : t ≤ 5) : fX9_isAllowed a X = some (if (xun (X 23 0)).testBit (t - 1) then 1 else 0, X) := by
  unfold fX9_isAllowed
  have htk := h.2.1
  rw [q_in, zi_ok, ha]
  have n1 : ¬ (nI t < 1 ∨ 5 < nI t) := by
    rw [nI_lt1 (by omega), show (5 : Int32) = nI 5 from rfl, nI_ltI (by decide) (by omega)]
    omega
  rw [if_neg n1, if_neg (by decide)]
  have hi := f_isIn (X := X) (a := X 23 0) (b := nI t - 1) (n := xun (X 23 0)) (k := t - 1) (nI_xun _).symm (by rw [show (1 : Int32) = nI 1 from rfl, pk_sub ht0]) (by omega) (by omega)
  unfold fX8_isIn at hi
  by_cases c : o_shr (X 23 0) (nI t - 1) &&& 1 = 1
  · rw [if_pos c] at hi ⊢
    exact hi
  · rw [if_neg c] at hi ⊢
    exact hi
theorem q_can (h : gok (X 23)) {b1 b2 b3 b4 : Int32} {mv c o a : Nat} (h1 : b1 = nI mv) (h2 : b2 = nI c) (h3 : b3 = nI o) (h4 : b4 = nI a) (hmv : mv < 21) (hc : c < 1296) (ho : o < 2 ^ 31) (ha : a < 2 ^ 31) : fX9_can b1 b2 b3 b4 X = some (if canN (xun (X 23 0)) c o a mv then 1 else 0, X) := by
  subst h1 h2 h3 h4
  unfold fX9_can canN
  by_cases e20 : mv = 20
  · subst e20
    rw [if_pos rfl, if_pos (show nI 20 = (20 : Int32) from rfl)]
    by_cases c1 : nI o ≤ 0
    · rw [if_pos c1]
      have := (nI_le0 ho).mp c1
      simp [this]
    · have c1' : 0 < o := by
        rcases Nat.eq_zero_or_pos o with q | q
        · exact absurd ((nI_le0 ho).mpr q) c1
        · exact q
      rw [if_neg c1]
      by_cases c2 : nI a = 0
      · have z := (nI_z (by omega)).mp c2
        rw [if_pos c2]
        by_cases c3 : nI c ≤ 0
        · have := (nI_le0 (by omega)).mp c3
          rw [if_pos c3]
          simp [this]
        · have c3' : 0 < c := by
            rcases Nat.eq_zero_or_pos c with q | q
            · exact absurd ((nI_le0 (by omega)).mpr q) c3
            · exact q
          rw [if_neg c3]
          simp [c1', z, c3']
      · rw [if_neg c2]
        have : ¬ a = 0 := fun q => c2 (by rw [q]; rfl)
        simp [this]
  · rw [if_neg (show ¬ nI mv = (20 : Int32) from fun q => e20 (nI_inj (b := 20) (by omega) (by decide) q)), if_neg e20]
    have e5 : o_rem (nI mv) 5 + 1 = nI (mv % 5 + 1) := by
      unfold o_rem
      rw [show (5 : Int32) = nI 5 from rfl, pk_rem (by omega) (by decide) (by decide), nI_1]
    have ed : nI mv / 5 = nI (mv / 5) := by rw [show (5 : Int32) = nI 5 from rfl, pk_div (by omega) (by decide) (by decide)]
    have hm5 := Nat.mod_lt mv (show 5 > 0 by decide)
    rw [e5, q_isAllowed h rfl (by omega) (by omega), zi_ok, Nat.add_sub_cancel]
    by_cases c1 : (xun (X 23 0)).testBit (mv % 5) = true
    · rw [if_pos c1, if_neg (by decide), q_tokensIn rfl ed (by omega) (by omega), zi_ok]
      have hd6 : dig c (mv / 5) < 6 := Nat.mod_lt _ (by decide)
      have hlt : nI (dig c (mv / 5)) < nI (mv % 5 + 1) ↔ dig c (mv / 5) < mv % 5 + 1 := nI_ltI (by omega) (by omega)
      by_cases c2 : dig c (mv / 5) < mv % 5 + 1
      · rw [if_pos (hlt.mpr c2)]
        have : ¬ mv % 5 < dig c (mv / 5) := by omega
        simp [this]
      · rw [if_neg (fun q => c2 (hlt.mp q))]
        have : mv % 5 < dig c (mv / 5) := by omega
        simp [c1, this]
    · rw [if_neg c1, if_pos rfl]
      simp [c1]
theorem shl1 : ∀ i, i < 31 → o_shl 1 (nI i) = nI (2 ^ i) := by decide +kernel
/-- the set of the first moves, on and on -/
theorem q_movesNow_9 (h : gok (X 23)) (h5 : X 23 5 = 0) {c m : Nat} (hc : c < 1296) (hm : X 23 3 = nI m) (hm1 : m ≤ 1) : ∀ (n i : Nat), i ≤ 21 → 21 < i + n → fX9_movesNow_9 n (nI (bsum (canN (xun (X 23 0)) c (xun (X 23 (7 + m))) (xun (X 23 4))) i)) (nI c) (nI i) X = some (nI (bsum (canN (xun (X 23 0)) c (xun (X 23 (7 + m))) (xun (X 23 4))) 21), X) := by
  intro n
  induction n with
  | zero => intro i h1 h2; omega
  | succ n ih =>
    intro i h1 h2
    rw [fX9_movesNow_9]
    by_cases ci : i = 21
    · subst ci
      rw [if_pos (show (21 : Int32) ≤ nI 21 from by decide)]
    · rw [if_neg (show ¬ (21 : Int32) ≤ nI i from fun q => by rw [show (21 : Int32) = nI 21 from rfl, nI_leI (by decide) (by omega)] at q; omega), if_pos h5, q_own hm hm1, zi_ok]
      have ho : xun (X 23 (7 + m)) < 2 ^ 31 := by
        rcases (show m = 0 ∨ m = 1 by omega) with rfl | rfl
        · have := h.2.2.2.2.2.2.2.1; show xun (X 23 7) < _; omega
        · have := h.2.2.2.2.2.2.2.2.1; show xun (X 23 8) < _; omega
      have ha : xun (X 23 4) < 2 ^ 31 := by have := h.2.2.2.2.2.1; omega
      rw [q_can h rfl rfl (nI_xun _).symm (nI_xun _).symm (by omega) hc ho ha, zi_ok]
      have hl := bsum_lt (canN (xun (X 23 0)) c (xun (X 23 (7 + m))) (xun (X 23 4))) i
      have step := ih (i + 1) (by omega) (by omega)
      rw [← nI_1] at step
      by_cases cc : canN (xun (X 23 0)) c (xun (X 23 (7 + m))) (xun (X 23 4)) i = true
      · rw [if_pos cc, if_neg (by decide), zl_ok, shl1 i (by omega), or_sum (b := 1) hl (Nat.mul_one _).symm]
        have e : bsum (canN (xun (X 23 0)) c (xun (X 23 (7 + m))) (xun (X 23 4))) (i + 1) = bsum (canN (xun (X 23 0)) c (xun (X 23 (7 + m))) (xun (X 23 4))) i + 2 ^ i := by
          show _ + _ * _ = _
          rw [cc]
          simp
        rw [e] at step
        exact step
      · rw [if_neg cc, if_pos rfl, zl_ok]
        have e : bsum (canN (xun (X 23 0)) c (xun (X 23 (7 + m))) (xun (X 23 4))) (i + 1) = bsum (canN (xun (X 23 0)) c (xun (X 23 (7 + m))) (xun (X 23 4))) i := by
          show _ + _ * _ = _
          rw [Bool.eq_false_iff.mpr cc]
          simp
        rw [e] at step
        rw [show (0 : Int32) = nI 0 from rfl, fa_or, Nat.or_zero]
        exact step
theorem q_movesNow (h : gok (X 23)) : fX9_movesNow X = some (nI (gmoves (X 23)), X) := by
  obtain ⟨m, hm1, hm, um⟩ := gok_mover h
  unfold fX9_movesNow
  rw [q_code, zi_ok, gmoves_can h, um]
  by_cases h5 : X 23 5 = 0
  · rw [if_pos h5]
    exact q_movesNow_9 h h5 (gcode_lt h) hm hm1 fuel 0 (by decide) (by have := fuel_ge; omega)
  · rw [if_neg h5]
    obtain ⟨k, hk⟩ : ∃ k, fuel = k + 1 := ⟨999999, rfl⟩
    rw [hk, fX9_movesNow_9, if_neg (by decide), if_neg h5]
    rfl
theorem q_isOver (h : gok (X 23)) : fX9_isOver X = some (if gmoves (X 23) = 0 then 1 else 0, X) := by
  unfold fX9_isOver
  rw [q_movesNow h, zi_ok]
  have hl := gmoves_lt h
  by_cases c : gmoves (X 23) = 0
  · rw [if_pos c, if_pos (by rw [c]; rfl)]
  · rw [if_neg c, if_neg (fun q => c ((nI_z (by omega)).mp q))]
theorem q_winner (h : gok (X 23)) : fX9_winner X = some (gwin (X 23), X) := by
  unfold fX9_winner gwin
  rw [q_isOver h, zi_ok]
  have hb := b01 h.2.2.2.2.2.2.1
  by_cases c : gmoves (X 23) = 0
  · rw [if_pos c, if_pos c, if_neg (by decide)]
    rcases hb with q | q
    · rw [q, if_neg (by decide), if_pos rfl]
    · rw [q, if_pos rfl, if_neg (by decide)]
  · rw [if_neg c, if_neg c, if_pos rfl]
end MG
