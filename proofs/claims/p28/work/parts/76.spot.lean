/-! THE SOLVER's spots -/
section SQ
theorem mxI_b {p : Nat → Bool} {w : Nat → Int32} {b b2 : Int32} : ∀ {n : Nat}, anB p n = true → mxI p w b n = mxI p w b2 n := by
  intro n
  induction n with
  | zero => intro h; exact absurd h Bool.false_ne_true
  | succ n ih =>
    intro h
    unfold mxI
    by_cases a : anB p n = true
    · rw [ih a]
    · by_cases c : p n = true
      · rw [if_pos c, if_pos c, if_neg a, if_neg a]
      · unfold anB at h
        rw [Bool.eq_false_iff.mpr a, Bool.eq_false_iff.mpr c] at h
        exact absurd h (by decide)
theorem mxI_none {p : Nat → Bool} {w : Nat → Int32} {b : Int32} : ∀ {n : Nat}, anB p n = false → mxI p w b n = b := by
  intro n
  induction n with
  | zero => intro _; rfl
  | succ n ih =>
    intro h
    unfold anB at h
    rw [Bool.or_eq_false_iff] at h
    unfold mxI
    rw [if_neg (by rw [h.2]; decide)]
    exact ih h.1
theorem i_rem {a d : Nat} (ha : a < 2 ^ 31) (h0 : 0 < d) (hd : d < 2 ^ 31) : o_rem (nI a) (nI d) = nI (a % d) := pk_rem ha h0 hd
def stpN (mv : Nat) : Nat := if mv = 20 then 10 else 18 * (6 ^ (mv / 5) * (mv % 5 + 1))
def tuN (s : Nat) : Nat := 18 * (s / 18) + 9 + 3 * (s % 3) + s / 3 % 3
theorem f_isSpot {X : XM} {s e : Nat} (hs : s < 23328) (he : e ≤ 24) : fX7_isSpot (nI s) (nI e) X = some (1, X) := by
  unfold fX7_isSpot
  rw [if_neg (nI_pos (by omega)), if_neg (by rw [show (23328 : Int32) = nI 23328 from rfl, nI_leI (by decide) (by omega)]; omega), if_neg (by rw [show (24 : Int32) = nI 24 from rfl, nI_ltI (by decide) (by omega)]; omega)]
theorem f_turned {X : XM} {s : Nat} (hs : s < 23328) : fX7_turned (nI s) X = some (nI (tuN s), X) := by
  unfold fX7_turned
  rw [show (3 : Int32) = nI 3 from rfl, show (18 : Int32) = nI 18 from rfl, show (9 : Int32) = nI 9 from rfl]
  rw [zl_ok, zl_ok, pk_div (by omega) (by decide) (by decide), i_rem (by omega) (by decide) (by decide), i_rem (by omega) (by decide) (by decide), i_rem (by omega) (by decide) (by decide), pk_sub (Nat.mod_le _ _), pk_mul, nI_add, nI_add, nI_add]
  congr 3
  unfold tuN
  omega
theorem spot_dec (d r o t : Nat) (hr : r < 2) (ho : o < 3) (ht : t < 3) : (18 * d + 9 * r + 3 * o + t) / 18 = d ∧ (18 * d + 9 * r + 3 * o + t) / 9 % 2 = r ∧ (18 * d + 9 * r + 3 * o + t) / 3 % 3 = o ∧ (18 * d + 9 * r + 3 * o + t) % 3 = t := by omega
/-- where a move leads, as a spot -/
theorem spot_next {tk s mv : Nat} (hs : s < 23328) (hmv : mv < 21) (h : canN tk (s / 18) (s / 3 % 3) (1 - s / 9 % 2) mv = true) :
    stpN mv ≤ tuN s ∧ tuN s - stpN mv < 23328 ∧ (tuN s - stpN mv) / 18 = bcN (s / 18) mv ∧ 1 - (tuN s - stpN mv) / 9 % 2 = baN mv ∧ (tuN s - stpN mv) / 3 % 3 = s % 3 ∧ (tuN s - stpN mv) % 3 = boN (s / 3 % 3) mv := by
  have hc : s / 18 < 1296 := by omega
  have ho : s / 3 % 3 < 3 := Nat.mod_lt _ (by decide)
  have ht : s % 3 < 3 := Nat.mod_lt _ (by decide)
  unfold stpN tuN bcN baN boN
  by_cases e : mv = 20
  · subst e
    have hp := can_pass h
    simp only [if_pos]
    generalize s / 18 = d at *
    generalize s / 3 % 3 = o at *
    generalize s % 3 = t at *
    have e1 : 18 * d + 9 + 3 * t + o - 10 = 18 * d + 9 * 0 + 3 * t + (o - 1) := by omega
    obtain ⟨x1, x2, x3, x4⟩ := spot_dec d 0 t (o - 1) (by decide) ht (by omega)
    rw [e1, x1, x2, x3, x4]
    exact ⟨by omega, by omega, rfl, rfl, rfl, rfl⟩
  · obtain ⟨a1, _⟩ := dig_sub hc (by omega) (can_take e h)
    simp only [if_neg e]
    generalize 6 ^ (mv / 5) * (mv % 5 + 1) = q at *
    generalize s / 18 = d at *
    generalize s / 3 % 3 = o at *
    generalize s % 3 = t at *
    have e1 : 18 * d + 9 + 3 * t + o - 18 * q = 18 * (d - q) + 9 * 1 + 3 * t + o := by omega
    obtain ⟨x1, x2, x3, x4⟩ := spot_dec (d - q) 1 t o (by decide) ht ho
    rw [e1, x1, x2, x3, x4]
    exact ⟨by omega, by omega, rfl, rfl, rfl, rfl⟩
/-- the takes of a code -/
def T4 (tk c : Nat) : Nat := tkm tk (dig c 0) + 32 * tkm tk (dig c 1) + 1024 * tkm tk (dig c 2) + 32768 * tkm tk (dig c 3)
theorem T4_lt {tk c : Nat} : T4 tk c < 1048576 := by
  have hd : ∀ p, tkm tk (dig c p) < 32 := fun p => tkm_lt (Nat.le_of_lt_succ (Nat.mod_lt _ (by decide)))
  have h0 := hd 0
  have h1 := hd 1
  have h2 := hd 2
  have h3 := hd 3
  unfold T4
  omega
theorem i_or3 (a b c : Int32) : (a ||| b) ||| c = a ||| (b ||| c) := by
  apply Int32.toBitVec_inj.1
  simp [BitVec.or_assoc]
theorem f_mvTail {X : XM} {tk c : Nat} {z v : Int32} (hv : v = nI c) (h0 : X 13 0 = nI tk) (htk : tk < 32) (hc : c < 1296) : (zi (fX8_takesOutOf (o_rem v 6) (X 13 0) 0 X) (fun r_12 X_11 => zl (z ||| r_12) (fun v_14 => zl (v / 6) (fun v_16 => zi (fX8_takesOutOf (o_rem v_16 6) (X_11 13 0) 1 X_11) (fun r_21 X_20 => zl (v_14 ||| r_21) (fun v_23 => zl (v_16 / 6) (fun v_25 => zi (fX8_takesOutOf (o_rem v_25 6) (X_20 13 0) 2 X_20) (fun r_30 X_29 => zl (v_23 ||| r_30) (fun v_32 => zl (v_25 / 6) (fun v_34 => zi (fX8_takesOutOf (o_rem v_34 6) (X_29 13 0) 3 X_29) (fun r_39 X_38 => zl (v_32 ||| r_39) (fun v_41 => zl (v_34 / 6) (fun _ => some (v_41, X_38)))))))))))))) = some (z ||| nI (T4 tk c), X) := by
  have hd : ∀ p, dig c p < 6 := fun p => Nat.mod_lt _ (by decide)
  have ht : ∀ p, tkm tk (dig c p) < 32 := fun p => tkm_lt (Nat.le_of_lt_succ (hd p))
  have e6 : (6 : Int32) = nI 6 := rfl
  have q0 : o_rem (nI c) 6 = nI (dig c 0) := by rw [e6, i_rem (by omega) (by decide) (by decide)]; unfold dig; rw [Nat.pow_zero, Nat.div_one]
  have q1 : o_rem (nI c / 6) 6 = nI (dig c 1) := by rw [e6, pk_div (by omega) (by decide) (by decide), i_rem (by omega) (by decide) (by decide)]; rfl
  have q2 : o_rem (nI c / 6 / 6) 6 = nI (dig c 2) := by rw [e6, pk_div (by omega) (by decide) (by decide), pk_div (by omega) (by decide) (by decide), i_rem (by omega) (by decide) (by decide), Nat.div_div_eq_div_mul]; rfl
  have q3 : o_rem (nI c / 6 / 6 / 6) 6 = nI (dig c 3) := by rw [e6, pk_div (by omega) (by decide) (by decide), pk_div (by omega) (by decide) (by decide), pk_div (by omega) (by decide) (by decide), i_rem (by omega) (by decide) (by decide), Nat.div_div_eq_div_mul, Nat.div_div_eq_div_mul]; rfl
  subst hv
  rw [f_takesOutOf q0 h0 (show (0 : Int32) = nI 0 from rfl) htk (hd 0) (by decide), zi_ok, zl_ok, zl_ok]
  rw [f_takesOutOf q1 h0 (show (1 : Int32) = nI 1 from rfl) htk (hd 1) (by decide), zi_ok, zl_ok, zl_ok]
  rw [f_takesOutOf q2 h0 (show (2 : Int32) = nI 2 from rfl) htk (hd 2) (by decide), zi_ok, zl_ok, zl_ok]
  rw [f_takesOutOf q3 h0 (show (3 : Int32) = nI 3 from rfl) htk (hd 3) (by decide), zi_ok, zl_ok, zl_ok]
  have t0 := ht 0
  have t1 := ht 1
  have t2 := ht 2
  have t3 := ht 3
  have s1 : nI (32 ^ 0 * tkm tk (dig c 0)) ||| nI (32 ^ 1 * tkm tk (dig c 1)) = nI (tkm tk (dig c 0) + 32 * tkm tk (dig c 1)) := by
    rw [Nat.pow_zero, Nat.one_mul]
    exact or_sum (k := 5) (b := tkm tk (dig c 1)) t0 rfl
  have s2 : nI (tkm tk (dig c 0) + 32 * tkm tk (dig c 1)) ||| nI (32 ^ 2 * tkm tk (dig c 2)) = nI (tkm tk (dig c 0) + 32 * tkm tk (dig c 1) + 1024 * tkm tk (dig c 2)) := or_sum (k := 10) (b := tkm tk (dig c 2)) (by omega) rfl
  have s3 : nI (tkm tk (dig c 0) + 32 * tkm tk (dig c 1) + 1024 * tkm tk (dig c 2)) ||| nI (32 ^ 3 * tkm tk (dig c 3)) = nI (T4 tk c) := or_sum (k := 15) (b := tkm tk (dig c 3)) (by omega) rfl
  rw [← s3, ← s2, ← s1, i_or3, i_or3, i_or3, i_or3, i_or3]
theorem f_movesAt {X : XM} {tk s : Nat} (h0 : X 13 0 = nI tk) (htk : tk < 32) (hs : s < 23328) : fX7_movesAt (nI s) X = some (nI (bsum (canN tk (s / 18) (s / 3 % 3) (1 - s / 9 % 2)) 21), X) := by
  have hT := T4_lt (tk := tk) (c := s / 18)
  have eb : bsum (canN tk (s / 18) (s / 3 % 3) (1 - s / 9 % 2)) 21 = T4 tk (s / 18) + 1048576 * (decide (0 < s / 3 % 3) && (decide (1 - s / 9 % 2 = 0) && decide (0 < s / 18))).toNat := bsum_can htk
  have e18 : nI s / 18 = nI (s / 18) := pk_div (by omega) (by decide) (by decide)
  have e9 : o_rem (nI s / 9) 2 = nI (s / 9 % 2) := by rw [show nI s / 9 = nI (s / 9) from pk_div (by omega) (by decide) (by decide)]; exact i_rem (by omega) (by decide) (by decide)
  have e3 : o_rem (nI s / 3) 3 = nI (s / 3 % 3) := by rw [show nI s / 3 = nI (s / 3) from pk_div (by omega) (by decide) (by decide)]; exact i_rem (by omega) (by decide) (by decide)
  have z0 : (0 : Int32) ||| nI (T4 tk (s / 18)) = nI (T4 tk (s / 18) + 1048576 * 0) := by rw [show (0 : Int32) = nI 0 from rfl, fa_or, Nat.zero_or, Nat.mul_zero, Nat.add_zero]
  have z1 : (1048576 : Int32) ||| nI (T4 tk (s / 18)) = nI (T4 tk (s / 18) + 1048576 * 1) := by rw [show (1048576 : Int32) = nI (2 ^ 20 * 1) from rfl, fa_or_sum 1 hT, Nat.add_comm]
  unfold fX7_movesAt
  rw [e18, zl_ok, e9, e3, eb]
  by_cases c1 : s / 9 % 2 = 1
  · rw [if_pos (by rw [c1]; rfl)]
    by_cases c2 : s / 18 = 0
    · rw [if_pos ((nI_le0 (by omega)).mpr c2), f_mvTail rfl h0 htk (by omega), z0]
      simp [c2]
    · rw [if_neg (fun q => c2 ((nI_le0 (by omega)).mp q))]
      by_cases c3 : s / 3 % 3 = 0
      · rw [if_pos ((nI_le0 (by omega)).mpr c3), f_mvTail rfl h0 htk (by omega), z0]
        simp [c3]
      · rw [if_neg (fun q => c3 ((nI_le0 (by omega)).mp q)), f_mvTail rfl h0 htk (by omega), z1]
        have d1 : 0 < s / 3 % 3 := by omega
        have d2 : 1 - s / 9 % 2 = 0 := by omega
        have d3 : 0 < s / 18 := by omega
        rw [decide_eq_true d1, decide_eq_true d2, decide_eq_true d3]
        rfl
  · rw [if_neg (fun q => c1 ((nI_u (by omega)).mp q)), f_mvTail rfl h0 htk (by omega), z0]
    have d2 : ¬ 1 - s / 9 % 2 = 0 := by omega
    rw [decide_eq_false d2, Bool.false_and, Bool.and_false]
    rfl
/-- the poisoned piles, as a set -/
def pmP (f : Nat → Int32) (p : Nat) : Bool := decide (f (13 + 4 * p) = 1)
def pmN (f : Nat → Int32) (c : Nat) : Nat → Nat
  | 0 => 0
  | i + 1 => if pmP f i = true ∧ 0 < dig c i then pmN f c i ||| 2 ^ (5 * i + dig c i - 1) else pmN f c i
theorem pmN_lt {f : Nat → Int32} {c : Nat} : ∀ i, i ≤ 4 → pmN f c i < 2 ^ 20 := by
  intro i
  induction i with
  | zero => intro _; exact Nat.two_pow_pos 20
  | succ i ih =>
    intro h
    have hd : dig c i < 6 := Nat.mod_lt _ (by decide)
    unfold pmN
    split
    · exact Nat.or_lt_two_pow (ih (by omega)) (Nat.pow_lt_pow_right (by decide) (by omega))
    · exact ih (by omega)
theorem pmN_bit {f : Nat → Int32} {c : Nat} : ∀ i mv, (pmN f c i).testBit mv = (decide (mv / 5 < i) && (pmP f (mv / 5) && decide (dig c (mv / 5) = mv % 5 + 1))) := by
  intro i
  induction i with
  | zero => intro mv; show (0).testBit mv = _; rw [Nat.zero_testBit]; simp
  | succ i ih =>
    intro mv
    have hd : dig c i < 6 := Nat.mod_lt _ (by decide)
    have hq : dig c (mv / 5) < 6 := Nat.mod_lt _ (by decide)
    unfold pmN
    by_cases c1 : pmP f i = true ∧ 0 < dig c i
    · rw [if_pos c1, fb_bit_set, ih]
      by_cases e : mv / 5 = i
      · subst e
        have n1 : ¬ mv / 5 < mv / 5 := by omega
        rw [decide_eq_false n1, Bool.false_and, Bool.false_or, c1.1, decide_eq_true (show mv / 5 < mv / 5 + 1 by omega), Bool.true_and, Bool.true_and]
        by_cases g : dig c (mv / 5) = mv % 5 + 1
        · rw [decide_eq_true g, decide_eq_true]
          omega
        · rw [decide_eq_false g, decide_eq_false]
          omega
      · have n1 : ¬ mv = 5 * i + dig c i - 1 := by omega
        rw [decide_eq_false n1, Bool.or_false]
        by_cases g : mv / 5 < i
        · rw [decide_eq_true g, decide_eq_true (show mv / 5 < i + 1 by omega)]
        · rw [decide_eq_false g, decide_eq_false (show ¬ mv / 5 < i + 1 by omega)]
    · rw [if_neg c1, ih]
      by_cases e : mv / 5 = i
      · subst e
        have n1 : ¬ mv / 5 < mv / 5 := by omega
        rw [decide_eq_false n1, Bool.false_and]
        symm
        rw [Bool.and_eq_false_iff]
        refine Or.inr ?_
        rw [Bool.and_eq_false_iff]
        by_cases g : pmP f (mv / 5) = true
        · refine Or.inr (decide_eq_false ?_)
          intro q
          exact c1 ⟨g, by omega⟩
        · exact Or.inl (Bool.eq_false_iff.mpr g)
      · by_cases g : mv / 5 < i
        · rw [decide_eq_true g, decide_eq_true (show mv / 5 < i + 1 by omega)]
        · rw [decide_eq_false g, decide_eq_false (show ¬ mv / 5 < i + 1 by omega)]
theorem ps_bit {f : Nat → Int32} {c mv : Nat} (hm : mv < 21) : (pmN f c 4).testBit mv = psB f c mv := by
  rw [pmN_bit]
  unfold psB pmP
  by_cases e : mv = 20
  · subst e
    rfl
  · rw [if_neg e, decide_eq_true (show mv / 5 < 4 by omega), Bool.true_and]
theorem tmcode : ∀ p, p < 4 → ∀ t, t < 6 → 1 ≤ t → (5 * nI p + nI t) - 1 = nI (5 * p + t - 1) := by decide +kernel
theorem f_poisonAt_10 {f : Nat → Int32} {X : XM} {c : Nat} {a : Int32} (hp : X 13 2 = nI (bsum (pmP f) 4)) (hc : c < 1296) : ∀ (n i : Nat), i ≤ 4 → 4 < i + n → fX7_poisonAt_10 n a (nI (c / 6 ^ i)) (nI (pmN f c i)) (nI i) X = some (nI (pmN f c 4), X) := by
  intro n
  induction n with
  | zero => intro i h1 h2; omega
  | succ n ih =>
    intro i h1 h2
    rw [fX7_poisonAt_10]
    by_cases ci : i = 4
    · subst ci
      rw [if_pos (show (4 : Int32) ≤ nI 4 by decide)]
    · have h4 : i < 4 := by omega
      have hq : c / 6 ^ i < 2 ^ 31 := Nat.lt_of_le_of_lt (Nat.div_le_self _ _) (by omega)
      have hl := bsum_lt (pmP f) 4
      have hd : dig c i < 6 := Nat.mod_lt _ (by decide)
      have em : o_rem (nI (c / 6 ^ i)) 6 = nI (dig c i) := by rw [show (6 : Int32) = nI 6 from rfl, i_rem hq (by decide) (by decide)]; rfl
      have ed : nI (c / 6 ^ i) / 6 = nI (c / 6 ^ (i + 1)) := by rw [show (6 : Int32) = nI 6 from rfl, pk_div hq (by decide) (by decide), Nat.div_div_eq_div_mul, Nat.pow_succ]
      rw [if_neg (show ¬ (4 : Int32) ≤ nI i by rw [show (4 : Int32) = nI 4 from rfl, nI_leI (by decide) (by omega)]; omega), zl_ok, em, f_isIn hp rfl (by omega) (by omega), zi_ok, bsum_bit, decide_eq_true h4, Bool.true_and, ed, nI_1]
      have step := ih (i + 1) (by omega) (by omega)
      unfold pmN at step
      by_cases c1 : pmP f i = true
      · rw [if_pos c1, if_neg (by decide)]
        by_cases c2 : dig c i = 0
        · rw [if_pos ((nI_le0 (by omega)).mpr c2), zl_ok]
          rw [if_neg (fun q => by omega)] at step
          exact step
        · rw [if_neg (fun q => c2 ((nI_le0 (by omega)).mp q))]
          unfold fX8_takeMove
          rw [zi_ok, tmcode i h4 (dig c i) hd (by omega), zl_ok, shl1 _ (by omega), fa_or, zl_ok]
          rw [if_pos ⟨c1, by omega⟩] at step
          exact step
      · rw [if_neg c1, if_pos rfl, zl_ok]
        rw [if_neg (fun q => c1 q.1)] at step
        exact step
theorem f_poisonAt {f : Nat → Int32} {X : XM} {s : Nat} (hp : X 13 2 = nI (bsum (pmP f) 4)) (hs : s < 23328) : fX7_poisonAt (nI s) X = some (nI (pmN f (s / 18) 4), X) := by
  have e18 : nI s / 18 = nI (s / 18) := pk_div (by omega) (by decide) (by decide)
  unfold fX7_poisonAt
  rw [e18, zl_ok]
  have := f_poisonAt_10 (a := nI s) hp (c := s / 18) (by omega) fuel 0 (by decide) (by have := fuel_ge; omega)
  rw [Nat.pow_zero, Nat.div_one] at this
  exact this
end SQ
