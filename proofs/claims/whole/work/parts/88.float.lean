/-! THE SHARE's bits -/
section FB
theorem v32_1 : FP.Core.val32 FP.fconst1 = .fin false 8388608 (-23) := by decide +kernel
theorem v32_2 : FP.Core.val32 FP.fconst2 = .fin false 8388608 (-22) := by decide +kernel
theorem v32_k : FP.Core.val32 (1258291200 : UInt32) = .fin false 8388608 0 := by decide +kernel
theorem t32 : FP.Core.b32.tails = 8388608 := by decide +kernel
theorem e32 : FP.Core.b32.exps = 256 := by decide +kernel
theorem qn32 : FP.Core.b32.qmin = -149 := by decide +kernel
theorem qx32 : FP.Core.b32.qmax = 104 := by decide +kernel
theorem p32 : 2 ^ FP.Core.b32.p = 16777216 := by decide +kernel
theorem dec_U {y : UInt32} {E M : Nat} (hy : y.toNat = E * 8388608 + M) (h1 : 1 ≤ E) (h2 : E ≤ 254) (hM : M < 8388608) : FP.Core.val32 y = .fin false (8388608 + M) ((E : Int) - 150) := by
  have a1 : (E * 8388608 + M) / 8388608 = E := by omega
  have a2 : (E * 8388608 + M) % 8388608 = M := by omega
  unfold FP.Core.val32 FP.Core.decode FP.Core.fieldE FP.Core.fieldT FP.Core.fieldS
  rw [hy, t32, e32, qn32, a1, a2, show E % 256 = E by omega, if_neg (by omega), if_neg (by omega), show E / 256 % 2 = 0 by omega]
  show FP.Core.Datum.fin false _ _ = _
  congr 1
  omega
theorem zf_okv {β : Type} {r : UInt32} {x : Option β} (h : FP.Core.val32 r ≠ .nan) : zf r x = x := by
  unfold zf
  rw [if_pos]
  rw [UInt32.le_iff_toNat_le, UInt32.toNat_and]
  show r.toNat &&& (2 ^ 31 - 1) ≤ 2139095040
  rw [Nat.and_two_pow_sub_one_eq_mod]
  refine Classical.byContradiction fun q => h ?_
  show FP.Core.decode FP.Core.b32 r.toNat = .nan
  rw [FP.Core.decode_nan]
  have e1 : FP.Core.infBits FP.Core.b32 = 2139095040 := by decide +kernel
  have e2 : FP.Core.half FP.Core.b32 = 2 ^ 31 := by decide +kernel
  unfold FP.Core.mag
  rw [e1, e2]
  omega
theorem fl_dbl {y : UInt32} {c : Nat} {q : Int} (h : FP.Core.val32 y = .fin false c q) (h1 : 8388608 ≤ c) (h2 : c < 16777216) (h3 : -149 ≤ q) (h4 : q ≤ 103) : FP.Core.val32 (FP.fmul y FP.fconst2) = .fin false c (q + 1) := by
  show FP.Core.val32 (FP.Core.fmul y FP.fconst2) = _
  rw [FP.Core.val32_fmul, h, v32_2]
  show FP.Core.roundRatio FP.Core.b32 false (c * 8388608) 1 (q + -22) = _
  refine FP.Core.roundRatio_exact FP.Core.good_b32 (by decide) ⟨by rw [p32]; exact h2, by rw [qn32]; omega, by rw [qx32]; omega, Or.inr (by rw [t32]; exact h1)⟩ ?_
  rw [show (q + -22 - (q + 1)).toNat = 0 by omega, show (q + 1 - (q + -22)).toNat = 23 by omega]
  omega
theorem fl_cmp0 {y : UInt32} {c : Nat} (h : FP.Core.val32 y = .fin false c (-23)) (h1 : 8388608 ≤ c) : 0 ≤ Op.cmpValue (FP.fcmp y FP.fconst1) .g := by
  have e : FP.fcmp y FP.fconst1 = some (compare ((c * 1 : Nat) : Int) ((8388608 * 1 : Nat) : Int)) := by
    show FP.Core.order (FP.Core.val32 y) (FP.Core.val32 FP.fconst1) = _
    rw [h, v32_1]
    rfl
  rw [e, Nat.mul_one, Nat.mul_one]
  rcases Nat.lt_or_ge 8388608 c with g | g
  · rw [show compare ((c : Nat) : Int) ((8388608 : Nat) : Int) = .gt from by rw [Int.compare_eq_gt]; omega]
    decide
  · rw [show compare ((c : Nat) : Int) ((8388608 : Nat) : Int) = .eq from by rw [Int.compare_eq_eq]; omega]
    decide
theorem fl_cmpS {y : UInt32} {c d : Nat} (h : FP.Core.val32 y = .fin false c (-23 - ((d + 1 : Nat) : Int))) (h2 : c < 16777216) : ¬ 0 ≤ Op.cmpValue (FP.fcmp y FP.fconst1) .g := by
  have e : FP.fcmp y FP.fconst1 = some (compare ((c * 2 ^ 0 : Nat) : Int) ((8388608 * 2 ^ (d + 1) : Nat) : Int)) := by
    show FP.Core.order (FP.Core.val32 y) (FP.Core.val32 FP.fconst1) = _
    rw [h, v32_1]
    show some (compare ((c * 2 ^ (-23 - ((d + 1 : Nat) : Int) - min (-23 - ((d + 1 : Nat) : Int)) (-23)).toNat : Nat) : Int) ((8388608 * 2 ^ (-23 - min (-23 - ((d + 1 : Nat) : Int)) (-23)).toNat : Nat) : Int)) = _
    rw [show min (-23 - ((d + 1 : Nat) : Int)) (-23) = -23 - ((d + 1 : Nat) : Int) by omega, show (-23 - ((d + 1 : Nat) : Int) - (-23 - ((d + 1 : Nat) : Int))).toNat = 0 by omega, show (-23 - (-23 - ((d + 1 : Nat) : Int))).toNat = d + 1 by omega]
  have hp : 1 ≤ 2 ^ d := Nat.one_le_two_pow
  have hl : ((c * 2 ^ 0 : Nat) : Int) < ((8388608 * 2 ^ (d + 1) : Nat) : Int) := by
    rw [Nat.pow_succ, Nat.pow_zero]
    omega
  rw [e, show compare ((c * 2 ^ 0 : Nat) : Int) ((8388608 * 2 ^ (d + 1) : Nat) : Int) = .lt from Int.compare_eq_lt.2 hl]
  decide
/-- the share less 1, by the format's size: the number of its last digits -/
theorem fl_tail {y : UInt32} {c : Nat} (h : FP.Core.val32 y = .fin false c (-23)) (h1 : 8388608 ≤ c) (h2 : c < 16777216) : FP.Core.val32 (FP.fsub y FP.fconst1) ≠ .nan ∧ FP.Core.val32 (FP.fmul (FP.fsub y FP.fconst1) (1258291200 : UInt32)) ≠ .nan ∧ FP.f2i (FP.fmul (FP.fsub y FP.fconst1) (1258291200 : UInt32)) = nI (c - 8388608) := by
  obtain ⟨m, rfl⟩ : ∃ m, c = 8388608 + m := ⟨c - 8388608, by omega⟩
  have hm : m < 8388608 := by omega
  have es : FP.Core.val32 (FP.fsub y FP.fconst1) = FP.Core.round FP.Core.b32 (.fin false m (-23)) := by
    show FP.Core.val32 (FP.Core.fsub y FP.fconst1) = _
    rw [FP.Core.val32_fsub, h, v32_1]
    show FP.Core.round FP.Core.b32 (.fin (FP.Core.sumSign false true (((((8388608 + m) * 1 : Nat) : Int)) + -(((8388608 * 1 : Nat)) : Int))) ((((((8388608 + m) * 1 : Nat) : Int)) + -(((8388608 * 1 : Nat)) : Int))).natAbs (-23)) = _
    have e1 : (((((8388608 + m) * 1 : Nat) : Int)) + -(((8388608 * 1 : Nat)) : Int)) = (m : Int) := by omega
    rw [e1]
    have e2 : FP.Core.sumSign false true (m : Int) = false := by
      unfold FP.Core.sumSign
      split
      · rfl
      · exact decide_eq_false (by omega)
    rw [e2, Int.natAbs_natCast]
  obtain ⟨c1, q1, r1, u1⟩ := FP.Core.round_exact FP.Core.good_b32 false (c := m) (q := -23) (by rw [p32]; omega) (by rw [qn32]; decide) (by rw [qx32]; decide)
  have f1 := FP.Core.round_fits FP.Core.good_b32 (.fin false m (-23))
  rw [r1] at es f1
  obtain ⟨_, g1, g2, _⟩ := f1
  rw [qn32] at g1
  rw [qx32] at g2
  have w1 : c1 * 2 ^ (q1 + 149).toNat = m * 2 ^ 126 := by
    unfold FP.Core.inUnits at u1
    rw [qn32, show (q1 - -149).toNat = (q1 + 149).toNat by omega, show ((-23 : Int) - -149).toNat = 126 by decide] at u1
    exact u1
  have ep : FP.Core.val32 (FP.fmul (FP.fsub y FP.fconst1) (1258291200 : UInt32)) = FP.Core.round FP.Core.b32 (.fin false m 0) := by
    show FP.Core.val32 (FP.Core.fmul _ _) = _
    rw [FP.Core.val32_fmul, es, v32_k]
    show FP.Core.roundRatio FP.Core.b32 false (c1 * 8388608) 1 (q1 + 0) = FP.Core.roundRatio FP.Core.b32 false m 1 0
    refine FP.Core.roundRatio_congr (by decide) (by decide) ?_
    rw [Nat.mul_one, Nat.mul_one]
    rcases Int.le_total 0 q1 with s | s
    · obtain ⟨n, rfl⟩ : ∃ n : Nat, q1 = (n : Int) := ⟨q1.toNat, by omega⟩
      rw [show ((n : Int) + 149).toNat = n + 149 by omega, Nat.pow_add] at w1
      rw [show ((n : Int) + 0 - 0).toNat = n by omega, show ((0 : Int) - ((n : Int) + 0)).toNat = 0 by omega, Nat.pow_zero, Nat.mul_one]
      have k1 : c1 * 8388608 * 2 ^ n * 2 ^ 126 = m * 2 ^ 126 := by
        rw [← w1, show (2 : Nat) ^ 149 = 8388608 * 2 ^ 126 by decide]
        ac_rfl
      exact Nat.eq_of_mul_eq_mul_right (Nat.two_pow_pos 126) k1
    · obtain ⟨n, rfl⟩ : ∃ n : Nat, q1 = -(n : Int) := ⟨(-q1).toNat, by omega⟩
      have hn : n ≤ 149 := by omega
      rw [show (-(n : Int) + 149).toNat = 149 - n by omega] at w1
      rw [show (-(n : Int) + 0 - 0).toNat = 0 by omega, show ((0 : Int) - (-(n : Int) + 0)).toNat = n by omega, Nat.pow_zero, Nat.mul_one]
      have k0 : c1 * 2 ^ 149 = m * 2 ^ 126 * 2 ^ n := by
        rw [← w1, Nat.mul_assoc, ← Nat.pow_add, show 149 - n + n = 149 by omega]
      have k1 : c1 * 8388608 * 2 ^ 126 = m * 2 ^ n * 2 ^ 126 := by
        rw [Nat.mul_assoc, show 8388608 * (2 : Nat) ^ 126 = 2 ^ 149 by decide, k0]
        ac_rfl
      exact Nat.eq_of_mul_eq_mul_right (Nat.two_pow_pos 126) k1
  obtain ⟨c2, q2, r2, u2⟩ := FP.Core.round_exact FP.Core.good_b32 false (c := m) (q := 0) (by rw [p32]; omega) (by rw [qn32]; decide) (by rw [qx32]; decide)
  have f2 := FP.Core.round_fits FP.Core.good_b32 (.fin false m 0)
  rw [r2] at ep f2
  obtain ⟨_, g3, g4, _⟩ := f2
  rw [qn32] at g3
  rw [qx32] at g4
  have w2 : c2 * 2 ^ (q2 + 149).toNat = m * 2 ^ 149 := by
    unfold FP.Core.inUnits at u2
    rw [qn32, show (q2 - -149).toNat = (q2 + 149).toNat by omega, show ((0 : Int) - -149).toNat = 149 by decide] at u2
    exact u2
  refine ⟨by rw [es]; exact FP.Core.Datum.noConfusion, by rw [ep]; exact FP.Core.Datum.noConfusion, ?_⟩
  show FP.Core.toI (FP.Core.val32 _) = _
  rw [ep]
  have et : FP.Core.truncate false c2 q2 = (m : Int) := by
    show ((c2 * 2 ^ q2.toNat / 2 ^ (-q2).toNat : Nat) : Int) = _
    congr 1
    rcases Int.le_total 0 q2 with s | s
    · obtain ⟨n, rfl⟩ : ∃ n : Nat, q2 = (n : Int) := ⟨q2.toNat, by omega⟩
      rw [show ((n : Int) + 149).toNat = n + 149 by omega, Nat.pow_add, ← Nat.mul_assoc] at w2
      rw [show ((n : Int)).toNat = n by omega, show (-(n : Int)).toNat = 0 by omega, Nat.pow_zero, Nat.div_one]
      exact Nat.eq_of_mul_eq_mul_right (Nat.two_pow_pos 149) w2
    · obtain ⟨n, rfl⟩ : ∃ n : Nat, q2 = -(n : Int) := ⟨(-q2).toNat, by omega⟩
      have hn : n ≤ 149 := by omega
      rw [show (-(n : Int) + 149).toNat = 149 - n by omega] at w2
      rw [show (-(n : Int)).toNat = 0 by omega, show (-(-(n : Int))).toNat = n by omega, Nat.pow_zero, Nat.mul_one]
      have k0 : c2 * 2 ^ 149 = m * 2 ^ n * 2 ^ 149 := by
        have : c2 * 2 ^ (149 - n) * 2 ^ n = m * 2 ^ 149 * 2 ^ n := by rw [w2]
        rw [Nat.mul_assoc, ← Nat.pow_add, show 149 - n + n = 149 by omega] at this
        rw [this]
        ac_rfl
      have k1 : c2 = m * 2 ^ n := Nat.eq_of_mul_eq_mul_right (Nat.two_pow_pos 149) k0
      rw [k1, Nat.mul_div_cancel _ (Nat.two_pow_pos n)]
  show Int32.ofInt (max (-2 ^ 31) (min (2 ^ 31 - 1) (FP.Core.truncate false c2 q2))) = _
  rw [et, show 8388608 + m - 8388608 = m by omega, show max (-2 ^ 31 : Int) (min (2 ^ 31 - 1) (m : Int)) = (m : Int) by omega]
  exact Int32.ofInt_eq_ofNat
theorem f_share_19 {x0 x1 : Int32} {X : XM} {c E : Nat} (h1 : 8388608 ≤ c) (h2 : c < 16777216) (hE : 2 ≤ E) : ∀ (d n : Nat) (y : UInt32), d < n → d ≤ 20 → E + d ≤ 127 → FP.Core.val32 y = .fin false c (-23 - (d : Int)) → fX8_bitsOfShare_19 n x0 x1 y (nI (E + d)) X = some (nI (E * 8388608 + (c - 8388608)), X) := by
  intro d
  induction d with
  | zero =>
    intro n y hn _ hEd hy
    obtain ⟨n, rfl⟩ : ∃ q, n = q + 1 := ⟨n - 1, by omega⟩
    have hy' : FP.Core.val32 y = .fin false c (-23) := hy
    obtain ⟨a1, a2, a3⟩ := fl_tail hy' h1 h2
    rw [fX8_bitsOfShare_19, if_pos (fl_cmp0 hy' h1), zf_okv a1, zf_okv a2, a3]
    have e : o_shl (nI (E + 0)) 23 = nI (E * 2 ^ 23) := pk_shlN _ 23 (by decide) (by omega)
    rw [e, nI_add]
  | succ d ih =>
    intro n y hn hd hEd hy
    obtain ⟨n, rfl⟩ : ∃ q, n = q + 1 := ⟨n - 1, by omega⟩
    have hy2 := fl_dbl hy h1 h2 (by omega) (by omega)
    rw [show (-23 - ((d + 1 : Nat) : Int)) + 1 = -23 - (d : Int) by omega] at hy2
    rw [fX8_bitsOfShare_19, if_neg (fl_cmpS hy h2), if_neg (show ¬ nI (E + (d + 1)) ≤ 1 by rw [show (1 : Int32) = nI 1 from rfl, nI_leI (by omega) (by decide)]; omega), zf_okv (by rw [hy2]; exact FP.Core.Datum.noConfusion), zl_ok, show nI (E + (d + 1)) + (-1) = nI (E + d) from pk_m1 (E + d)]
    exact ih n _ (by omega) (by omega) (by omega) hy2
end FB
