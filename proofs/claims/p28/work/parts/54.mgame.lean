/-! THE REFERENCE's GAME, purely: over its row 23 -/
def gcode (f : Nat → Int32) : Nat := gT f 0 + 6 * gT f 1 + 36 * gT f 2 + 216 * gT f 3
def dig (c p : Nat) : Nat := c / 6 ^ p % 6
theorem gcode_dig {f : Nat → Int32} (h : gok f) {p : Nat} (hp : p < 4) : dig (gcode f) p = gT f p := by
  have t0 := gT_le h (p := 0) (by decide)
  have t1 := gT_le h (p := 1) (by decide)
  have t2 := gT_le h (p := 2) (by decide)
  have t3 := gT_le h (p := 3) (by decide)
  unfold dig gcode
  match p, hp with
  | 0, _ => show _ / 1 % 6 = _; omega
  | 1, _ => show _ / 6 % 6 = _; omega
  | 2, _ => show _ / 36 % 6 = _; omega
  | 3, _ => show _ / 216 % 6 = _; omega
theorem gcode_lt {f : Nat → Int32} (h : gok f) : gcode f < 1296 := by
  have t0 := gT_le h (p := 0) (by decide)
  have t1 := gT_le h (p := 1) (by decide)
  have t2 := gT_le h (p := 2) (by decide)
  have t3 := gT_le h (p := 3) (by decide)
  unfold gcode
  omega
theorem gcode_pos {f : Nat → Int32} : 0 < gcode f ↔ 0 < gsum f := by unfold gcode gsum; omega
/-- whether a move is one: takes tk, tokens c, passes o, a pass ahead a -/
def canN (tk c o a mv : Nat) : Bool := if mv = 20 then decide (0 < o) && (decide (a = 0) && decide (0 < c)) else tk.testBit (mv % 5) && decide (mv % 5 < dig c (mv / 5))
def bsum (p : Nat → Bool) : Nat → Nat
  | 0 => 0
  | n + 1 => bsum p n + (p n).toNat * 2 ^ n
theorem bsum_lt (p : Nat → Bool) : ∀ n, bsum p n < 2 ^ n
  | 0 => by show 0 < 1; decide
  | n + 1 => by
    have := bsum_lt p n
    have h2 : (p n).toNat ≤ 1 := by cases p n <;> decide
    have h3 : (p n).toNat * 2 ^ n ≤ 1 * 2 ^ n := Nat.mul_le_mul_right _ h2
    unfold bsum
    rw [Nat.pow_succ]
    omega
theorem bsum_bit (p : Nat → Bool) : ∀ n i, (bsum p n).testBit i = (decide (i < n) && p i)
  | 0, i => by simp [bsum]
  | n + 1, i => by
    have hl := bsum_lt p n
    have e : bsum p (n + 1) = 2 ^ n * (p n).toNat + bsum p n := by show bsum p n + (p n).toNat * 2 ^ n = _; rw [Nat.add_comm, Nat.mul_comm]
    rw [e, Nat.testBit_two_pow_mul_add _ hl]
    by_cases c : i < n
    · rw [if_pos c, bsum_bit p n i]
      simp [c, Nat.lt_succ_of_lt c]
    · rw [if_neg c]
      by_cases c2 : i = n
      · subst c2
        cases p i <;> simp
      · have : ¬ i < n + 1 := by omega
        have h3 : i - n ≠ 0 := by omega
        simp only [this, decide_false, Bool.false_and]
        obtain ⟨k, hk⟩ : ∃ k, i - n = k + 1 := ⟨i - n - 1, by omega⟩
        rw [hk]
        cases p n <;> simp [Nat.testBit_succ]
theorem tkm_bits : ∀ tk, tk < 32 → ∀ t, t < 6 → tkm tk t = (tk.testBit 0 && decide (0 < t)).toNat + 2 * (tk.testBit 1 && decide (1 < t)).toNat + 4 * (tk.testBit 2 && decide (2 < t)).toNat + 8 * (tk.testBit 3 && decide (3 < t)).toNat + 16 * (tk.testBit 4 && decide (4 < t)).toNat := by decide +kernel
theorem bsum_can {tk c o a : Nat} (htk : tk < 32) : bsum (canN tk c o a) 21 = tkm tk (dig c 0) + 32 * tkm tk (dig c 1) + 1024 * tkm tk (dig c 2) + 32768 * tkm tk (dig c 3) + 1048576 * (decide (0 < o) && (decide (a = 0) && decide (0 < c))).toNat := by
  have hd : ∀ p, dig c p < 6 := fun p => Nat.mod_lt _ (by decide)
  rw [tkm_bits tk htk _ (hd 0), tkm_bits tk htk _ (hd 1), tkm_bits tk htk _ (hd 2), tkm_bits tk htk _ (hd 3)]
  simp only [bsum, canN, Nat.reduceEqDiff, if_false, if_true, Nat.reduceMod, Nat.reduceDiv, Nat.reducePow, Nat.zero_mod, Nat.zero_div, reduceIte, Nat.zero_add]
  omega
theorem gmoves_can {f : Nat → Int32} (h : gok f) : gmoves f = if f 5 = 0 then bsum (canN (xun (f 0)) (gcode f) (xun (f (7 + xun (f 3)))) (xun (f 4))) 21 else 0 := by
  unfold gmoves
  have htk : xun (f 0) < 32 := by have := h.2.1; omega
  split
  · rw [bsum_can htk, gcode_dig h (by decide), gcode_dig h (by decide), gcode_dig h (by decide), gcode_dig h (by decide)]
    unfold gtakes gpassB
    have e4 : (f 4 = 0) ↔ (xun (f 4) = 0) := ⟨fun q => by rw [q]; rfl, fun q => xun_eq q⟩
    have ec : (0 < gsum f) ↔ (0 < gcode f) := gcode_pos.symm
    simp only [e4, ec]
    cases hb : (decide (0 < xun (f (7 + xun (f 3)))) && (decide (xun (f 4) = 0) && decide (0 < gcode f)))
    · simp
    · simp
  · rfl
theorem gmoves_bit {f : Nat → Int32} (h : gok f) (h5 : f 5 = 0) {mv : Nat} (hm : mv < 21) : (gmoves f).testBit mv = canN (xun (f 0)) (gcode f) (xun (f (7 + xun (f 3)))) (xun (f 4)) mv := by
  rw [gmoves_can h, if_pos h5, bsum_bit]
  simp [hm]
section MG
variable {X : XM}
theorem nI_lt1 {t : Nat} (ht : t < 2 ^ 31) : nI t < 1 ↔ t = 0 := by
  rw [show (1 : Int32) = nI 1 from rfl, nI_ltI ht (by decide)]
  omega
theorem shl1 : ∀ i, i < 31 → o_shl 1 (nI i) = nI (2 ^ i) := by decide +kernel
end MG
