/-! LONGS as bytes -/
section LG
def lU (n : Nat) : Int64 := (UInt64.ofNat n).toInt64
theorem lU_of (x : Int64) : ∃ n, n < 2 ^ 64 ∧ x = lU n := by
  refine ⟨x.toBitVec.toNat, x.toBitVec.isLt, ?_⟩
  apply Int64.toBitVec_inj.1
  show x.toBitVec = BitVec.ofNat 64 x.toBitVec.toNat
  simp
theorem sh64 : ∀ j, j < 64 → (((nI j).toInt64.toUInt64 &&& Int64.toUInt64 63).toNat) = j := by decide +kernel
theorem lus_ok {n j : Nat} (hn : n < 2 ^ 64) (hj : j < 64) : o_lus (lU n) (nI j) = lU (n / 2 ^ j) := by
  have e : (lU n).toUInt64 = UInt64.ofNat n := rfl
  show ((lU n).toUInt64 >>> _).toInt64 = (UInt64.ofNat (n / 2 ^ j)).toInt64
  congr 1
  apply UInt64.toNat_inj.1
  have hd : n / 2 ^ j < 2 ^ 64 := Nat.lt_of_le_of_lt (Nat.div_le_self _ _) hn
  rw [e, UInt64.toNat_shiftRight, sh64 j hj, Nat.mod_eq_of_lt hj, UInt64.toNat_ofNat', UInt64.toNat_ofNat', Nat.mod_eq_of_lt hn, Nat.mod_eq_of_lt hd, Nat.shiftRight_eq_div_pow]
theorem and255 {n : Nat} (hn : n < 2 ^ 64) : lU n &&& (255 : Int64) = lU (n % 256) := by
  apply Int64.toBitVec_inj.1
  show BitVec.ofNat 64 n &&& BitVec.ofNat 64 255 = BitVec.ofNat 64 (n % 256)
  apply BitVec.eq_of_toNat_eq
  rw [BitVec.toNat_and, BitVec.toNat_ofNat, BitVec.toNat_ofNat, BitVec.toNat_ofNat, Nat.mod_eq_of_lt hn, show 255 % 2 ^ 64 = 2 ^ 8 - 1 from rfl, Nat.and_two_pow_sub_one_eq_mod, Nat.mod_eq_of_lt (by omega : n % 256 < 2 ^ 64)]
theorem byte32 : ∀ m, m < 256 → Int64.toInt32 (lU m) = nI m := by decide +kernel
theorem lU_z {n : Nat} (hn : n < 2 ^ 64) : lU n = (0 : Int64) ↔ n = 0 := by
  constructor
  · intro h
    have q : (BitVec.ofNat 64 n).toNat = (BitVec.ofNat 64 0).toNat := congrArg (fun x : Int64 => x.toBitVec.toNat) h
    rw [BitVec.toNat_ofNat, BitVec.toNat_ofNat, Nat.mod_eq_of_lt hn] at q
    omega
  · intro h
    rw [h]
    rfl
theorem cmp0 {x : Int64} : lg_cmp x (0 : Int64) = 0 ↔ x = 0 := by
  unfold lg_cmp
  constructor
  · intro q
    refine Classical.byContradiction fun c => ?_
    rw [if_neg c] at q
    split at q
    · exact absurd q (by decide)
    · exact absurd q (by decide)
  · intro q
    rw [q]
    decide
/-- the k-th byte of n, from the right -/
def byt (n k : Nat) : Nat := n / 256 ^ k % 256
theorem pow256 (k : Nat) : 2 ^ (8 * k) = 256 ^ k := by rw [Nat.pow_mul]
theorem f_codeIn {n k : Nat} (hn : n < 2 ^ 64) (hk : k < 8) {X : XM} : fX2_codeIn (lU n) (nI k) X = some (nI (byt n k), X) := by
  unfold fX2_codeIn byt
  have e : 8 * nI k = nI (8 * k) := by
    match k, hk with
    | 0, _ => rfl
    | 1, _ => rfl
    | 2, _ => rfl
    | 3, _ => rfl
    | 4, _ => rfl
    | 5, _ => rfl
    | 6, _ => rfl
    | 7, _ => rfl
  rw [e, lus_ok hn (by omega), and255 (Nat.lt_of_le_of_lt (Nat.div_le_self _ _) hn), byte32 _ (Nat.mod_lt _ (by decide)), pow256]
end LG
