/-! COUNTING a set's moves, and the move in a place -/
section BC
theorem and_split (a m x k : Nat) (ha : a < 256) (hm : m < 256) : (a + 256 * x) &&& (m + 256 * k) = (a &&& m) + 256 * (x &&& k) := by
  have e1 : ((a + 256 * x) &&& (m + 256 * k)) % 2 ^ 8 = (a &&& m) := by
    rw [Nat.and_mod_two_pow, show (a + 256 * x) % 2 ^ 8 = a by omega, show (m + 256 * k) % 2 ^ 8 = m by omega]
  have e2 : ((a + 256 * x) &&& (m + 256 * k)) / 2 ^ 8 = (x &&& k) := by
    rw [Nat.and_div_two_pow, show (a + 256 * x) / 2 ^ 8 = x by omega, show (m + 256 * k) / 2 ^ 8 = k by omega]
  omega
theorem by_2 : ∀ a, a < 256 → ∀ e, e < 2 → (a / 2 + 128 * e) &&& 85 = (a / 2 &&& 85) := by decide +kernel
theorem by_4 : ∀ a, a < 256 → ∀ e, e < 4 → (a / 4 + 64 * e) &&& 51 = (a / 4 &&& 51) := by decide +kernel
theorem sp_2 (a x k : Nat) (ha : a < 256) : ((a + 256 * x) / 2) &&& (85 + 256 * k) = (a / 2 &&& 85) + 256 * (x / 2 &&& k) := by
  rw [show (a + 256 * x) / 2 = (a / 2 + 128 * (x % 2)) + 256 * (x / 2) by omega, and_split _ _ _ _ (by omega) (by decide), by_2 a ha _ (Nat.mod_lt _ (by decide))]
theorem sp_4 (a x k : Nat) (ha : a < 256) : ((a + 256 * x) / 4) &&& (51 + 256 * k) = (a / 4 &&& 51) + 256 * (x / 4 &&& k) := by
  rw [show (a + 256 * x) / 4 = (a / 4 + 64 * (x % 4)) + 256 * (x / 4) by omega, and_split _ _ _ _ (by omega) (by decide), by_4 a ha _ (Nat.mod_lt _ (by decide))]
def s1N (a : Nat) : Nat := a - (a / 2 &&& 85)
def s2N (a : Nat) : Nat := (s1N a &&& 51) + (s1N a / 4 &&& 51)
def s3N (a : Nat) : Nat := (s2N a + s2N a / 16) % 16
def c8N (a : Nat) : Nat := a % 2 + a / 2 % 2 + a / 4 % 2 + a / 8 % 2 + a / 16 % 2 + a / 32 % 2 + a / 64 % 2 + a / 128 % 2
def s_allB (a : Nat) : Bool := decide ((a / 2 &&& 85) ≤ a) && (decide (s1N a < 256) && (decide (s2N a ≤ 68) && (decide (s2N a % 16 ≤ 4) && (decide (s3N a = c8N a) && decide (c8N a ≤ 8)))))
theorem s_all0 : ∀ a, a < 256 → s_allB a = true := by decide +kernel
theorem s_all {a : Nat} (h : a < 256) : (a / 2 &&& 85) ≤ a ∧ s1N a < 256 ∧ s2N a ≤ 68 ∧ s2N a % 16 ≤ 4 ∧ s3N a = c8N a ∧ c8N a ≤ 8 := by
  have := s_all0 a h
  unfold s_allB at this
  simp only [Bool.and_eq_true, decide_eq_true_eq] at this
  exact this
def pcN (M : Nat) : Nat → Nat
  | 0 => 0
  | k + 1 => pcN M k + M / 2 ^ k % 2
def bcA (M : Nat) : Nat := M - (M / 2 &&& 1431655765)
def bcB (v : Nat) : Nat := (v &&& 858993459) + (v / 4 &&& 858993459)
def bcC (v : Nat) : Nat := (v + v / 16) &&& 252645135
def bcD (v : Nat) : Nat := (v + v / 256)
def bcE (v : Nat) : Nat := (v + v / 65536)
theorem bcA_j {a b c : Nat} (ha : a < 256) (hb : b < 256) (hc : c < 256) : bcA (a + 256 * (b + 256 * c)) = s1N a + 256 * (s1N b + 256 * s1N c) := by
  have x1 := (s_all ha).1
  have x2 := (s_all hb).1
  have x3 := (s_all hc).1
  have m1 : (1431655765 : Nat) = 85 + 256 * (85 + 256 * (85 + 256 * 85)) := by decide
  have e3 : c / 2 &&& (85 + 256 * 85) = (c / 2 &&& 85) := by
    have := and_split (c / 2) 85 0 85 (by omega) (by decide)
    rw [Nat.mul_zero, Nat.add_zero, Nat.zero_and, Nat.mul_zero, Nat.add_zero] at this
    exact this
  unfold bcA s1N
  rw [m1, sp_2 _ _ _ ha, sp_2 _ _ _ hb, e3]
  omega
theorem bcB_j {a b c : Nat} (ha : a < 256) (hb : b < 256) (hc : c < 256) : bcB (a + 256 * (b + 256 * c)) = ((a &&& 51) + (a / 4 &&& 51)) + 256 * (((b &&& 51) + (b / 4 &&& 51)) + 256 * ((c &&& 51) + (c / 4 &&& 51))) := by
  have m1 : (858993459 : Nat) = 51 + 256 * (51 + 256 * (51 + 256 * 51)) := by decide
  have e3 : ∀ c, c < 256 → c &&& (51 + 256 * 51) = (c &&& 51) := by
    intro c hc
    have := and_split c 51 0 51 hc (by decide)
    rw [Nat.mul_zero, Nat.add_zero, Nat.zero_and, Nat.mul_zero, Nat.add_zero] at this
    exact this
  unfold bcB
  rw [m1, and_split _ _ _ _ ha (by decide), and_split _ _ _ _ hb (by decide), e3 c hc, sp_4 _ _ _ ha, sp_4 _ _ _ hb, e3 (c / 4) (by omega)]
  omega
theorem bcC_j {a b c : Nat} (ha : a ≤ 68) (hb : b ≤ 68) (hc : c ≤ 68) (hb4 : b % 16 ≤ 4) (hc4 : c % 16 ≤ 4) : bcC (a + 256 * (b + 256 * c)) = (a + a / 16) % 16 + 256 * ((b + b / 16) % 16 + 256 * ((c + c / 16) % 16)) := by
  have m1 : (252645135 : Nat) = 15 + 256 * (15 + 256 * (15 + 256 * 15)) := by decide
  have an : ∀ v, v &&& 15 = v % 16 := fun v => Nat.and_two_pow_sub_one_eq_mod v 4
  have e : a + 256 * (b + 256 * c) + (a + 256 * (b + 256 * c)) / 16 = (a + a / 16 + 16 * (b % 16)) + 256 * ((b + b / 16 + 16 * (c % 16)) + 256 * (c + c / 16)) := by omega
  have e3 : (c + c / 16) &&& (15 + 256 * 15) = (c + c / 16) % 16 := by
    have := and_split (c + c / 16) 15 0 15 (by omega) (by decide)
    rw [Nat.mul_zero, Nat.add_zero, Nat.zero_and, Nat.mul_zero, Nat.add_zero] at this
    rw [this, an, Nat.add_zero]
  unfold bcC
  rw [e, m1, and_split _ _ _ _ (by omega) (by decide), and_split _ _ _ _ (by omega) (by decide), e3, an, an]
  omega
theorem pc_lo (a x : Nat) (ha : a < 256) : ∀ k, k ≤ 8 → pcN (a + 256 * x) k = pcN a k := by
  have st : ∀ k, k < 8 → (a + 256 * x) / 2 ^ k % 2 = a / 2 ^ k % 2 := by
    intro k hk
    match k, hk with
    | 0, _ => simp only [Nat.reducePow]; omega
    | 1, _ => simp only [Nat.reducePow]; omega
    | 2, _ => simp only [Nat.reducePow]; omega
    | 3, _ => simp only [Nat.reducePow]; omega
    | 4, _ => simp only [Nat.reducePow]; omega
    | 5, _ => simp only [Nat.reducePow]; omega
    | 6, _ => simp only [Nat.reducePow]; omega
    | 7, _ => simp only [Nat.reducePow]; omega
  intro k
  induction k with
  | zero => intro _; rfl
  | succ k ih =>
    intro hk
    unfold pcN
    rw [ih (by omega), st k (by omega)]
theorem pc_hi (a x : Nat) (ha : a < 256) : ∀ k, pcN (a + 256 * x) (8 + k) = pcN a 8 + pcN x k := by
  intro k
  induction k with
  | zero => exact pc_lo a x ha 8 (Nat.le_refl _)
  | succ k ih =>
    show pcN (a + 256 * x) (8 + k) + (a + 256 * x) / 2 ^ (8 + k) % 2 = pcN a 8 + (pcN x k + x / 2 ^ k % 2)
    rw [ih, Nat.pow_add, ← Nat.div_div_eq_div_mul, show (a + 256 * x) / 2 ^ 8 = x by omega]
    omega
theorem pc_8 (a : Nat) : pcN a 8 = c8N a := by
  unfold c8N
  simp only [pcN, Nat.reducePow, Nat.div_one]
  omega
theorem pc_5 : ∀ c, c < 32 → pcN c 5 = c8N c := by decide +kernel
theorem bc_nat {M : Nat} (h : M < 2097152) : bcE (bcD (bcC (bcB (bcA M)))) % 64 = pcN M 21 ∧ bcA M < 2 ^ 31 ∧ bcB (bcA M) < 2 ^ 31 ∧ bcC (bcB (bcA M)) < 2 ^ 31 ∧ bcD (bcC (bcB (bcA M))) < 2 ^ 31 ∧ bcE (bcD (bcC (bcB (bcA M)))) < 2 ^ 31 := by
  obtain ⟨a, b, c, ha, hb, hc, rfl⟩ : ∃ a b c, a < 256 ∧ b < 256 ∧ c < 32 ∧ M = a + 256 * (b + 256 * c) := ⟨M % 256, M / 256 % 256, M / 65536, by omega, by omega, by omega, by omega⟩
  obtain ⟨_, a2, a3, a4, a5, a6⟩ := s_all ha
  obtain ⟨_, b2, b3, b4, b5, b6⟩ := s_all hb
  obtain ⟨_, c2, c3, c4, c5, c6⟩ := s_all (a := c) (by omega)
  have p1 : pcN (a + 256 * (b + 256 * c)) 21 = c8N a + (c8N b + c8N c) := by
    rw [show (21 : Nat) = 8 + (8 + 5) from rfl, pc_hi _ _ ha, pc_hi _ _ hb, pc_8, pc_8, pc_5 c hc]
  have e2 : bcB (bcA (a + 256 * (b + 256 * c))) = s2N a + 256 * (s2N b + 256 * s2N c) := by
    rw [bcA_j ha hb (by omega), bcB_j a2 b2 c2]
    rfl
  have e3 : bcC (bcB (bcA (a + 256 * (b + 256 * c)))) = s3N a + 256 * (s3N b + 256 * s3N c) := by
    rw [e2, bcC_j a3 b3 c3 b4 c4]
    rfl
  have e1 := bcA_j ha hb (c := c) (by omega)
  have fin : ∀ p q r : Nat, p ≤ 8 → q ≤ 8 → r ≤ 8 → bcE (bcD (p + 256 * (q + 256 * r))) % 64 = p + (q + r) ∧ p + 256 * (q + 256 * r) < 2 ^ 31 ∧ bcD (p + 256 * (q + 256 * r)) < 2 ^ 31 ∧ bcE (bcD (p + 256 * (q + 256 * r))) < 2 ^ 31 := by
    intro p q r hp hq hr
    have d1 : bcD (p + 256 * (q + 256 * r)) = (p + q) + 256 * ((q + r) + 256 * r) := by
      unfold bcD
      omega
    have d2 : bcE ((p + q) + 256 * ((q + r) + 256 * r)) = (p + (q + r)) + 64 * (4 * ((q + r) + 256 * r)) := by
      unfold bcE
      omega
    rw [d1, d2]
    refine ⟨?_, ?_, ?_, ?_⟩
    · rw [Nat.add_mul_mod_self_left]
      exact Nat.mod_eq_of_lt (by omega)
    · omega
    · omega
    · omega
  obtain ⟨g1, g2, g3, g4⟩ := fin (c8N a) (c8N b) (c8N c) a6 b6 c6
  have e1' : bcA (a + 256 * (b + 256 * c)) < 2 ^ 31 := by
    rw [e1]
    clear e1 e2 e3 p1 fin g1 g2 g3 g4 a5 b5 c5 a6 b6 c6 h
    omega
  have e2' : bcB (bcA (a + 256 * (b + 256 * c))) < 2 ^ 31 := by
    rw [e2]
    clear e1' e1 e2 e3 p1 fin g1 g2 g3 g4 a5 b5 c5 a6 b6 c6 h
    omega
  rw [a5, b5, c5] at e3
  rw [p1, e3]
  exact ⟨g1, e1', e2', g2, g3, g4⟩
theorem f_bitCount {M : Nat} {X : XM} (h : M < 2097152) : fJ6_bitCount_0f7a4 (nI M) X = some (nI (pcN M 21), X) := by
  obtain ⟨h0, h1, h2, h3, h4, h5⟩ := bc_nat h
  have s1 : ∀ n, n < 2 ^ 31 → o_usr (nI n) 1 = nI (n / 2) := fun n hn => pk_ushrN (by omega) 1 1 (by decide)
  have s2 : ∀ n, n < 2 ^ 31 → o_usr (nI n) 2 = nI (n / 4) := fun n hn => pk_ushrN (by omega) 2 2 (by decide)
  have s4 : ∀ n, n < 2 ^ 31 → o_usr (nI n) 4 = nI (n / 16) := fun n hn => pk_ushrN (by omega) 4 4 (by decide)
  have s8 : ∀ n, n < 2 ^ 31 → o_usr (nI n) 8 = nI (n / 256) := fun n hn => pk_ushrN (by omega) 8 8 (by decide)
  have s16 : ∀ n, n < 2 ^ 31 → o_usr (nI n) 16 = nI (n / 65536) := fun n hn => pk_ushrN (by omega) 16 16 (by decide)
  have l1 : (M / 2 &&& 1431655765) ≤ M := Nat.le_trans Nat.and_le_left (Nat.div_le_self _ _)
  unfold fJ6_bitCount_0f7a4
  rw [s1 M (by omega), show (1431655765 : Int32) = nI 1431655765 from rfl, fa_and, pk_sub l1, zl_ok]
  rw [show M - (M / 2 &&& 1431655765) = bcA M from rfl, show (858993459 : Int32) = nI 858993459 from rfl, fa_and, s2 _ h1, fa_and, nI_add, zl_ok]
  rw [show (bcA M &&& 858993459) + (bcA M / 4 &&& 858993459) = bcB (bcA M) from rfl, show (252645135 : Int32) = nI 252645135 from rfl, s4 _ h2, nI_add, fa_and, zl_ok]
  rw [show (bcB (bcA M) + bcB (bcA M) / 16 &&& 252645135) = bcC (bcB (bcA M)) from rfl, s8 _ h3, nI_add, zl_ok]
  rw [show bcC (bcB (bcA M)) + bcC (bcB (bcA M)) / 256 = bcD (bcC (bcB (bcA M))) from rfl, s16 _ h4, nI_add, zl_ok]
  rw [show bcD (bcC (bcB (bcA M))) + bcD (bcC (bcB (bcA M))) / 65536 = bcE (bcD (bcC (bcB (bcA M)))) from rfl, show (63 : Int32) = nI (2 ^ 6 - 1) from rfl, fa_mask, show (2 : Nat) ^ 6 = 64 from rfl, h0]
theorem bit_pc (M i : Nat) : pcN M (i + 1) = pcN M i + (if M.testBit i = true then 1 else 0) := by
  show pcN M i + M / 2 ^ i % 2 = _
  rw [Nat.testBit_eq_decide_div_mod_eq]
  by_cases c : M / 2 ^ i % 2 = 1
  · rw [c]
    rfl
  · rw [if_neg (by rw [decide_eq_true_eq]; exact c)]
    omega
def kthN (M : Nat) : Nat → Nat → Nat → Nat
  | 0, i, _ => i
  | n + 1, i, left => if M.testBit i = true then (if left = 0 then i else kthN M n (i + 1) (left - 1)) else kthN M n (i + 1) left
theorem kth_ok {M : Nat} : ∀ n i left, i ≤ 21 → 21 < i + n → left + pcN M i < pcN M 21 → kthN M n i left < 21 ∧ M.testBit (kthN M n i left) = true := by
  intro n
  induction n with
  | zero => intro i left h1 h2; omega
  | succ n ih =>
    intro i left h1 h2 h3
    have hi : i < 21 := by
      rcases Nat.lt_or_ge i 21 with q | q
      · exact q
      · rw [show i = 21 by omega] at h3; omega
    have hb := bit_pc M i
    unfold kthN
    by_cases c : M.testBit i = true
    · rw [if_pos c] at hb
      rw [if_pos c]
      by_cases d : left = 0
      · rw [if_pos d]; exact ⟨hi, c⟩
      · rw [if_neg d]
        exact ih (i + 1) (left - 1) (by omega) (by omega) (by omega)
    · rw [if_neg c] at hb
      rw [if_neg c]
      exact ih (i + 1) left (by omega) (by omega) (by omega)
theorem f_place_19 {M : Nat} {a b : Int32} {X : XM} (hM : M < 2097152) : ∀ n i left, i ≤ 21 → 21 < i + n → left + pcN M i < pcN M 21 → left < 2 ^ 31 → fX8_moveInPlace_19 n (nI M) a b (nI left) (nI i) X = some (nI (kthN M n i left), X) := by
  intro n
  induction n with
  | zero => intro i left h1 h2; omega
  | succ n ih =>
    intro i left h1 h2 h3 h4
    have hi : i < 21 := by
      rcases Nat.lt_or_ge i 21 with q | q
      · exact q
      · rw [show i = 21 by omega] at h3; omega
    have hb := bit_pc M i
    rw [fX8_moveInPlace_19, if_neg (i21 hi), f_isInB rfl rfl (by omega) (by omega), zi_ok]
    unfold kthN
    by_cases c : M.testBit i = true
    · rw [if_pos c] at hb
      rw [c, if_neg (show ¬ bI true = 0 by decide), if_pos rfl]
      by_cases d : left = 0
      · rw [if_pos (by rw [d]; rfl), if_pos d]
      · obtain ⟨l, rfl⟩ : ∃ l, left = l + 1 := ⟨left - 1, by omega⟩
        rw [if_neg (fun q => d ((nI_z (by omega)).mp q)), if_neg d, pk_m1, nI_1, Nat.add_sub_cancel]
        exact ih (i + 1) l (by omega) (by omega) (by omega) (by omega)
    · rw [if_neg c] at hb
      rw [Bool.eq_false_iff.mpr c, if_pos (show bI false = 0 from rfl), if_neg Bool.false_ne_true, nI_1]
      exact ih (i + 1) left (by omega) (by omega) (by omega) h4
theorem q_ones_4 {M : Nat} {X : XM} (hM : M < 2097152) : ∀ n i, i ≤ 21 → 21 < i + n → fX9_ones_4 n (nI M) (nI (pcN M i)) (nI i) X = some (nI (pcN M 21), X) := by
  intro n
  induction n with
  | zero => intro i h1 h2; omega
  | succ n ih =>
    intro i h1 h2
    rw [fX9_ones_4]
    by_cases ci : i = 21
    · subst ci
      rw [if_pos (show (21 : Int32) ≤ nI 21 by decide)]
    · have hb := bit_pc M i
      rw [if_neg (i21n (by omega)), q_bit (X := X) (by omega) (by omega), zl_ok, nI_1]
      have e : nI (pcN M i) + bI (M.testBit i) = nI (pcN M (i + 1)) := by
        rw [hb]
        cases M.testBit i
        · exact nI_add _ 0
        · exact nI_add _ 1
      rw [e]
      exact ih (i + 1) (by omega) (by omega)
theorem q_moveAt_4 {M : Nat} {a : Int32} {X : XM} (hM : M < 2097152) : ∀ n i left, i ≤ 21 → 21 < i + n → left + pcN M i < pcN M 21 → left < 2 ^ 31 → fX9_moveAt_4 n (nI M) a (nI left) (nI i) X = some (nI (kthN M n i left), X) := by
  intro n
  induction n with
  | zero => intro i left h1 h2; omega
  | succ n ih =>
    intro i left h1 h2 h3 h4
    have hi : i < 21 := by
      rcases Nat.lt_or_ge i 21 with q | q
      · exact q
      · rw [show i = 21 by omega] at h3; omega
    have hb := bit_pc M i
    rw [fX9_moveAt_4, q_bit (X := X) (by omega) (by omega)]
    unfold kthN
    have n0 : nI left - bI false = nI left := by
      show nI left - nI 0 = _
      rw [pk_sub (Nat.zero_le _)]
      rfl
    by_cases d : left = 0
    · rw [if_neg (show ¬ (0 : Int32) < nI left by rw [d]; decide)]
      by_cases c : M.testBit i = true
      · rw [c, if_neg (show ¬ bI true = 0 by decide), if_pos rfl, if_pos d]
      · rw [if_neg c] at hb
        rw [Bool.eq_false_iff.mpr c, if_pos (show bI false = 0 from rfl), zl_ok, if_neg Bool.false_ne_true, nI_1, n0]
        exact ih (i + 1) left (by omega) (by omega) (by omega) h4
    · rw [if_pos (show (0 : Int32) < nI left by rw [show (0 : Int32) = nI 0 from rfl, nI_ltI (by decide) h4]; omega), zl_ok, nI_1]
      by_cases c : M.testBit i = true
      · rw [if_pos c] at hb
        rw [c, if_pos rfl, if_neg d, show nI left - bI true = nI (left - 1) from pk_sub (b := 1) (by omega)]
        exact ih (i + 1) (left - 1) (by omega) (by omega) (by omega) (by omega)
      · rw [if_neg c] at hb
        rw [Bool.eq_false_iff.mpr c, if_neg Bool.false_ne_true, n0]
        exact ih (i + 1) left (by omega) (by omega) (by omega) h4
end BC
