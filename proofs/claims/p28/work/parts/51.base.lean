/-! THE PURE SIDE: how the pure forms are reckoned -/
theorem zi_ok {α β : Type} {r : α} {X : XM} {k : α → XM → Option β} : zi (some (r, X)) k = k r X := rfl
theorem zv_ok {β : Type} {X : XM} {k : XM → Option β} : zv (some X) k = k X := rfl
theorem zl_ok {α β : Type} {x : α} {k : α → Option β} : zl x k = k x := rfl
theorem zb_ok {β : Type} {v : Int32} {x : Option β} (h : v = 0 ∨ v = 1) : zb v x = x := if_pos h
theorem zb_0 {β : Type} {x : Option β} : zb 0 x = x := if_pos (Or.inl rfl)
theorem zb_1 {β : Type} {x : Option β} : zb 1 x = x := if_pos (Or.inr rfl)
theorem zz_ok {β : Type} {v : Int32} {x : Option β} (h : ¬ v = 0) : zz v x = x := if_neg h
def srw (X : XM) (r : Nat) (f : Nat → Int32) : XM := fun a => if a = r then f else X a
theorem xup_eq {X : XM} {r k : Nat} {v : Int32} : xup X r k v = srw X r (upd (X r) k v) := by
  funext a b
  unfold xup srw upd
  by_cases h : a = r
  · subst h
    simp
  · simp [h]
theorem srw_s {X : XM} {r : Nat} {f : Nat → Int32} : srw X r f r = f := if_pos rfl
theorem srw_n {X : XM} {r a : Nat} {f : Nat → Int32} (h : a ≠ r) : srw X r f a = X a := if_neg h
theorem srw_ss {X : XM} {r : Nat} {f h : Nat → Int32} : srw (srw X r f) r h = srw X r h := by
  funext a
  unfold srw
  by_cases e : a = r <;> simp [e]
theorem srw_id {X : XM} {r : Nat} : srw X r (X r) = X := by
  funext a
  unfold srw
  by_cases e : a = r <;> simp [e]
theorem srw_comm {X : XM} {r q : Nat} {f h : Nat → Int32} (n : r ≠ q) : srw (srw X r f) q h = srw (srw X q h) r f := by
  funext a
  unfold srw
  by_cases e : a = r
  · subst e
    simp [n]
  · simp [e]
theorem xun_nI {n : Nat} (h : n < 2 ^ 32) : xun (nI n) = n := pk_tn h
theorem nI_xun (x : Int32) : nI (xun x) = x := by
  apply Int32.toBitVec_inj.1
  show BitVec.ofNat 32 x.toBitVec.toNat = x.toBitVec
  simp
theorem xun_eq {x : Int32} {n : Nat} (h : xun x = n) : x = nI n := by rw [← h, nI_xun]
theorem nI_inj {a b : Nat} (ha : a < 2 ^ 32) (hb : b < 2 ^ 32) (h : nI a = nI b) : a = b := by rw [← xun_nI ha, ← xun_nI hb, h]
theorem nI_iff {a b : Nat} (ha : a < 2 ^ 32) (hb : b < 2 ^ 32) : nI a = nI b ↔ a = b := ⟨nI_inj ha hb, fun h => by rw [h]⟩
theorem nI_z {a : Nat} (ha : a < 2 ^ 32) : nI a = 0 ↔ a = 0 := nI_iff (b := 0) ha (by decide)
theorem nI_u {a : Nat} (ha : a < 2 ^ 32) : nI a = 1 ↔ a = 1 := nI_iff (b := 1) ha (by decide)
theorem nI_le0 {a : Nat} (ha : a < 2 ^ 31) : nI a ≤ 0 ↔ a = 0 := by
  rw [fa_le, nI_toInt ha]
  have : (0 : Int32).toInt = 0 := by decide
  omega
theorem nI_clampN {a : Nat} (ha : a < 2 ^ 31) : (nI a).toNatClampNeg = a := nI_clamp ha
/-- a game's row: what its places may hold -/
def gok (f : Nat → Int32) : Prop :=
  1 ≤ xun (f 0) ∧ xun (f 0) ≤ 31 ∧ xun (f 1) ≤ 99 ∧ xun (f 2) ≤ 4 ∧ xun (f 3) ≤ 1 ∧ xun (f 4) ≤ 1 ∧ xun (f 5) ≤ 1 ∧ xun (f 7) ≤ 2 ∧ xun (f 8) ≤ 2 ∧
  (∀ p, p < 4 → xun (f (11 + 4 * p)) ≤ 5 ∧ xun (f (12 + 4 * p)) ≤ 9 ∧ xun (f (13 + 4 * p)) ≤ 1 ∧ xun (f (14 + 4 * p)) ≤ 5 ∧ (xun (f 2) ≤ p → f (11 + 4 * p) = 0 ∧ f (14 + 4 * p) = 0)) ∧ ∀ k, 27 ≤ k → f k = 0
/-- the takes that a pile of t tokens allows, as a set -/
def tkm (tk t : Nat) : Nat := tk % 2 ^ t
def gT (f : Nat → Int32) (p : Nat) : Nat := xun (f (11 + 4 * p))
def gsum (f : Nat → Int32) : Nat := gT f 0 + gT f 1 + gT f 2 + gT f 3
def gtakes (f : Nat → Int32) : Nat := tkm (xun (f 0)) (gT f 0) + 32 * tkm (xun (f 0)) (gT f 1) + 1024 * tkm (xun (f 0)) (gT f 2) + 32768 * tkm (xun (f 0)) (gT f 3)
def gpassB (f : Nat → Int32) : Bool := decide (0 < xun (f (7 + xun (f 3)))) && (decide (f 4 = 0) && decide (0 < gsum f))
def gmoves (f : Nat → Int32) : Nat := if f 5 = 0 then gtakes f + (if gpassB f = true then 1048576 else 0) else 0
theorem tkm_lt {tk t : Nat} (h : t ≤ 5) : tkm tk t < 32 := by
  unfold tkm
  have h1 : 2 ^ t ≤ 2 ^ 5 := Nat.pow_le_pow_right (by decide) h
  have h2 : tk % 2 ^ t < 2 ^ t := Nat.mod_lt _ (Nat.two_pow_pos t)
  omega
theorem tko : ∀ tk, tk < 32 → ∀ t, t < 6 → ∀ p, p < 4 → o_shl (nI tk &&& (o_shl 1 (nI t) - 1)) (5 * nI p) = nI (32 ^ p * tkm tk t) := by decide +kernel
theorem f_takesOutOf {a b c : Int32} {tk t p : Nat} {X : XM} (ha : a = nI t) (hb : b = nI tk) (hc : c = nI p) (htk : tk < 32) (ht : t < 6) (hp : p < 4) : fX8_takesOutOf a b c X = some (nI (32 ^ p * tkm tk t), X) := by
  unfold fX8_takesOutOf
  rw [ha, hb, hc, tko tk htk t ht p hp]
theorem or_sum {a b k n : Nat} (h : a < 2 ^ k) (hn : n = 2 ^ k * b) : nI a ||| nI n = nI (a + n) := by
  rw [fa_or, hn, Nat.or_comm, ← Nat.two_pow_add_eq_or_of_lt h, Nat.add_comm]
theorem s_l2 : ∀ n, n < 32 → ((nI n &&& 31).toBitVec.smod 32).toNat = n := by decide +kernel
theorem f_isIn {a b : Int32} {n k : Nat} {X : XM} (ha : a = nI n) (hb : b = nI k) (hn : n < 2 ^ 31) (hk : k < 31) : fX8_isIn a b X = some (if n.testBit k then 1 else 0, X) := by
  have hs : o_shr a b = nI (n / 2 ^ k) := by
    rw [ha, hb]
    exact pk_shrN hn _ k (by
      have := s_l2 k (by omega)
      exact this)
  unfold fX8_isIn
  rw [hs]
  have h1 : nI (n / 2 ^ k) &&& 1 = nI (n / 2 ^ k % 2) := fa_mask (n / 2 ^ k) 1
  rw [h1]
  rw [Nat.testBit_eq_decide_div_mod_eq]
  by_cases h : n / 2 ^ k % 2 = 1
  · rw [h]
    simp
    decide
  · have h0 : n / 2 ^ k % 2 = 0 := by omega
    rw [h0]
    simp
    decide
