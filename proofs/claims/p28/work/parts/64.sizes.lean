/-! THE SIZES: the values of single piles -/
section SZS
def omP (tk : Nat) (g : Nat → Nat) (n : Nat) : Nat → Nat
  | 0 => 0
  | t + 1 => omP tk g n t ||| (if tk.testBit t = true ∧ t + 1 ≤ n then 2 ^ g (n - (t + 1)) else 0)
def mx (m : Nat) : Nat := if m.testBit 0 = false then 0 else if m.testBit 1 = false then 1 else if m.testBit 2 = false then 2 else if m.testBit 3 = false then 3 else if m.testBit 4 = false then 4 else 5
theorem mx_le (m : Nat) : mx m ≤ 5 := by
  unfold mx
  repeat' split
  all_goals omega
theorem mx_at {m i : Nat} (hi : i ≤ 5) (hb : ∀ j, j < i → m.testBit j = true) (he : i = 5 ∨ m.testBit i = false) : mx m = i := by
  unfold mx
  match i, hi with
  | 0, _ => rw [if_pos (he.resolve_left (by decide))]
  | 1, _ => rw [if_neg (by rw [hb 0 (by decide)]; decide), if_pos (he.resolve_left (by decide))]
  | 2, _ => rw [if_neg (by rw [hb 0 (by decide)]; decide), if_neg (by rw [hb 1 (by decide)]; decide), if_pos (he.resolve_left (by decide))]
  | 3, _ => rw [if_neg (by rw [hb 0 (by decide)]; decide), if_neg (by rw [hb 1 (by decide)]; decide), if_neg (by rw [hb 2 (by decide)]; decide), if_pos (he.resolve_left (by decide))]
  | 4, _ => rw [if_neg (by rw [hb 0 (by decide)]; decide), if_neg (by rw [hb 1 (by decide)]; decide), if_neg (by rw [hb 2 (by decide)]; decide), if_neg (by rw [hb 3 (by decide)]; decide), if_pos (he.resolve_left (by decide))]
  | 5, _ => rw [if_neg (by rw [hb 0 (by decide)]; decide), if_neg (by rw [hb 1 (by decide)]; decide), if_neg (by rw [hb 2 (by decide)]; decide), if_neg (by rw [hb 3 (by decide)]; decide), if_neg (by rw [hb 4 (by decide)]; decide)]
def gtab (tk : Nat) : Nat → Nat → Nat
  | 0, _ => 0
  | n + 1, k => if k = n then mx (omP tk (gtab tk n) n 5) else gtab tk n k
def gr (tk k : Nat) : Nat := gtab tk 201 k
theorem gtab_le (tk : Nat) : ∀ n k, gtab tk n k ≤ 5 := by
  intro n
  induction n with
  | zero => intro k; exact Nat.zero_le _
  | succ n ih =>
    intro k
    unfold gtab
    by_cases c : k = n
    · rw [if_pos c]; exact mx_le _
    · rw [if_neg c]; exact ih k
theorem pow_in : ∀ a, a ≤ 5 → 2 ^ a ∈ [0, 1, 2, 4, 8, 16, 32] := by
  intro a ha
  match a, ha with
  | 0, _ => decide
  | 1, _ => decide
  | 2, _ => decide
  | 3, _ => decide
  | 4, _ => decide
  | 5, _ => decide
theorem five_or : ∀ a ∈ [0, 1, 2, 4, 8, 16, 32], ∀ b ∈ [0, 1, 2, 4, 8, 16, 32], ∀ c ∈ [0, 1, 2, 4, 8, 16, 32], ∀ d ∈ [0, 1, 2, 4, 8, 16, 32], ∀ e ∈ [0, 1, 2, 4, 8, 16, 32], ((((0 ||| a) ||| b) ||| c) ||| d) ||| e < 63 := by decide +kernel
theorem om_63 {tk n : Nat} {g : Nat → Nat} (hg : ∀ k, g k ≤ 5) : omP tk g n 5 < 63 := by
  have s : ∀ t, (if tk.testBit t = true ∧ t + 1 ≤ n then 2 ^ g (n - (t + 1)) else 0) ∈ [0, 1, 2, 4, 8, 16, 32] := by
    intro t
    by_cases c : tk.testBit t = true ∧ t + 1 ≤ n
    · rw [if_pos c]; exact pow_in _ (hg _)
    · rw [if_neg c]; decide
  exact five_or _ (s 0) _ (s 1) _ (s 2) _ (s 3) _ (s 4)
theorem om_64 {tk n : Nat} {g : Nat → Nat} (hg : ∀ k, g k ≤ 5) : ∀ t, omP tk g n t < 2 ^ 6 := by
  intro t
  induction t with
  | zero => exact (by decide : 0 < 2 ^ 6)
  | succ t ih =>
    refine Nat.or_lt_two_pow ih ?_
    by_cases c : tk.testBit t = true ∧ t + 1 ≤ n
    · rw [if_pos c]; exact Nat.pow_lt_pow_right (by decide) (by have := hg (n - (t + 1)); omega)
    · rw [if_neg c]; decide
theorem all6' : ∀ m, m < 64 → (m.testBit 0 && (m.testBit 1 && (m.testBit 2 && (m.testBit 3 && (m.testBit 4 && m.testBit 5))))) = true → m = 63 := by decide +kernel
theorem all6 {m : Nat} (hm : m < 64) (hb : ∀ j, j < 6 → m.testBit j = true) : m = 63 := by
  refine all6' m hm ?_
  rw [hb 0 (by decide), hb 1 (by decide), hb 2 (by decide), hb 3 (by decide), hb 4 (by decide), hb 5 (by decide)]
  rfl
theorem s_bit {n k : Nat} (hn : n < 2 ^ 31) (hk : k < 31) : (o_shr (nI n) (nI k) &&& 1 = 1) ↔ n.testBit k = true := by
  have hs : o_shr (nI n) (nI k) = nI (n / 2 ^ k) := pk_shrN hn _ k (s_l2 k (by omega))
  have h1 : nI (n / 2 ^ k) &&& 1 = nI (n / 2 ^ k % 2) := fa_mask (n / 2 ^ k) 1
  rw [hs, h1, Nat.testBit_eq_decide_div_mod_eq, decide_eq_true_eq]
  constructor
  · intro q; exact (nI_u (by omega)).1 q
  · intro q; rw [q]; rfl
theorem f_least_2 {m : Nat} (hm : m < 64) {X : XM} : ∀ (n i : Nat), i ≤ 5 → 5 < i + n → (∀ j, j < i → m.testBit j = true) → fX5_leastOutside_2 n (nI m) (nI i) X = some (nI (mx m), X) := by
  intro n
  induction n with
  | zero => intro i h1 h2; omega
  | succ n ih =>
    intro i h1 h2 hb
    rw [fX5_leastOutside_2]
    by_cases c : i = 5
    · rw [if_pos (show (5 : Int32) ≤ nI i by rw [c]; decide), mx_at h1 hb (Or.inl c)]
    · rw [if_neg (show ¬ (5 : Int32) ≤ nI i by rw [show (5 : Int32) = nI 5 from rfl, nI_leI (by decide) (by omega)]; omega), f_isIn rfl rfl (by omega) (by omega), zi_ok]
      by_cases d : m.testBit i = true
      · rw [if_pos d, if_neg i10, nI_1]
        refine ih (i + 1) (by omega) (by omega) (fun j hj => ?_)
        by_cases e : j = i
        · rw [e]; exact d
        · exact hb j (by omega)
      · rw [if_neg d, if_pos rfl, mx_at h1 hb (Or.inr (by simpa using d))]
theorem lt_neg : ∀ t, t < 6 → ∀ n, n < t → nI n - nI t < 0 := by decide +kernel
theorem or_shl {a g : Nat} (hg : g ≤ 5) : nI a ||| o_shl 1 (nI g) = nI (a ||| 2 ^ g) := by
  rw [shl1 g (by omega), fa_or]
theorem f_behind_5 {tk n : Nat} (htk : tk < 32) (hn : n ≤ 200) {g : Nat → Nat} (hg : ∀ k, g k ≤ 5) {X : XM} (hX : ∀ k, k < n → X 19 k = nI (g k)) : ∀ (m t : Nat), t ≤ 5 → 5 < t + m → fX5_nimbersBehind_5 m (nI tk) (nI n) (nI (omP tk g n t)) (nI (t + 1)) X = some (nI (omP tk g n 5), X) := by
  intro m
  induction m with
  | zero => intro t h1 h2; omega
  | succ m ih =>
    intro t h1 h2
    rw [fX5_nimbersBehind_5]
    by_cases c : t = 5
    · rw [if_pos (show (5 : Int32) < nI (t + 1) by rw [c]; decide), c]
    · have hnx : fX5_nimbersBehind_5 m (nI tk) (nI n) (nI (omP tk g n (t + 1))) (nI (t + 1 + 1)) X = some (nI (omP tk g n 5), X) := ih (t + 1) (by omega) (by omega)
      rw [if_neg (show ¬ (5 : Int32) < nI (t + 1) by rw [show (5 : Int32) = nI 5 from rfl, nI_ltI (by decide) (by omega)]; omega), zl_ok, nI_1]
      by_cases d : t + 1 ≤ n
      · rw [nI_sub d, if_neg (nI_pos (by omega)), if_neg (show ¬ (201 : Int32) ≤ nI (n - (t + 1)) by rw [show (201 : Int32) = nI 201 from rfl, nI_leI (by decide) (by omega)]; omega), f_isIn (k := t) rfl (by rw [show (1 : Int32) = nI 1 from rfl, nI_sub (by omega)]; rfl) (by omega) (by omega), zi_ok]
        by_cases e : tk.testBit t = true
        · rw [if_pos e, if_neg i10, zd_ok (vp_in_nI (by omega) (by decide)), nI_clampN (by omega), zl_ok, hX _ (by omega), or_shl (hg _)]
          have eo : omP tk g n (t + 1) = omP tk g n t ||| 2 ^ g (n - (t + 1)) := by
            show _ ||| _ = _
            rw [if_pos ⟨e, d⟩]
          rw [← eo]
          exact hnx
        · rw [if_neg e, if_pos rfl]
          have eo : omP tk g n (t + 1) = omP tk g n t := by
            show _ ||| _ = _
            rw [if_neg (fun q => e q.1), Nat.or_zero]
          rw [← eo]
          exact hnx
      · rw [if_pos (lt_neg (t + 1) (by omega) n (by omega))]
        have eo : omP tk g n (t + 1) = omP tk g n t := by
          show _ ||| _ = _
          rw [if_neg (fun q => d q.2), Nat.or_zero]
        rw [← eo]
        exact hnx
def SZ (tk : Nat) (X : XM) : Prop := X 18 0 = nI tk ∧ ∀ k, k < 201 → X 19 k = nI (gr tk k)
theorem f_learn_10 {tk : Nat} (htk : tk < 32) : ∀ (m n : Nat) (X : XM), n ≤ 201 → 201 < n + m → (∀ k, k < n → X 19 k = nI (gtab tk n k)) → ∃ Y, fX5_learn_10 m (nI tk) (nI n) X = some Y ∧ (∀ r, r ≠ 18 → r ≠ 19 → Y r = X r) ∧ SZ tk Y := by
  intro m
  induction m with
  | zero => intro n X h1 h2; omega
  | succ m ih =>
    intro n X h1 h2 hX
    rw [fX5_learn_10]
    by_cases c : n = 201
    · subst c
      rw [if_pos (show (201 : Int32) ≤ nI 201 by decide), zl_ok, xup_eq]
      refine ⟨_, rfl, fun r a b => srw_n a, ?_, fun k hk => ?_⟩
      · rw [srw_s]; rfl
      · rw [srw_n (by decide)]; exact hX k hk
    · have hf := fuel_ge
      rw [if_neg (show ¬ (201 : Int32) ≤ nI n by rw [show (201 : Int32) = nI 201 from rfl, nI_leI (by decide) (by omega)]; omega)]
      unfold fX5_nimbersBehind fX5_leastOutside
      have b := f_behind_5 htk (by omega : n ≤ 200) (gtab_le tk n) hX fuel 0 (by decide) (by omega)
      have l := f_least_2 (om_64 (tk := tk) (n := n) (gtab_le tk n) 5) (X := X) fuel 0 (by decide) (by omega) (fun j hj => absurd hj (by omega))
      rw [show (fX5_nimbersBehind_5 fuel (nI tk) (nI n) 0 1 X) = some (nI (omP tk (gtab tk n) n 5), X) from b, zi_ok, show fX5_leastOutside_2 fuel (nI (omP tk (gtab tk n) n 5)) 0 X = _ from l, zi_ok, zd_ok (vp_in_nI (by omega) (by decide)), nI_clampN (by omega), zl_ok, xup_eq, nI_1]
      obtain ⟨Y, hY, hr, hs⟩ := ih (n + 1) (srw X 19 (upd (X 19) n (nI (mx (omP tk (gtab tk n) n 5))))) (by omega) (by omega) (fun k hk => by
        rw [srw_s]
        unfold upd gtab
        by_cases d : k = n
        · rw [if_pos d, if_pos d]
        · rw [if_neg d, if_neg d]; exact hX k (by omega))
      exact ⟨Y, hY, fun r a b => by rw [hr r a b, srw_n b], hs⟩
def SI (X : XM) : Prop := X 18 0 = 0 ∨ ∃ tk, 1 ≤ tk ∧ tk < 32 ∧ SZ tk X
theorem f_learn {tk : Nat} (h1 : 1 ≤ tk) (htk : tk < 32) {X : XM} (I : SI X) : ∃ Y, fX5_learn (nI tk) X = some Y ∧ (∀ r, r ≠ 18 → r ≠ 19 → Y r = X r) ∧ SZ tk Y := by
  unfold fX5_learn
  by_cases c : nI tk = X 18 0
  · rw [if_pos c]
    refine ⟨X, rfl, fun r _ _ => rfl, ?_⟩
    rcases I with q | ⟨t2, a, b, s⟩
    · rw [q, nI_z (by omega)] at c; omega
    · have : tk = t2 := nI_inj (by omega) (by omega) (by rw [c, s.1])
      rw [this]; exact s
  · rw [if_neg c]
    exact f_learn_10 htk fuel 0 X (by decide) (by have := fuel_ge; omega) (fun k hk => absurd hk (by omega))
theorem f_learned {tk : Nat} {X : XM} (h : SZ tk X) : fX5_learn (nI tk) X = some X := by
  unfold fX5_learn
  rw [if_pos h.1.symm]
end SZS
