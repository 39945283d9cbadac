/-! SINGLE PILES tell who wins, where nobody can pass and no pile is poisoned -/
section NM8
theorem gtab_up (tk n : Nat) {k : Nat} (hk : k < n) : ∀ m, gtab tk (n + m) k = gtab tk n k := by
  intro m
  induction m with
  | zero => rfl
  | succ m ih =>
    rw [show n + (m + 1) = (n + m) + 1 from rfl, gtab, if_neg (by omega)]
    exact ih
theorem gr6 (tk : Nat) {k : Nat} (hk : k < 6) : gr tk k = gtab tk 6 k := gtab_up tk 6 hk 195
theorem gr_le (tk k : Nat) : gr tk k ≤ 5 := gtab_le tk 201 k
theorem mm_0 : ∀ tk, tk < 32 → gtab tk 6 0 = 0 := by decide +kernel
theorem mm_1 : ∀ tk, tk < 32 → ∀ t, t < 6 → ∀ k, k < 5 → (!(tk.testBit k && decide (k < t)) || (gtab tk 6 (t - (k + 1)) != gtab tk 6 t)) = true := by decide +kernel
theorem mm_2 : ∀ tk, tk < 32 → ∀ t, t < 6 → ∀ v, v < 6 → (!(decide (v < gtab tk 6 t)) || (List.range 5).any (fun k => tk.testBit k && (decide (k < t) && (gtab tk 6 (t - (k + 1)) == v)))) = true := by decide +kernel
def sgB (a b c d x : Nat) : Bool := x == 0 || ((decide (a ^^^ x < a) && ((a ^^^ x) ^^^ b ^^^ c ^^^ d == 0)) || ((decide (b ^^^ x < b) && (a ^^^ (b ^^^ x) ^^^ c ^^^ d == 0)) || ((decide (c ^^^ x < c) && (a ^^^ b ^^^ (c ^^^ x) ^^^ d == 0)) || (decide (d ^^^ x < d) && (a ^^^ b ^^^ c ^^^ (d ^^^ x) == 0)))))
theorem sg_1 : ∀ a, a < 6 → ∀ b, b < 6 → ∀ c, c < 6 → ∀ d, d < 6 → sgB a b c d (a ^^^ b ^^^ c ^^^ d) = true := by decide +kernel
theorem sg_2 : ∀ a, a < 6 → ∀ b, b < 6 → ∀ c, c < 6 → ∀ d, d < 6 → ∀ e, e < 6 → (decide (a ^^^ b ^^^ c ^^^ d ≠ 0) || ((decide (e ^^^ b ^^^ c ^^^ d ≠ 0) || decide (e = a)) && ((decide (a ^^^ e ^^^ c ^^^ d ≠ 0) || decide (e = b)) && ((decide (a ^^^ b ^^^ e ^^^ d ≠ 0) || decide (e = c)) && (decide (a ^^^ b ^^^ c ^^^ e ≠ 0) || decide (e = d)))))) = true := by decide +kernel
theorem sg_3 {a b c d e : Nat} (ha : a < 6) (hb : b < 6) (hc : c < 6) (hd : d < 6) (he : e < 6) (h0 : a ^^^ b ^^^ c ^^^ d = 0) : (e ^^^ b ^^^ c ^^^ d = 0 → e = a) ∧ (a ^^^ e ^^^ c ^^^ d = 0 → e = b) ∧ (a ^^^ b ^^^ e ^^^ d = 0 → e = c) ∧ (a ^^^ b ^^^ c ^^^ e = 0 → e = d) := by
  have key := sg_2 a ha b hb c hc d hd e he
  simp only [Bool.or_eq_true, Bool.and_eq_true, decide_eq_true_eq] at key
  have k := key.resolve_left (fun n => n h0)
  exact ⟨fun z => k.1.resolve_left (fun n => n z), fun z => k.2.1.resolve_left (fun n => n z), fun z => k.2.2.1.resolve_left (fun n => n z), fun z => k.2.2.2.resolve_left (fun n => n z)⟩
theorem gr_none {tk : Nat} (h : tk < 32) : gr tk 0 = 0 := by rw [gr6 tk (by decide)]; exact mm_0 tk h
theorem gr_moves {tk t k : Nat} (h : tk < 32) (ht : t < 6) (hk : k < 5) (hb : tk.testBit k = true) (hkt : k < t) : gr tk (t - (k + 1)) ≠ gr tk t := by
  have := mm_1 tk h t ht k hk
  rw [hb, decide_eq_true hkt] at this
  rw [gr6 tk ht, gr6 tk (by omega)]
  simpa using this
theorem gr_meets {tk t v : Nat} (h : tk < 32) (ht : t < 6) (hv : v < gr tk t) : ∃ k, k < 5 ∧ tk.testBit k = true ∧ k < t ∧ gr tk (t - (k + 1)) = v := by
  have hle := gr_le tk t
  have := mm_2 tk h t ht v (by omega)
  rw [gr6 tk ht] at hv
  rw [decide_eq_true hv, Bool.not_true, Bool.false_or, List.any_eq_true] at this
  obtain ⟨k, hk, hq0⟩ := this
  have hq : (tk.testBit k && (decide (k < t) && (gtab tk 6 (t - (k + 1)) == v))) = true := hq0
  rw [List.mem_range] at hk
  rw [Bool.and_eq_true, Bool.and_eq_true, decide_eq_true_eq, beq_iff_eq] at hq
  exact ⟨k, hk, hq.1, hq.2.1, by rw [gr6 tk (by omega)]; exact hq.2.2⟩
def nimC (tk c : Nat) : Nat := gr tk (dig c 0) ^^^ gr tk (dig c 1) ^^^ gr tk (dig c 2) ^^^ gr tk (dig c 3)
theorem dig6 (c p : Nat) : dig c p < 6 := Nat.mod_lt _ (by decide)
theorem nim_at {tk c p k : Nat} (hc : c < 1296) (hp : p < 4) (hk : k ≤ dig c p) : nimC tk (c - 6 ^ p * k) = gr tk (if 0 = p then dig c p - k else dig c 0) ^^^ gr tk (if 1 = p then dig c p - k else dig c 1) ^^^ gr tk (if 2 = p then dig c p - k else dig c 2) ^^^ gr tk (if 3 = p then dig c p - k else dig c 3) := by
  have h := (dig_sub hc hp hk).2
  unfold nimC
  rw [h 0 (by decide), h 1 (by decide), h 2 (by decide), h 3 (by decide)]
theorem nim_back {tk c p k : Nat} (htk : tk < 32) (hc : c < 1296) (hp : p < 4) (hk : k < 5) (hb : tk.testBit k = true) (hd : k < dig c p) (h0 : nimC tk c = 0) : nimC tk (c - 6 ^ p * (k + 1)) ≠ 0 := by
  intro h1
  rw [nim_at hc hp hd] at h1
  have ne := gr_moves htk (dig6 c p) hk hb hd
  have g6 : ∀ t, gr tk t < 6 := fun t => by have := gr_le tk t; omega
  have kk := sg_3 (g6 (dig c 0)) (g6 (dig c 1)) (g6 (dig c 2)) (g6 (dig c 3)) (g6 (dig c p - (k + 1))) h0
  match p, hp, h1, ne, kk with
  | 0, _, h1, ne, kk => exact ne (kk.1 h1)
  | 1, _, h1, ne, kk => exact ne (kk.2.1 h1)
  | 2, _, h1, ne, kk => exact ne (kk.2.2.1 h1)
  | 3, _, h1, ne, kk => exact ne (kk.2.2.2 h1)
theorem nim_fwd {tk c : Nat} (htk : tk < 32) (hc : c < 1296) (h0 : nimC tk c ≠ 0) : ∃ p k, p < 4 ∧ k < 5 ∧ tk.testBit k = true ∧ k < dig c p ∧ nimC tk (c - 6 ^ p * (k + 1)) = 0 := by
  have key := sg_1 (gr tk (dig c 0)) (by have := gr_le tk (dig c 0); omega) (gr tk (dig c 1)) (by have := gr_le tk (dig c 1); omega) (gr tk (dig c 2)) (by have := gr_le tk (dig c 2); omega) (gr tk (dig c 3)) (by have := gr_le tk (dig c 3); omega)
  have ex : gr tk (dig c 0) ^^^ gr tk (dig c 1) ^^^ gr tk (dig c 2) ^^^ gr tk (dig c 3) = nimC tk c := rfl
  rw [ex] at key
  generalize nimC tk c = x at *
  unfold sgB at key
  rw [Bool.or_eq_true, beq_iff_eq] at key
  have key := key.resolve_left h0
  rw [Bool.or_eq_true, Bool.or_eq_true, Bool.or_eq_true, Bool.and_eq_true, Bool.and_eq_true, Bool.and_eq_true, Bool.and_eq_true, decide_eq_true_eq, decide_eq_true_eq, decide_eq_true_eq, decide_eq_true_eq, beq_iff_eq, beq_iff_eq, beq_iff_eq, beq_iff_eq] at key
  rcases key with ⟨a1, a2⟩ | ⟨a1, a2⟩ | ⟨a1, a2⟩ | ⟨a1, a2⟩
  · obtain ⟨k, k1, k2, k3, k4⟩ := gr_meets htk (dig6 c 0) a1
    exact ⟨0, k, by decide, k1, k2, k3, by rw [nim_at hc (by decide) k3, if_pos rfl, if_neg (by decide), if_neg (by decide), if_neg (by decide), k4]; exact a2⟩
  · obtain ⟨k, k1, k2, k3, k4⟩ := gr_meets htk (dig6 c 1) a1
    exact ⟨1, k, by decide, k1, k2, k3, by rw [nim_at hc (by decide) k3, if_neg (by decide), if_pos rfl, if_neg (by decide), if_neg (by decide), k4]; exact a2⟩
  · obtain ⟨k, k1, k2, k3, k4⟩ := gr_meets htk (dig6 c 2) a1
    exact ⟨2, k, by decide, k1, k2, k3, by rw [nim_at hc (by decide) k3, if_neg (by decide), if_neg (by decide), if_pos rfl, if_neg (by decide), k4]; exact a2⟩
  · obtain ⟨k, k1, k2, k3, k4⟩ := gr_meets htk (dig6 c 3) a1
    exact ⟨3, k, by decide, k1, k2, k3, by rw [nim_at hc (by decide) k3, if_neg (by decide), if_neg (by decide), if_neg (by decide), if_pos rfl, k4]; exact a2⟩
theorem anB_none {p : Nat → Bool} : ∀ {n : Nat}, (∀ i, i < n → p i = false) → anB p n = false := by
  intro n
  induction n with
  | zero => intro _; rfl
  | succ n ih =>
    intro h
    unfold anB
    rw [ih (fun i hi => h i (by omega)), h n (by omega)]
    rfl
/-- who wins, by the single piles -/
theorem SGW {f : Nat → Int32} (htk : xun (f 0) < 32) : ∀ n c a, c < 1296 → dsm c < n → (∀ p, p < 4 → f (13 + 4 * p) = 1 → dig c p = 0) → WW f n c a 0 0 = decide (nimC (xun (f 0)) c ≠ 0) := by
  intro n
  induction n with
  | zero => intro c a _ h; omega
  | succ n ih =>
    intro c a hc hd hp
    show anB (fun mv => canN (xun (f 0)) c 0 a mv && mvW f (WW f n) c 0 0 mv) 21 = decide (nimC (xun (f 0)) c ≠ 0)
    have step : ∀ mv, mv < 21 → canN (xun (f 0)) c 0 a mv = true → mv ≠ 20 ∧ mvW f (WW f n) c 0 0 mv = decide (nimC (xun (f 0)) (c - 6 ^ (mv / 5) * (mv % 5 + 1)) = 0) := by
      intro mv hmv hcan
      have h20 : mv ≠ 20 := fun q => by
        subst q
        exact absurd (can_pass hcan).1 (by decide)
      refine ⟨h20, ?_⟩
      obtain ⟨l1, l2, l3, l4⟩ := can_less (t := 0) hc hmv hcan
      have ht := can_take h20 hcan
      have eb : bcN c mv = c - 6 ^ (mv / 5) * (mv % 5 + 1) := by unfold bcN; rw [if_neg h20]
      have e0 : baN mv = 0 := by unfold baN; rw [if_neg h20]
      have e1 : boN 0 mv = 0 := by unfold boN; rw [if_neg h20]
      have eps : psB f c mv = false := by
        unfold psB
        rw [if_neg h20]
        by_cases z : f (13 + 4 * (mv / 5)) = 1
        · have := hp (mv / 5) (by omega) z
          omega
        · rw [decide_eq_false z]; rfl
      unfold mvW
      rw [eps, e0, e1, ih (bcN c mv) 0 (by omega) (by omega) (fun p h4 z => by have := l4 p h4; have := hp p h4 z; omega), eb]
      by_cases z : nimC (xun (f 0)) (c - 6 ^ (mv / 5) * (mv % 5 + 1)) = 0
      · rw [decide_eq_true z, decide_eq_false (fun q => q z)]; rfl
      · rw [decide_eq_false z, decide_eq_true (show nimC (xun (f 0)) (c - 6 ^ (mv / 5) * (mv % 5 + 1)) ≠ 0 from z)]; rfl
    by_cases z : nimC (xun (f 0)) c = 0
    · rw [decide_eq_false (fun q => q z)]
      refine anB_none (fun mv hmv => ?_)
      by_cases hcan : canN (xun (f 0)) c 0 a mv = true
      · obtain ⟨h20, e⟩ := step mv hmv hcan
        have hcan2 := hcan
        unfold canN at hcan2
        rw [if_neg h20, Bool.and_eq_true, decide_eq_true_eq] at hcan2
        show (canN (xun (f 0)) c 0 a mv && mvW f (WW f n) c 0 0 mv) = false
        rw [e, decide_eq_false (nim_back htk hc (by omega) (by omega) hcan2.1 hcan2.2 z), Bool.and_false]
      · show (canN (xun (f 0)) c 0 a mv && mvW f (WW f n) c 0 0 mv) = false
        rw [Bool.eq_false_iff.mpr hcan, Bool.false_and]
    · rw [decide_eq_true (show nimC (xun (f 0)) c ≠ 0 from z)]
      obtain ⟨p, k, p4, k5, kb, kd, kn⟩ := nim_fwd htk hc z
      have hmv : 5 * p + k < 21 := by omega
      have e5 : (5 * p + k) / 5 = p := by omega
      have e6 : (5 * p + k) % 5 = k := by omega
      have hcan : canN (xun (f 0)) c 0 a (5 * p + k) = true := by
        unfold canN
        rw [if_neg (by omega), e5, e6, kb, decide_eq_true kd]
        rfl
      refine anB_of hmv ?_
      show (canN (xun (f 0)) c 0 a (5 * p + k) && mvW f (WW f n) c 0 0 (5 * p + k)) = true
      rw [hcan, (step _ hmv hcan).2, e5, e6, decide_eq_true kn]
      rfl
/-- the nim sum as the law reckons it -/
def nimK (f : Nat → Int32) : Nat → Nat
  | 0 => 0
  | j + 1 => nimK f j ^^^ gr (tkN f) (gT f j)
theorem nimK_lt (f : Nat → Int32) : ∀ j, nimK f j < 2 ^ 3 := by
  intro j
  induction j with
  | zero => exact Nat.two_pow_pos 3
  | succ j ih =>
    unfold nimK
    exact Nat.xor_lt_two_pow ih (by have := gr_le (tkN f) (gT f j); omega)
theorem nimK_all {f : Nat → Int32} (h : gk f) : nimK f (xun (f 2)) = nimC (tkN f) (gcode f) := by
  have h4 := h.1.2.2.2.1
  have z := gr_none (tk_rng h).2.1
  have gz : ∀ p, p < 4 → xun (f 2) ≤ p → gT f p = 0 := fun p hp hn => gT_zero h.1 hp hn
  unfold nimC
  rw [gcode_dig h.1 (by decide), gcode_dig h.1 (by decide), gcode_dig h.1 (by decide), gcode_dig h.1 (by decide)]
  generalize xun (f 2) = N at *
  match N, h4, gz with
  | 0, _, gz => rw [gz 0 (by decide) (by omega), gz 1 (by decide) (by omega), gz 2 (by decide) (by omega), gz 3 (by decide) (by omega), z]; simp [nimK]
  | 1, _, gz => rw [gz 1 (by decide) (by omega), gz 2 (by decide) (by omega), gz 3 (by decide) (by omega), z]; simp [nimK]
  | 2, _, gz => rw [gz 2 (by decide) (by omega), gz 3 (by decide) (by omega), z]; simp [nimK]
  | 3, _, gz => rw [gz 3 (by decide) (by omega), z]; simp [nimK]
  | 4, _, _ => simp [nimK]
/-- a plain game: no passes, and no pile with a token that is poisoned -/
theorem plain_won {f : Nat → Int32} (h : gk f) (h7 : f 7 = 0) (h8 : f 8 = 0) (hp : ∀ j, j < xun (f 2) → f (13 + 4 * j) = 0) : Ws f (sptN f) = decide (nimK f (xun (f 2)) ≠ 0) := by
  have hd := dsm_le (gcode f)
  obtain ⟨m, hm1, hm, um⟩ := gok_mover h.1
  have o0 : ownN f = 0 := by
    unfold ownN
    rw [um]
    match m, hm1 with
    | 0, _ => rw [show 7 + 0 = 7 from rfl, h7]; rfl
    | 1, _ => rw [show 7 + 1 = 8 from rfl, h8]; rfl
  have t0 : othN f = 0 := by
    unfold othN
    rw [um]
    match m, hm1 with
    | 0, _ => rw [show 8 - 0 = 8 from rfl, h8]; rfl
    | 1, _ => rw [show 8 - 1 = 7 from rfl, h7]; rfl
  rw [Ws_now h.1]
  unfold Wn
  rw [o0, t0, nimK_all h]
  refine SGW (tk_rng h).2.1 25 _ _ (gcode_lt h.1) (by omega) (fun p h4 z => ?_)
  rw [gcode_dig h.1 h4]
  by_cases c : p < xun (f 2)
  · rw [hp p c] at z
    exact absurd z (by decide)
  · exact gT_zero h.1 h4 (by omega)
end NM8
