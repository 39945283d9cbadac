/-! THE CLASS's GAME, purely -/
section GM
variable {X : XM} {g : Nat}
theorem gT_le {f : Nat → Int32} (h : gok f) {p : Nat} (hp : p < 4) : gT f p ≤ 5 := (h.2.2.2.2.2.2.2.2.2.1 p hp).1
theorem f_tokenSum (h : gok (X g)) : fX0_tokenSum g X = some (nI (gsum (X g)), X) := by
  unfold fX0_tokenSum
  simp only [zl_ok]
  have e : ∀ k, X g k = nI (xun (X g k)) := fun k => (nI_xun _).symm
  rw [e 11, e 15, e 19, e 23, show (0 : Int32) = nI 0 from rfl, nI_add, nI_add, nI_add, nI_add]
  simp only [gsum, gT, Nat.zero_add]
theorem gok_mover {f : Nat → Int32} (h : gok f) : ∃ m, m ≤ 1 ∧ f 3 = nI m ∧ xun (f 3) = m := ⟨xun (f 3), h.2.2.2.2.1, (nI_xun _).symm, rfl⟩
theorem f_player {a : Int32} {m : Nat} (ha : a = nI m) (hm : m ≤ 1) : fX0_player g a X = some (m, X) := by
  unfold fX0_player
  subst ha
  rcases (show m = 0 ∨ m = 1 by omega) with rfl | rfl
  · rfl
  · rw [if_neg (by decide)]
theorem gtakes_lt {f : Nat → Int32} (h : gok f) : gtakes f < 1048576 := by
  unfold gtakes
  have h0 := tkm_lt (tk := xun (f 0)) (gT_le h (p := 0) (by decide))
  have h1 := tkm_lt (tk := xun (f 0)) (gT_le h (p := 1) (by decide))
  have h2 := tkm_lt (tk := xun (f 0)) (gT_le h (p := 2) (by decide))
  have h3 := tkm_lt (tk := xun (f 0)) (gT_le h (p := 3) (by decide))
  omega
theorem gmoves_lt {f : Nat → Int32} (h : gok f) : gmoves f < 2097152 := by
  unfold gmoves
  have := gtakes_lt h
  split
  · split <;> omega
  · omega
theorem f_moveSet (h : gok (X g)) : fX0_moveSet g X = some (nI (gmoves (X g)), X) := by
  have htk : xun (X g 0) < 32 := by have := h.2.1; omega
  have t0 := gT_le h (p := 0) (by decide)
  have t1 := gT_le h (p := 1) (by decide)
  have t2 := gT_le h (p := 2) (by decide)
  have t3 := gT_le h (p := 3) (by decide)
  have e : ∀ k, X g k = nI (xun (X g k)) := fun k => (nI_xun _).symm
  have m0 := tkm_lt (tk := xun (X g 0)) t0
  have m1 := tkm_lt (tk := xun (X g 0)) t1
  have m2 := tkm_lt (tk := xun (X g 0)) t2
  have m3 := tkm_lt (tk := xun (X g 0)) t3
  obtain ⟨m, hm, em, um⟩ := gok_mover h
  unfold fX0_moveSet gmoves
  by_cases h5 : X g 5 = 0
  · rw [if_pos h5, if_pos h5]
    rw [f_takesOutOf (e 11) (e 0) (show (0 : Int32) = nI 0 from rfl) htk (Nat.lt_succ_of_le t0) (by decide), zi_ok, zl_ok]
    rw [f_takesOutOf (e 15) (e 0) (show (1 : Int32) = nI 1 from rfl) htk (Nat.lt_succ_of_le t1) (by decide), zi_ok, zl_ok]
    rw [f_takesOutOf (e 19) (e 0) (show (2 : Int32) = nI 2 from rfl) htk (Nat.lt_succ_of_le t2) (by decide), zi_ok, zl_ok]
    rw [f_takesOutOf (e 23) (e 0) (show (3 : Int32) = nI 3 from rfl) htk (Nat.lt_succ_of_le t3) (by decide), zi_ok, zl_ok]
    rw [f_player em hm, zi_ok]
    have s1 : (0 : Int32) ||| nI (32 ^ 0 * tkm (xun (X g 0)) (xun (X g 11))) = nI (tkm (xun (X g 0)) (gT (X g) 0)) := by
      rw [show (0 : Int32) = nI 0 from rfl, fa_or]
      simp [gT]
    have s2 : nI (tkm (xun (X g 0)) (gT (X g) 0)) ||| nI (32 ^ 1 * tkm (xun (X g 0)) (xun (X g 15))) = nI (tkm (xun (X g 0)) (gT (X g) 0) + 32 * tkm (xun (X g 0)) (gT (X g) 1)) :=
      or_sum (k := 5) (b := tkm (xun (X g 0)) (gT (X g) 1)) m0 rfl
    have s3 : nI (tkm (xun (X g 0)) (gT (X g) 0) + 32 * tkm (xun (X g 0)) (gT (X g) 1)) ||| nI (32 ^ 2 * tkm (xun (X g 0)) (xun (X g 19))) = nI (tkm (xun (X g 0)) (gT (X g) 0) + 32 * tkm (xun (X g 0)) (gT (X g) 1) + 1024 * tkm (xun (X g 0)) (gT (X g) 2)) :=
      or_sum (k := 10) (b := tkm (xun (X g 0)) (gT (X g) 2)) (by omega) rfl
    have s4 : nI (tkm (xun (X g 0)) (gT (X g) 0) + 32 * tkm (xun (X g 0)) (gT (X g) 1) + 1024 * tkm (xun (X g 0)) (gT (X g) 2)) ||| nI (32 ^ 3 * tkm (xun (X g 0)) (xun (X g 23))) = nI (gtakes (X g)) :=
      or_sum (k := 15) (b := tkm (xun (X g 0)) (gT (X g) 3)) (by omega) rfl
    rw [s1, s2, s3, s4]
    have u7 : xun (X g (7 + m)) < 2 ^ 31 := by
      rcases (show m = 0 ∨ m = 1 by omega) with rfl | rfl
      · have := h.2.2.2.2.2.2.2.1; show xun (X g 7) < _; omega
      · have := h.2.2.2.2.2.2.2.2.1; show xun (X g 8) < _; omega
    unfold gpassB
    rw [um]
    by_cases c1 : X g (7 + m) ≤ 0
    · rw [if_pos c1]
      have : xun (X g (7 + m)) = 0 := (nI_le0 u7).mp (by rw [nI_xun]; exact c1)
      simp [this]
    · rw [if_neg c1]
      have hp : 0 < xun (X g (7 + m)) := by
        rcases Nat.eq_zero_or_pos (xun (X g (7 + m))) with q | q
        · exact absurd (by rw [← nI_xun (X g (7 + m)), nI_le0 u7]; exact q) c1
        · exact q
      by_cases c2 : X g 4 = 0
      · rw [if_pos c2, f_tokenSum h, zi_ok]
        have hs : gsum (X g) < 2 ^ 31 := by unfold gsum; omega
        by_cases c3 : nI (gsum (X g)) ≤ 0
        · rw [if_pos c3]
          have z := (nI_le0 hs).mp c3
          simp [z]
        · rw [if_neg c3, zl_ok]
          have hq : 0 < gsum (X g) := by
            rcases Nat.eq_zero_or_pos (gsum (X g)) with q | q
            · exact absurd ((nI_le0 hs).mpr q) c3
            · exact q
          rw [show (1048576 : Int32) = nI (2 ^ 20 * 1) from rfl, or_sum (k := 20) (b := 1) (gtakes_lt h) rfl]
          simp [hp, c2, hq]
      · rw [if_neg c2]
        simp [c2]
  · rw [if_neg h5, if_neg h5]
    rfl
theorem f_allows (h : gok (X g)) {a : Int32} {k : Nat} (ha : a = nI k) (hk : k < 31) : fX0_allows g a X = some (if (gmoves (X g)).testBit k then 1 else 0, X) := by
  unfold fX0_allows
  rw [f_moveSet h, zi_ok, f_isIn rfl ha (by have := gmoves_lt h; omega) hk, zi_ok]
  by_cases c : (gmoves (X g)).testBit k = true
  · rw [if_pos c, zb_1]
  · rw [if_neg c, zb_0]
theorem f_isOver (h : gok (X g)) : fX0_isOver g X = some (if gmoves (X g) = 0 then 1 else 0, X) := by
  unfold fX0_isOver
  rw [f_moveSet h, zi_ok]
  have hl := gmoves_lt h
  by_cases c : gmoves (X g) = 0
  · rw [if_pos c, if_pos (by rw [c]; rfl)]
  · rw [if_neg c, if_neg (fun q => c ((nI_z (by omega)).mp q))]
/-- who wins: the code NONE before the end -/
def gwin (f : Nat → Int32) : Int32 := if gmoves f = 0 then (if f 5 = 0 then 1 - f 3 else f 3) else -6
theorem f_winner (h : gok (X g)) : fX0_winner g X = some (gwin (X g), X) := by
  unfold fX0_winner gwin
  rw [f_isOver h, zi_ok]
  by_cases c : gmoves (X g) = 0
  · rw [if_pos c, if_pos c, if_neg (by decide)]
    split <;> rfl
  · rw [if_neg c, if_neg c, if_pos rfl]
def gpurse (f : Nat → Int32) (w : Nat) : Int32 := if gmoves f = 0 then (if gwin f = nI w then f (9 + w) + f 1 else f (9 + w) - f 1) else f (9 + w)
theorem f_purse (h : gok (X g)) {a : Int32} {w : Nat} (ha : a = nI w) (hw : w ≤ 1) : fX0_purse g a X = some (gpurse (X g) w, X) := by
  unfold fX0_purse gpurse
  rw [f_player ha hw, zi_ok, zl_ok, f_isOver h, zi_ok]
  by_cases c : gmoves (X g) = 0
  · rw [if_pos c, if_pos c, if_neg (by decide), f_winner h, zi_ok]
    subst ha
    split <;> rfl
  · rw [if_neg c, if_neg c, if_pos rfl]
end GM
