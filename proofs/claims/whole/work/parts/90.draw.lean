/-! GAMES BY DRAWS -/
section DW
def nxN (x : Nat) : Nat := (75 * x + 74) % 65537
def pkN (M q : Nat) : Nat := kthN M fuel 0 (q % pcN M 21)
def drN : Nat → (Nat → Int32) → Nat → (Nat → Int32) × Nat
  | 0, f, x => (f, x)
  | n + 1, f, x => if gmoves f = 0 then (f, x) else drN n (dMv f (pkN (gmoves f) (nxN x / 64))) (nxN x)
theorem pc_any (p : Nat → Bool) (M : Nat) (h : ∀ i, i < 21 → M.testBit i = p i) : ∀ n, n ≤ 21 → (pcN M n = 0 ↔ bsum p n = 0) := by
  intro n
  induction n with
  | zero => intro _; exact ⟨fun _ => rfl, fun _ => rfl⟩
  | succ n ih =>
    intro hn
    have h2 : 0 < 2 ^ n := Nat.two_pow_pos n
    have := ih (by omega)
    rw [bit_pc, h n (by omega)]
    show _ ↔ bsum p n + (p n).toNat * 2 ^ n = 0
    cases p n
    · rw [if_neg Bool.false_ne_true]
      simp
      exact this
    · rw [if_pos rfl]
      simp
theorem pc_pos {f : Nat → Int32} (h : gok f) (hg : gmoves f ≠ 0) : f 5 = 0 ∧ 0 < pcN (gmoves f) 21 := by
  have h5 : f 5 = 0 := Classical.byContradiction fun q => hg (by unfold gmoves; rw [if_neg q])
  refine ⟨h5, ?_⟩
  rcases Nat.eq_zero_or_pos (pcN (gmoves f) 21) with q | q
  · have e := (pc_any (cnB f (sptN f)) (gmoves f) (fun i hi => gm_bit h h5 hi) 21 (Nat.le_refl _)).1 q
    rw [cn_spt h h5] at e
    exact absurd e hg
  · exact q
theorem pk_ok {f : Nat → Int32} (h : gok f) (hg : gmoves f ≠ 0) (q : Nat) : pkN (gmoves f) q < 21 ∧ (gmoves f).testBit (pkN (gmoves f) q) = true := by
  have hp := (pc_pos h hg).2
  exact kth_ok fuel 0 _ (by decide) (by have := fuel_ge; omega) (by show _ + 0 < _; rw [Nat.add_zero]; exact Nat.mod_lt _ hp)
theorem pc_le (M : Nat) : ∀ n, pcN M n ≤ n := by
  intro n
  induction n with
  | zero => exact Nat.le_refl _
  | succ n ih => rw [bit_pc]; split <;> omega
theorem nx_lt (x : Nat) : nxN x < 65537 := Nat.mod_lt _ (by decide)
theorem i_next {x : Nat} (hx : x < 65537) : o_rem ((75 * nI x) + 74) 65537 = nI (nxN x) := by
  rw [show (75 : Int32) = nI 75 from rfl, show (74 : Int32) = nI 74 from rfl, pk_mul, nI_add]
  exact i_rem (by omega) (by decide) (by decide)
theorem f_place {f : Nat → Int32} {X : XM} (h : gok f) (hg : gmoves f ≠ 0) {q : Nat} (hq : q < 2 ^ 31) : fX8_moveInPlace (nI (gmoves f)) (nI q) X = some (nI (pkN (gmoves f) q), X) := by
  have hl := gmoves_lt h
  have hp := (pc_pos h hg).2
  have h21 := pc_le (gmoves f) 21
  have hm := Nat.mod_lt q hp
  unfold fX8_moveInPlace
  rw [f_bitCount hl, zi_ok, if_neg (fun w => by have := (nI_z (by omega)).mp w; omega), zz_ok (nI_ne0 hp (by omega)), i_rem hq hp (by omega), zl_ok]
  exact f_place_19 hl fuel 0 _ (by decide) (by have := fuel_ge; omega) (by show _ + 0 < _; rw [Nat.add_zero]; exact hm) (by omega)
theorem dr_ok : ∀ n f x, gok f → x < 65537 → gok (drN n f x).1 ∧ (drN n f x).2 < 65537 ∧ (muN f < n → gmoves (drN n f x).1 = 0) := by
  intro n
  induction n with
  | zero => intro f x h hx; exact ⟨h, hx, fun q => by omega⟩
  | succ n ih =>
    intro f x h hx
    unfold drN
    by_cases c : gmoves f = 0
    · rw [if_pos c]; exact ⟨h, hx, fun _ => c⟩
    · rw [if_neg c]
      have hk := pk_ok h c (nxN x / 64)
      have hmu := dMv_mu h hk.1 hk.2
      obtain ⟨a, b, d⟩ := ih _ (nxN x) (gok_dMv h hk.1 hk.2) (nx_lt x)
      exact ⟨a, b, fun q => d (by omega)⟩
theorem f_dr_28 {k8 : Int32 → Int32 → Int32 → Int32 → Int32 → XM → Option (Int32 × XM)} {x1 x2 x3 x5 : Int32} : ∀ (m n s : Nat) (f : Nat → Int32) (x : Nat) (X : XM), gok f → x < 65537 → muN f < m → m ≤ n → s + m ≤ 40 → X 2 = f →
    fX8_gamesWonByDraws_28 k8 n x1 x2 x3 (nI x) x5 (nI s) X = if gwin (drN m f x).1 = X 0 3 then k8 x1 x2 (x3 + 1) (nI (drN m f x).2) (x5 + 1) (srw X 2 (drN m f x).1) else k8 x1 x2 x3 (nI (drN m f x).2) (x5 + 1) (srw X 2 (drN m f x).1) := by
  intro m
  induction m with
  | zero => intro n s f x X _ _ h; omega
  | succ m ih =>
    intro n s f x X h hx hmu hn hs h2
    obtain ⟨n, rfl⟩ : ∃ q, n = q + 1 := ⟨n - 1, by omega⟩
    rw [fX8_gamesWonByDraws_28, if_neg (show ¬ (40 : Int32) ≤ nI s by rw [show (40 : Int32) = nI 40 from rfl, nI_leI (by decide) (by omega)]; omega), f_isOver (by rw [h2]; exact h), zi_ok, h2]
    unfold drN
    by_cases c : gmoves f = 0
    · have e : srw X 2 f = X := by rw [← h2, srw_id]
      rw [if_pos c, if_neg i10, f_winner (by rw [h2]; exact h), zi_ok, if_pos c, h2]
      show _ = if gwin f = X 0 3 then k8 x1 x2 (x3 + 1) (nI x) (x5 + 1) (srw X 2 f) else k8 x1 x2 x3 (nI x) (x5 + 1) (srw X 2 f)
      rw [e]
    · have hk := pk_ok h c (nxN x / 64)
      have hmu2 := dMv_mu h hk.1 hk.2
      have hx2 := nx_lt x
      have ed : nI (nxN x) / 64 = nI (nxN x / 64) := pk_div (d := 64) (by omega) (by decide) (by decide)
      rw [if_neg c, if_pos rfl, i_next hx, zl_ok, f_moveSet (by rw [h2]; exact h), zi_ok, h2, ed, f_place h c (by omega), zi_ok, f_make h2 h hk.1 hk.2, zv_ok, nI_1, if_neg c]
      have st := ih n (s + 1) (dMv f (pkN (gmoves f) (nxN x / 64))) (nxN x) (srw X 2 (dMv f (pkN (gmoves f) (nxN x / 64)))) (gok_dMv h hk.1 hk.2) hx2 (by omega) (by omega) (by omega) srw_s
      rw [srw_n (by decide), srw_ss] at st
      exact st
theorem q_dr_79 {k73 : Int32 → Int32 → Int32 → Int32 → Int32 → XM → Option (Int32 × XM)} {x1 x2 x4 x5 : Int32} : ∀ (m n : Nat) (f : Nat → Int32) (x : Nat) (X : XM), gok f → x < 65537 → muN f < m → m ≤ n → X 23 = f →
    fX9_drawn_79 k73 n x1 x2 (nI x) x4 x5 X = if gwin (drN m f x).1 = X 24 3 then fX9_drawn_151 k73 fuel x1 x2 (nI (drN m f x).2) (x4 + 1) x5 0 (srw X 23 (drN m f x).1) else fX9_drawn_151 k73 fuel x1 x2 (nI (drN m f x).2) (x4 + 0) x5 0 (srw X 23 (drN m f x).1) := by
  intro m
  induction m with
  | zero => intro n f x X _ _ h; omega
  | succ m ih =>
    intro n f x X h hx hmu hn h2
    obtain ⟨n, rfl⟩ : ∃ q, n = q + 1 := ⟨n - 1, by omega⟩
    rw [fX9_drawn_79, q_isOver (by rw [h2]; exact h), zi_ok, h2]
    unfold drN
    by_cases c : gmoves f = 0
    · have e : srw X 23 f = X := by rw [← h2, srw_id]
      rw [if_pos c, if_neg i10, q_winner (by rw [h2]; exact h), zi_ok, if_pos c, h2, zl_ok, zl_ok]
      show _ = if gwin f = X 24 3 then fX9_drawn_151 k73 fuel x1 x2 (nI x) (x4 + 1) x5 0 (srw X 23 f) else fX9_drawn_151 k73 fuel x1 x2 (nI x) (x4 + 0) x5 0 (srw X 23 f)
      rw [e]
    · have hk := pk_ok h c (nxN x / 64)
      have hmu2 := dMv_mu h hk.1 hk.2
      have hx2 := nx_lt x
      have hl := gmoves_lt h
      have hp := (pc_pos h c).2
      have h21 := pc_le (gmoves f) 21
      have hm := Nat.mod_lt (nxN x / 64) hp
      have hfu := fuel_ge
      have ed : nI (nxN x) / 64 = nI (nxN x / 64) := pk_div (d := 64) (by omega) (by decide) (by decide)
      have eo : fX9_ones (nI (gmoves f)) X = some (nI (pcN (gmoves f) 21), X) := q_ones_4 hl fuel 0 (by decide) (by omega)
      have em : fX9_moveAt (nI (gmoves f)) (nI (nxN x / 64 % pcN (gmoves f) 21)) X = some (nI (pkN (gmoves f) (nxN x / 64)), X) := q_moveAt_4 hl fuel 0 _ (by decide) (by omega) (by show _ + 0 < _; rw [Nat.add_zero]; exact hm) (by omega)
      rw [if_neg c, if_pos rfl, q_movesNow (by rw [h2]; exact h), zi_ok, i_next hx, zl_ok, h2, eo, zi_ok, zz_ok (nI_ne0 hp (by omega)), ed, i_rem (by omega) hp (by omega), em, zi_ok, q_does h2 h hk.1 hk.2, zv_ok, if_neg c]
      have st := ih n (dMv f (pkN (gmoves f) (nxN x / 64))) (nxN x) (srw X 23 (dMv f (pkN (gmoves f) (nxN x / 64)))) (gok_dMv h hk.1 hk.2) hx2 (by omega) (by omega) srw_s
      rw [srw_n (by decide), srw_ss] at st
      exact st
def ggN (f0 : Nat → Int32) (G : Nat) : Nat → Nat → Nat → Nat → Nat
  | 0, _, _, w => w
  | n + 1, g, x, w => if G ≤ g then w else ggN f0 G n (g + 1) (drN 25 f0 x).2 (if gwin (drN 25 f0 x).1 = f0 3 then w + 1 else w)
theorem gg_le {f0 : Nat → Int32} {G : Nat} : ∀ n g x w, w ≤ g → g ≤ G → ggN f0 G n g x w ≤ G := by
  intro n
  induction n with
  | zero => intro g x w h1 h2; show w ≤ G; omega
  | succ n ih =>
    intro g x w h1 h2
    unfold ggN
    by_cases c : G ≤ g
    · rw [if_pos c]; omega
    · rw [if_neg c]
      exact ih (g + 1) _ _ (by split <;> omega) (by omega)
theorem f_gg {f0 : Nat → Int32} (h : gok f0) {G : Nat} (hG : G ≤ 200) {sd : Int32} : ∀ (n g x w : Nat) (X : XM), g ≤ G → G < g + n → x < 65537 → X 0 = f0 → z27 (X 2) →
    ∃ Y, fX8_gamesWonByDraws_8 n (nI G) sd (nI w) (nI x) (nI g) X = some (nI (ggN f0 G n g x w), Y) ∧ z27 (Y 2) ∧ ∀ r, r ≠ 2 → Y r = X r := by
  intro n
  induction n with
  | zero => intro g x w X h1 h2; omega
  | succ n ih =>
    intro g x w X h1 h2 hx h0 hz
    rw [fX8_gamesWonByDraws_8]
    unfold ggN
    by_cases c : G ≤ g
    · rw [if_pos (by rw [nI_leI (by omega) (by omega)]; exact c), if_pos c]
      exact ⟨X, rfl, hz, fun r _ => rfl⟩
    · have hmu := muN_le h
      have hd := dr_ok 25 f0 x h hx
      rw [if_neg (by rw [nI_leI (by omega) (by omega)]; exact c), if_neg c, f_copyFrom (by decide) hz (by rw [h0]; exact h.z) (by rw [h0]; exact h.b), zv_ok, h0]
      rw [show fX8_gamesWonByDraws_28 (fX8_gamesWonByDraws_8 n) fuel (nI G) sd (nI w) (nI x) (nI g) 0 (srw X 2 f0) = _ from f_dr_28 25 fuel 0 f0 x (srw X 2 f0) h hx (by omega) (by have := fuel_ge; omega) (by decide) srw_s, srw_n (show (0 : Nat) ≠ 2 by decide), h0, srw_ss, nI_1, nI_1]
      have key : ∀ w', ∃ Y, fX8_gamesWonByDraws_8 n (nI G) sd (nI w') (nI (drN 25 f0 x).2) (nI (g + 1)) (srw X 2 (drN 25 f0 x).1) = some (nI (ggN f0 G n (g + 1) (drN 25 f0 x).2 w'), Y) ∧ z27 (Y 2) ∧ ∀ r, r ≠ 2 → Y r = X r := by
        intro w'
        obtain ⟨Y, y1, y2, y3⟩ := ih (g + 1) (drN 25 f0 x).2 w' (srw X 2 (drN 25 f0 x).1) (by omega) (by omega) hd.2.1 (by rw [srw_n (by decide)]; exact h0) (by rw [srw_s]; exact hd.1.z)
        exact ⟨Y, y1, y2, fun r hr => by rw [y3 r hr, srw_n hr]⟩
      by_cases d : gwin (drN 25 f0 x).1 = f0 3
      · rw [if_pos d, if_pos d]; exact key (w + 1)
      · rw [if_neg d, if_neg d]; exact key w
theorem q_back_151 {k73 : Int32 → Int32 → Int32 → Int32 → Int32 → XM → Option (Int32 × XM)} {x1 x2 x3 x4 x5 : Int32} : ∀ (m i : Nat) (X : XM), i ≤ 27 → 27 < i + m → fX9_drawn_151 k73 m x1 x2 x3 x4 x5 (nI i) X = k73 x1 x2 x3 x4 (x5 + 1) (srw X 23 (cpy (X 23) (X 24) 0 i 27)) := by
  intro m
  induction m with
  | zero => intro i X h1 h2; omega
  | succ m ih =>
    intro i X h1 h2
    rw [fX9_drawn_151]
    by_cases ci : i = 27
    · subst ci
      rw [if_pos (show (27 : Int32) ≤ nI 27 by decide), cpy_end, srw_id]
    · rw [if_neg (show ¬ (27 : Int32) ≤ nI i by rw [show (27 : Int32) = nI 27 from rfl, nI_leI (by decide) (by omega)]; omega), zd_ok (vp_in_nI (by omega) (by decide)), zd_ok (vp_in_nI (by omega) (by decide)), zl_ok, nI_clampN (by omega), nI_1, ih (i + 1) _ (by omega) (by omega), xup_eq, srw_ss, srw_s, srw_n (show (24 : Nat) ≠ 23 by decide)]
      have e := cpy_step (f := X 23) (g := X 24) (a := 0) (i := i) (e := 27) (by omega)
      rw [Nat.zero_add] at e
      rw [e]
theorem q_aside_41 {x1 x2 : Int32} : ∀ (m i : Nat) (X : XM), i ≤ 27 → 27 < i + m → fX9_drawn_41 m x1 x2 (nI i) X = fX9_drawn_73 fuel x1 x2 x2 0 0 (srw X 24 (cpy (X 24) (X 23) 0 i 27)) := by
  intro m
  induction m with
  | zero => intro i X h1 h2; omega
  | succ m ih =>
    intro i X h1 h2
    rw [fX9_drawn_41]
    by_cases ci : i = 27
    · subst ci
      rw [if_pos (show (27 : Int32) ≤ nI 27 by decide), cpy_end, srw_id]
    · rw [if_neg (show ¬ (27 : Int32) ≤ nI i by rw [show (27 : Int32) = nI 27 from rfl, nI_leI (by decide) (by omega)]; omega), zd_ok (vp_in_nI (by omega) (by decide)), zd_ok (vp_in_nI (by omega) (by decide)), zl_ok, nI_clampN (by omega), nI_1, ih (i + 1) _ (by omega) (by omega), xup_eq, srw_ss, srw_s, srw_n (show (23 : Nat) ≠ 24 by decide)]
      have e := cpy_step (f := X 24) (g := X 23) (a := 0) (i := i) (e := 27) (by omega)
      rw [Nat.zero_add] at e
      rw [e]
theorem cpy_27 {f g h : Nat → Int32} (hf : z27 f) (hh : z27 h) (e : ∀ k, k < 27 → g k = h k) : cpy f g 0 0 27 = h := by
  refine row27 ?_ hh (fun k hk => ?_)
  · intro k hk
    unfold cpy
    rw [if_neg (by omega)]
    exact hf k hk
  · unfold cpy
    rw [if_pos (by omega), Nat.sub_zero]
    exact e k hk
theorem q_gg {f0 : Nat → Int32} (h : gok f0) {G : Nat} (hG : G ≤ 200) {sd : Int32} : ∀ (n g x w : Nat) (X : XM), g ≤ G → G < g + n → x < 65537 → X 23 = f0 → (∀ k, k < 27 → X 24 k = f0 k) →
    fX9_drawn_73 n (nI G) sd (nI x) (nI w) (nI g) X = zf (FP.fdiv (FP.i2f (nI (ggN f0 G n g x w))) (FP.i2f (nI G))) (zi (fJxf58ca_floatToIntBits_5c35a (FP.fdiv (FP.i2f (nI (ggN f0 G n g x w))) (FP.i2f (nI G))) X) (fun r_40 X_39 => some (r_40, X_39))) := by
  intro n
  induction n with
  | zero => intro g x w X h1 h2; omega
  | succ n ih =>
    intro g x w X h1 h2 hx h0 ha
    rw [fX9_drawn_73]
    unfold ggN
    by_cases c : G ≤ g
    · rw [if_pos (by rw [nI_leI (by omega) (by omega)]; exact c), if_pos c]
    · have hmu := muN_le h
      have hd := dr_ok 25 f0 x h hx
      have hfu := fuel_ge
      have bk : ∀ (k73 : Int32 → Int32 → Int32 → Int32 → Int32 → XM → Option (Int32 × XM)) (x3 x4 : Int32), fX9_drawn_151 k73 fuel (nI G) sd x3 x4 (nI g) 0 (srw X 23 (drN 25 f0 x).1) = k73 (nI G) sd x3 x4 (nI g + 1) X := by
        intro k73 x3 x4
        rw [show fX9_drawn_151 k73 fuel (nI G) sd x3 x4 (nI g) 0 (srw X 23 (drN 25 f0 x).1) = _ from q_back_151 fuel 0 (srw X 23 (drN 25 f0 x).1) (by decide) (by omega), srw_s, srw_n (show (24 : Nat) ≠ 23 by decide), cpy_27 hd.1.z h.z ha, srw_ss, ← h0, srw_id]
      rw [if_neg (by rw [nI_leI (by omega) (by omega)]; exact c), if_neg c, q_dr_79 25 fuel f0 x X h hx (by omega) (by omega) h0, bk, bk, ha 3 (by decide), nI_1, nI_1, n0I]
      by_cases d : gwin (drN 25 f0 x).1 = f0 3
      · rw [if_pos d, if_pos d]; exact ih (g + 1) _ (w + 1) X (by omega) (by omega) hd.2.1 h0 ha
      · rw [if_neg d, if_neg d]; exact ih (g + 1) _ w X (by omega) (by omega) hd.2.1 h0 ha
def btI (w G : Nat) : Int32 := UInt32.toInt32 (FP.fdiv (FP.i2f (nI w)) (FP.i2f (nI G)))
theorem sh_fact {w G : Nat} (hG : G < 201) (hw : w ≤ G) (h0 : 1 ≤ w) : 998244352 ≤ (FP.fdiv (FP.i2f (nI w)) (FP.i2f (nI G))).toNat ∧ (FP.fdiv (FP.i2f (nI w)) (FP.i2f (nI G))).toNat ≤ 1065353216 := by
  have := sh_all G hG w (by omega)
  unfold shB at this
  rw [Bool.or_eq_true, Bool.or_eq_true, Bool.and_eq_true] at this
  rcases this with q | q | q
  · have := eq_of_beq q
    omega
  · have := Nat.blt_eq.mp q
    omega
  · exact ⟨Nat.le_of_ble_eq_true q.1, Nat.le_of_ble_eq_true q.2⟩
theorem f_bits {w G : Nat} (hG : G < 201) (h1 : 1 ≤ G) (hw : w ≤ G) (X : XM) : fX8_bitsOfShare (nI w) (nI G) X = some (btI w G, X) ∧ zf (FP.fdiv (FP.i2f (nI w)) (FP.i2f (nI G))) (zi (fJxf58ca_floatToIntBits_5c35a (FP.fdiv (FP.i2f (nI w)) (FP.i2f (nI G))) X) (fun r_40 X_39 => some (r_40, X_39))) = some (btI w G, X) := by
  have nan : ∀ y : UInt32, FP.Core.val32 y ≠ .nan → fJxf58ca_isNaN_12338 y X = some (0, X) := by
    intro y hy
    unfold fJxf58ca_isNaN_12338
    have e : Op.cmpValue (FP.fcmp y y) .l = 0 := by
      have e2 : FP.fcmp y y = some .eq := by
        show FP.Core.order (FP.Core.val32 y) (FP.Core.val32 y) = _
        cases hv : FP.Core.val32 y with
        | nan => exact absurd hv hy
        | inf s => show some (compare _ _) = _; rw [Int.compare_eq_eq.2 rfl]
        | fin s c q => show some (compare _ _) = _; rw [Int.compare_eq_eq.2 rfl]
      rw [e2]
      rfl
    rw [if_pos e]
  have ref : ∀ y : UInt32, FP.Core.val32 y ≠ .nan → zf y (zi (fJxf58ca_floatToIntBits_5c35a y X) (fun r_40 X_39 => some (r_40, X_39))) = some (UInt32.toInt32 y, X) := by
    intro y hy
    rw [zf_okv hy]
    unfold fJxf58ca_floatToIntBits_5c35a
    rw [nan y hy, zi_ok, if_pos rfl, zi_ok]
  by_cases h0 : w = 0
  · subst h0
    have e : FP.fdiv (FP.i2f (nI 0)) (FP.i2f (nI G)) = 0 := sh_0 G hG h1
    have v0 : FP.Core.val32 (0 : UInt32) ≠ .nan := by decide +kernel
    refine ⟨?_, ?_⟩
    · unfold fX8_bitsOfShare btI
      rw [if_pos (show nI 0 ≤ (0 : Int32) by decide), e]
      rfl
    · unfold btI
      rw [e]
      exact ref 0 v0
  · obtain ⟨b1, b2⟩ := sh_fact hG hw (by omega)
    have hN := (FP.fdiv (FP.i2f (nI w)) (FP.i2f (nI G))).toNat_lt
    unfold btI
    generalize hy : FP.fdiv (FP.i2f (nI w)) (FP.i2f (nI G)) = y at *
    obtain ⟨E, M, hM, hE⟩ : ∃ E M, M < 8388608 ∧ y.toNat = E * 8388608 + M := ⟨y.toNat / 8388608, y.toNat % 8388608, by omega, by omega⟩
    have hE1 : 119 ≤ E := by omega
    have hE2 : E ≤ 127 := by omega
    have hv := dec_U hE (by omega) (by omega) hM
    have hnn : FP.Core.val32 y ≠ .nan := by rw [hv]; exact FP.Core.Datum.noConfusion
    have ei : UInt32.toInt32 y = nI (E * 8388608 + M) := by
      apply Int32.toBitVec_inj.1
      apply BitVec.eq_of_toNat_eq
      show y.toNat = (BitVec.ofNat 32 (E * 8388608 + M)).toNat
      rw [BitVec.toNat_ofNat, hE]
      omega
    refine ⟨?_, ref y hnn⟩
    unfold fX8_bitsOfShare
    rw [if_neg (fun q => h0 ((nI_le0 (by omega)).mp q)), if_pos (show (0 : Int32) < nI G by rw [show (0 : Int32) = nI 0 from rfl, nI_ltI (by decide) (by omega)]; omega), hy, zf_okv hnn, zl_ok]
    have st := f_share_19 (x0 := nI w) (x1 := nI G) (X := X) (c := 8388608 + M) (E := E) (by omega) (by omega) (by omega) (127 - E) fuel y (by have := fuel_ge; omega) (by omega) (by omega) (by rw [hv]; congr 1; omega)
    rw [show E + (127 - E) = 127 by omega, show 8388608 + M - 8388608 = M by omega] at st
    rw [ei]
    exact st
theorem op_drawn {X : XM} (I : Base X) (S : SIn X) (a1 a2 : Int32) : ∃ r X1 X2, fX8_drawn a1 a2 X = some (r, X1) ∧ fX9_drawn a1 a2 X1 = some (r, X2) ∧ Base X2 ∧ SIn X2 ∧ K89 X X2 := by
  have r23 : srw X 22 (upd (X 22) 0 0) 23 = X 0 := by rw [srw_n (by decide), I.same]
  have no : ∀ r : Int32, fX8_drawn a1 a2 X = some (r, X) → fX9_drawn a1 a2 X = some (r, srw X 22 (upd (X 22) 0 0)) → ∃ r X1 X2, fX8_drawn a1 a2 X = some (r, X1) ∧ fX9_drawn a1 a2 X1 = some (r, X2) ∧ Base X2 ∧ SIn X2 ∧ K89 X X2 := fun r e1 e2 => ⟨r, _, _, e1, e2, (base_ask I).1, SIn_cong S (fun r _ _ => srw_n (by omega)), fun r hr => srw_n (by omega)⟩
  by_cases c1 : a1 < 1
  · refine no (-2) ?_ ?_
    · unfold fX8_drawn
      rw [if_pos c1]
    · unfold fX9_drawn
      rw [zl_ok, xup_eq, q_inF (Or.inl c1), zi_ok, if_pos rfl]
  by_cases c2 : 200 < a1
  · refine no (-2) ?_ ?_
    · unfold fX8_drawn
      rw [if_neg c1, if_pos c2]
    · unfold fX9_drawn
      rw [zl_ok, xup_eq, q_inF (Or.inr c2), zi_ok, if_pos rfl]
  by_cases c3 : a2 < 0
  · refine no (-2) ?_ ?_
    · unfold fX8_drawn
      rw [if_neg c1, if_neg c2, if_pos c3]
    · unfold fX9_drawn
      rw [zl_ok, xup_eq, q_inT c1 c2, zi_ok, if_neg i10, q_inF (Or.inl c3), zi_ok, if_pos rfl]
  obtain ⟨x, hx31, ex⟩ := nat_of c3
  obtain ⟨b1, b2⟩ := rng (x := a1) (lo := 1) (hi := 200) (by decide) (by decide) c1 c2
  have ea : a1 = nI (xun a1) := (nI_xun _).symm
  generalize xun a1 = G at *
  subst ea
  subst ex
  by_cases c4 : 65536 < x
  · refine no (-2) ?_ ?_
    · unfold fX8_drawn
      rw [if_neg c1, if_neg c2, if_neg c3, if_neg (show ¬ nI x < 65537 by rw [show (65537 : Int32) = nI 65537 from rfl, nI_ltI (by omega) (by decide)]; omega)]
    · unfold fX9_drawn
      rw [zl_ok, xup_eq, q_inT c1 c2, zi_ok, if_neg i10, q_inF (Or.inr (show (65536 : Int32) < nI x by rw [show (65536 : Int32) = nI 65536 from rfl, nI_ltI (by decide) (by omega)]; exact c4)), zi_ok, if_pos rfl]
  have n4 : ¬ (65536 : Int32) < nI x := by rw [show (65536 : Int32) = nI 65536 from rfl, nI_ltI (by decide) (by omega)]; exact c4
  have p4 : nI x < (65537 : Int32) := by rw [show (65537 : Int32) = nI 65537 from rfl, nI_ltI (by omega) (by decide)]; omega
  by_cases c5 : gmoves (X 0) = 0
  · refine no (-5) ?_ ?_
    · unfold fX8_drawn
      rw [if_neg c1, if_neg c2, if_neg c3, if_pos p4, f_isOver I.g0, zi_ok, if_pos c5, if_neg i10]
    · unfold fX9_drawn
      rw [zl_ok, xup_eq, q_inT c1 c2, zi_ok, if_neg i10, q_inT c3 n4, zi_ok, if_neg i10, q_isOver (by rw [r23]; exact I.g0), zi_ok, r23, if_pos c5, if_neg i10]
  · have hfu := fuel_ge
    obtain ⟨Y, y1, y2, y3⟩ := f_gg I.g0 (G := G) b2 (sd := nI x) fuel 0 x 0 X (by omega) (by omega) (by omega) rfl I.z2
    have hw := gg_le (f0 := X 0) (G := G) fuel 0 x 0 (Nat.le_refl _) (Nat.zero_le _)
    have fb := f_bits (w := ggN (X 0) G fuel 0 x 0) (G := G) (by omega) b1 hw
    have y23 : srw Y 22 (upd (Y 22) 0 0) 23 = X 0 := by rw [srw_n (by decide), y3 23 (by decide), I.same]
    generalize hV : srw Y 22 (upd (Y 22) 0 0) = V at *
    have vr : ∀ r, r ≠ 22 → V r = Y r := fun r h => by rw [← hV, srw_n h]
    have v22 : ∀ k, k ≠ 0 → V 22 k = X 22 k := fun k h => by rw [← hV, srw_s, pk_un h, y3 22 (by decide)]
    have qa := q_aside_41 (x1 := nI G) (x2 := nI x) fuel 0 V (by decide) (by omega)
    have w23 : srw V 24 (cpy (V 24) (V 23) 0 0 27) 23 = X 0 := by rw [srw_n (by decide), y23]
    have w24 : ∀ k, k < 27 → srw V 24 (cpy (V 24) (V 23) 0 0 27) 24 k = X 0 k := by
      intro k hk
      rw [srw_s, y23]
      unfold cpy
      rw [if_pos (by omega), Nat.sub_zero]
    have qg := q_gg I.g0 (G := G) b2 (sd := nI x) fuel 0 x 0 (srw V 24 (cpy (V 24) (V 23) 0 0 27)) (by omega) (by omega) (by omega) w23 w24
    rw [(fb _).2] at qg
    generalize hW : srw V 24 (cpy (V 24) (V 23) 0 0 27) = W at *
    have wX : ∀ r, r ≠ 24 → r ≠ 22 → r ≠ 2 → W r = X r := fun r a b d => by rw [← hW, srw_n a, vr r b, y3 r d]
    have w22 : ∀ k, k ≠ 0 → W 22 k = X 22 k := fun k h => by rw [← hW, srw_n (by decide), v22 k h]
    refine ⟨btI (ggN (X 0) G fuel 0 x 0) G, Y, W, ?_, ?_, ?_, SIn_cong S (fun r _ _ => wX r (by omega) (by omega) (by omega)), fun r hr => wX r (by omega) (by omega) (by omega)⟩
    · unfold fX8_drawn
      rw [if_neg c1, if_neg c2, if_neg c3, if_pos p4, f_isOver I.g0, zi_ok, if_neg c5, if_pos rfl]
      unfold fX8_gamesWonByDraws
      rw [show fX8_gamesWonByDraws_8 fuel (nI G) (nI x) 0 (nI x) 0 X = _ from y1, zi_ok, (fb Y).1, zi_ok]
    · unfold fX9_drawn
      rw [zl_ok, xup_eq, hV, q_inT c1 c2, zi_ok, if_neg i10, q_inT c3 n4, zi_ok, if_neg i10, q_isOver (by rw [y23]; exact I.g0), zi_ok, y23, if_neg c5, if_pos rfl, show fX9_drawn_41 fuel (nI G) (nI x) 0 V = _ from qa]
      exact qg
    · obtain ⟨n, C, h1, h2, h3⟩ := I.hist
      refine ⟨by rw [wX 0 (by decide) (by decide) (by decide)]; exact I.g0, by rw [wX 23 (by decide) (by decide) (by decide), wX 0 (by decide) (by decide) (by decide)]; exact I.same, ⟨n, C, HC_cong h1 (fun r hr => wX r (by omega) (by omega) (by omega)), HM_cong h2 (w22 1 (by decide)) (wX 25 (by decide) (by decide) (by decide)), h3⟩, by rw [wX 1 (by decide) (by decide) (by decide)]; exact I.z1, ?_, fun w hw => by rw [wX (9 + w) (by omega) (by omega) (by omega)]; exact I.z9 w hw, fun w hw => ?_, ?_⟩
      · have e2 : W 2 = Y 2 := by rw [← hW, srw_n (by decide), vr 2 (by decide)]
        rw [e2]; exact y2
      · rw [wX 12 (by decide) (by decide) (by decide), wX 27 (by decide) (by decide) (by decide), wX 26 (by decide) (by decide) (by decide), wX (9 + w) (by omega) (by omega) (by omega)]
        exact I.slots w hw
      · obtain ⟨len, l1, l2, l3, l4⟩ := I.pad
        exact ⟨len, l1, by rw [wX 20 (by decide) (by decide) (by decide)]; exact l2, by rw [w22 2 (by decide)]; exact l3, fun i hi => by rw [wX 21 (by decide) (by decide) (by decide), wX 28 (by decide) (by decide) (by decide)]; exact l4 i hi⟩
end DW
