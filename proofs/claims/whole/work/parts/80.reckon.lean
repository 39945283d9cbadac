/-! THE REFERENCE reckons all games -/
section RK
def gix (c o t a : Nat) : Nat := ((c * 3 + o) * 3 + t) * 2 + a
def Vi (f : Nat → Int32) (i : Nat) : Int32 := VV f 25 (i / 18) (i % 2) (i / 6 % 3) (i / 2 % 3)
def Wi (f : Nat → Int32) (i : Nat) : Bool := WW f 25 (i / 18) (i % 2) (i / 6 % 3) (i / 2 % 3)
theorem gix_parts {c o t a : Nat} (ho : o < 3) (ht : t < 3) (ha : a < 2) : gix c o t a / 18 = c ∧ gix c o t a % 2 = a ∧ gix c o t a / 6 % 3 = o ∧ gix c o t a / 2 % 3 = t := by
  unfold gix
  omega
theorem gix_lt {c o t a : Nat} (hc : c < 1296) (ho : o < 3) (ht : t < 3) (ha : a < 2) : gix c o t a < 23328 := by
  unfold gix
  omega
theorem Vi_gix {f : Nat → Int32} {c o t a : Nat} (ho : o < 3) (ht : t < 3) (ha : a < 2) : Vi f (gix c o t a) = VV f 25 c a o t := by
  obtain ⟨e1, e2, e3, e4⟩ := gix_parts (c := c) ho ht ha
  unfold Vi
  rw [e1, e2, e3, e4]
theorem Wi_gix {f : Nat → Int32} {c o t a : Nat} (ho : o < 3) (ht : t < 3) (ha : a < 2) : Wi f (gix c o t a) = WW f 25 c a o t := by
  obtain ⟨e1, e2, e3, e4⟩ := gix_parts (c := c) ho ht ha
  unfold Wi
  rw [e1, e2, e3, e4]
def bix (c o t mv : Nat) : Nat := gix (bcN c mv) t (boN o mv) (baN mv)
theorem ba_lt (mv : Nat) : baN mv < 2 := by unfold baN; split <;> omega
theorem bo_lt {o mv : Nat} (h : o < 3) : boN o mv < 3 := by unfold boN; split <;> omega
theorem q_game {X : XM} {c o t a : Nat} : fX9_game (nI c) (nI o) (nI t) (nI a) X = some (nI (gix c o t a), X) := by
  unfold fX9_game gix
  rw [show (3 : Int32) = nI 3 from rfl, show (2 : Int32) = nI 2 from rfl, pk_mul, nI_add, pk_mul, nI_add, pk_mul, nI_add]
theorem q_behind {X : XM} {tk c o t a mv : Nat} (hc : c < 1296) (hmv : mv < 21) (h : canN tk c o a mv = true) : fX9_behind (nI mv) (nI c) (nI o) (nI t) X = some (nI (bix c o t mv), X) := by
  unfold fX9_behind bix bcN boN baN
  by_cases e : mv = 20
  · subst e
    have := can_pass h
    rw [if_pos (show nI 20 = (20 : Int32) from rfl), if_pos rfl, if_pos rfl, if_pos rfl, show nI o - 1 = nI (o - 1) from pk_sub (b := 1) (by omega)]
    rw [show fX9_game (nI c) (nI t) (nI (o - 1)) 1 X = _ from q_game (a := 1), zi_ok]
  · have hp : mv / 5 < 4 := by omega
    have hl := (can_less (t := t) hc hmv h).2.2.1 e
    rw [if_neg (n20 (by omega)), if_neg e, if_neg e, if_neg e, q_unit (q_5 (by omega)).1 hp, zi_ok, (q_5 (by omega)).2, pk_mul, pk_sub hl.1]
    rw [show fX9_game (nI (c - 6 ^ (mv / 5) * (mv % 5 + 1))) (nI t) (nI o) 0 X = _ from q_game (a := 0), zi_ok]
theorem q_psB {X : XM} {c mv : Nat} (hmv : mv < 21) (hc : c < 2 ^ 31) : fX9_isPoisoned (nI mv) (nI c) X = some (bI (psB (X 23) c mv), X) := by
  unfold psB
  by_cases e : mv = 20
  · subst e
    rw [if_pos rfl]
    exact q_isPoisoned20
  · rw [if_neg e, q_isPoisoned rfl rfl (by omega) hc]
    by_cases c1 : X 23 (13 + 4 * (mv / 5)) = 1 ∧ dig c (mv / 5) = mv % 5 + 1
    · rw [if_pos c1, decide_eq_true c1.1, decide_eq_true c1.2]
      rfl
    · rw [if_neg c1]
      by_cases c2 : X 23 (13 + 4 * (mv / 5)) = 1
      · rw [decide_eq_true c2, decide_eq_false (fun q => c1 ⟨c2, q⟩)]
        rfl
      · rw [decide_eq_false c2, Bool.false_and]
        rfl
theorem q_gnI {X : XM} {mv : Nat} (hmv : mv < 21) : fX9_gain (nI mv) X = some (gnI (X 23) mv, X) := by
  unfold gnI
  by_cases e : mv = 20
  · subst e
    rw [if_pos rfl]
    exact q_gain20
  · rw [if_neg e, q_gain rfl (by omega)]
/-- what is told of the games behind a move -/
def TBm (f : Nat → Int32) (c o t mv : Nat) (X : XM) : Prop := X 29 (bix c o t mv) = VV f 25 (bcN c mv) (baN mv) t (boN o mv) ∧ X 30 (bix c o t mv) = bI (WW f 25 (bcN c mv) (baN mv) t (boN o mv))
theorem bix_lt {tk c o t a mv : Nat} (hc : c < 1296) (ho : o < 3) (ht : t < 3) (hmv : mv < 21) (h : canN tk c o a mv = true) : bix c o t mv < 23328 := gix_lt (by have := (can_less (t := t) hc hmv h).1; omega) ht (bo_lt ho) (ba_lt mv)
theorem q_worth {f : Nat → Int32} {X : XM} (hx : X 23 = f) {tk c o t a mv : Nat} (hc : c < 1296) (ho : o < 3) (ht : t < 3) (hmv : mv < 21) (h : canN tk c o a mv = true) (hT : TBm f c o t mv X) : fX9_worth (nI mv) (nI c) (nI o) (nI t) X = some (mvV f (VV f 25) c o t mv, X) := by
  have hb := bix_lt hc ho ht hmv h
  unfold fX9_worth mvV
  rw [q_gnI hmv, zi_ok, q_psB hmv (by omega), zi_ok, hx]
  cases hp : psB f c mv
  · rw [if_pos (show bI false = 0 from rfl), q_behind hc hmv h, zi_ok, zd_ok (vp_in_nI hb (by decide)), nI_clampN (by omega), hT.1]
    rfl
  · rw [if_neg (show ¬ bI true = 0 by decide)]
    rfl
theorem q_wins {f : Nat → Int32} {X : XM} (hx : X 23 = f) {tk c o t a mv : Nat} (hc : c < 1296) (ho : o < 3) (ht : t < 3) (hmv : mv < 21) (h : canN tk c o a mv = true) (hT : TBm f c o t mv X) : fX9_wins (nI mv) (nI c) (nI o) (nI t) X = some (bI (mvW f (WW f 25) c o t mv), X) := by
  have hb := bix_lt hc ho ht hmv h
  unfold fX9_wins mvW
  rw [q_psB hmv (by omega), zi_ok, hx]
  cases hp : psB f c mv
  · rw [if_pos (show bI false = 0 from rfl), q_behind hc hmv h, zi_ok, zd_ok (vp_in_nI hb (by decide)), nI_clampN (by omega), hT.2]
    cases WW f 25 (bcN c mv) (baN mv) t (boN o mv) <;> rfl
  · rw [if_neg (show ¬ bI true = 0 by decide)]
    rfl
/-- both tables written at a game -/
def wrT (f : Nat → Int32) (i : Nat) (X : XM) : XM := srw (srw X 29 (upd (X 29) i (Vi f i))) 30 (upd (X 30) i (bI (Wi f i)))
theorem wrT_29 {f : Nat → Int32} {i : Nat} {X : XM} : wrT f i X 29 = upd (X 29) i (Vi f i) := by
  unfold wrT
  rw [srw_n (by decide), srw_s]
theorem wrT_30 {f : Nat → Int32} {i : Nat} {X : XM} : wrT f i X 30 = upd (X 30) i (bI (Wi f i)) := by
  unfold wrT
  rw [srw_s]
theorem wrT_r {f : Nat → Int32} {i r : Nat} {X : XM} (h1 : r ≠ 29) (h2 : r ≠ 30) : wrT f i X r = X r := by
  unfold wrT
  rw [srw_n h2, srw_n h1]
theorem q_can21 {f : Nat → Int32} {X : XM} (hx : X 23 = f) (hf : gok f) {c o a mv : Nat} (hc : c < 1296) (ho : o < 3) (ha : a < 2) (hmv : mv < 21) : fX9_can (nI mv) (nI c) (nI o) (nI a) X = some (bI (canN (xun (f 0)) c o a mv), X) := by
  rw [q_can (by rw [hx]; exact hf) rfl rfl rfl rfl hmv hc (by omega) (by omega), hx]
  rfl
theorem q_reckons_18 {f : Nat → Int32} (hf : gok f) {X : XM} (hx : X 23 = f) {c o t a : Nat} (hc : c < 1296) (ho : o < 3) (ht : t < 3) (ha : a < 2) (hT : ∀ mv, mv < 21 → canN (xun (f 0)) c o a mv = true → TBm f c o t mv X) : ∀ (n i : Nat), i ≤ 21 → 21 < i + n →
    fX9_reckons_18 n (nI c) (nI o) (nI t) (nI a) (mxI (canN (xun (f 0)) c o a) (mvV f (VV f 25) c o t) (-(f 1)) i) (bI (!anB (canN (xun (f 0)) c o a) i)) (bI (anB (fun mv => canN (xun (f 0)) c o a mv && mvW f (WW f 25) c o t mv) i)) (nI i) X = some (wrT f (gix c o t a) X) := by
  have hg := gix_lt hc ho ht ha
  intro n
  induction n with
  | zero => intro i h1 h2; omega
  | succ n ih =>
    intro i h1 h2
    rw [fX9_reckons_18]
    by_cases ci : i = 21
    · subst ci
      rw [if_pos (show (21 : Int32) ≤ nI 21 by decide), q_game, zi_ok, zd_ok (vp_in_nI hg (by decide)), zl_ok, q_game, zi_ok, zd_ok (vp_in_nI hg (by decide)), zl_ok, nI_clampN (by omega), xup_eq, xup_eq]
      congr 1
      unfold wrT
      rw [srw_n (by decide), Vi_gix ho ht ha, Wi_gix ho ht ha, ← VV_eq hc ho ht, ← WW_eq hc ho ht]
      congr 2
      cases WW f 25 c a o t <;> rfl
    · have hi : i < 21 := by omega
      have st := ih (i + 1) (by omega) (by omega)
      rw [← nI_1] at st
      rw [if_neg (i21n hi), q_can21 hx hf hc ho ha hi, zi_ok]
      generalize hcan : canN (xun (f 0)) c o a = can at *
      generalize hw : mvV f (VV f 25) c o t = w at *
      cases hp : can i
      · have e1 : mxI can w (-(f 1)) (i + 1) = mxI can w (-(f 1)) i := by
          show (if can i = true then _ else _) = _
          rw [if_neg (by rw [hp]; decide)]
        have e2 : anB can (i + 1) = anB can i := by
          show (anB can i || can i) = _
          rw [hp, Bool.or_false]
        have e3 : anB (fun mv => can mv && mvW f (WW f 25) c o t mv) (i + 1) = anB (fun mv => can mv && mvW f (WW f 25) c o t mv) i := by
          show (_ || (can i && _)) = _
          rw [hp, Bool.false_and, Bool.or_false]
        rw [e1, e2, e3] at st
        rw [if_pos (show bI false = 0 from rfl)]
        exact st
      · have hp' : canN (xun (f 0)) c o a i = true := by rw [hcan]; exact hp
        have hTi := hT i hi hp
        have e2 : anB can (i + 1) = true := by
          show (anB can i || can i) = _
          rw [hp, Bool.or_true]
        have e3 : anB (fun mv => can mv && mvW f (WW f 25) c o t mv) (i + 1) = (anB (fun mv => can mv && mvW f (WW f 25) c o t mv) i || mvW f (WW f 25) c o t i) := by
          show (_ || (can i && _)) = _
          rw [hp, Bool.true_and]
        have ew : mvV f (VV f 25) c o t i = w i := by rw [hw]
        rw [if_neg (show ¬ bI true = 0 by decide), q_worth hx hc ho ht hi hp' hTi, zi_ok, ew]
        have e1 : mxI can w (-(f 1)) (i + 1) = if anB can i = true then o_max (mxI can w (-(f 1)) i) (w i) else w i := by
          show (if can i = true then _ else _) = _
          rw [if_pos hp]
        rw [e2, e3] at st
        generalize hB : mxI can w (-(f 1)) (i + 1) = B at *
        have tail : ∀ v : Int32, v = B → (if bI (anB (fun mv => can mv && mvW f (WW f 25) c o t mv) i) = 0 then zi (fX9_wins (nI i) (nI c) (nI o) (nI t) X) (fun r_44 X_43 => if r_44 = 0 then fX9_reckons_18 n (nI c) (nI o) (nI t) (nI a) v 0 0 (nI i + 1) X_43 else fX9_reckons_18 n (nI c) (nI o) (nI t) (nI a) v 0 1 (nI i + 1) X_43) else fX9_reckons_18 n (nI c) (nI o) (nI t) (nI a) v 0 1 (nI i + 1) X) = some (wrT f (gix c o t a) X) := by
          intro v hv
          subst hv
          cases h7 : anB (fun mv => can mv && mvW f (WW f 25) c o t mv) i
          · rw [if_pos (show bI false = 0 from rfl), q_wins hx hc ho ht hi hp' hTi, zi_ok]
            rw [h7, Bool.false_or] at st
            cases h8 : mvW f (WW f 25) c o t i
            · rw [h8] at st
              rw [if_pos (show bI false = 0 from rfl)]
              exact st
            · rw [h8] at st
              rw [if_neg (show ¬ bI true = 0 by decide)]
              exact st
          · rw [h7, Bool.true_or] at st
            rw [if_neg (show ¬ bI true = 0 by decide)]
            exact st
        cases h6 : anB can i
        · rw [if_neg (show ¬ bI (!false) = 0 by decide)]
          exact tail _ (by rw [e1, h6, if_neg (by decide)])
        · rw [if_pos (show bI (!true) = 0 from rfl)]
          rw [h6, if_pos rfl] at e1
          by_cases g : w i ≤ mxI can w (-(f 1)) i
          · rw [if_pos g]
            exact tail _ (by rw [e1]; exact (if_neg (Int32.not_lt.2 g)).symm)
          · rw [if_neg g]
            exact tail _ (by rw [e1]; exact (if_pos (Int32.not_le.1 g)).symm)
theorem q_reckons {f : Nat → Int32} (hf : gok f) {X : XM} (hx : X 23 = f) {c o t a : Nat} (hc : c < 1296) (ho : o < 3) (ht : t < 3) (ha : a < 2) (hT : ∀ mv, mv < 21 → canN (xun (f 0)) c o a mv = true → TBm f c o t mv X) : fX9_reckons (nI c) (nI o) (nI t) (nI a) X = some (wrT f (gix c o t a) X) := by
  unfold fX9_reckons
  rw [zl_ok, hx]
  exact q_reckons_18 hf hx hc ho ht ha hT fuel 0 (by decide) (by have := fuel_ge; omega)
def blB (f : Nat → Int32) (c : Nat) : Bool := decide (dig c 0 ≤ gT f 0) && (decide (dig c 1 ≤ gT f 1) && (decide (dig c 2 ≤ gT f 2) && decide (dig c 3 ≤ gT f 3)))
theorem blB_all {f : Nat → Int32} {c : Nat} : blB f c = true ↔ ∀ q, q < 4 → dig c q ≤ gT f q := by
  unfold blB
  rw [Bool.and_eq_true, Bool.and_eq_true, Bool.and_eq_true, decide_eq_true_eq, decide_eq_true_eq, decide_eq_true_eq, decide_eq_true_eq]
  constructor
  · rintro ⟨a, b, c, d⟩ q hq
    match q, hq with
    | 0, _ => exact a
    | 1, _ => exact b
    | 2, _ => exact c
    | 3, _ => exact d
  · intro h
    exact ⟨h 0 (by decide), h 1 (by decide), h 2 (by decide), h 3 (by decide)⟩
theorem q_isBelow {f : Nat → Int32} (hf : gok f) {X : XM} (hx : X 23 = f) {c : Nat} (hc : c < 1296) : fX9_isBelow (nI c) X = some (bI (blB f c), X) := by
  have hd : ∀ p, dig c p < 6 := fun p => Nat.mod_lt _ (by decide)
  have eT : ∀ p, p < 4 → X 23 (11 + 4 * p + 0) = nI (gT f p) := fun p _ => by rw [hx]; exact (nI_xun _).symm
  have lt : ∀ p, p < 4 → (nI (gT f p) < nI (dig c p) ↔ gT f p < dig c p) := fun p hp => nI_ltI (by have := gT_le hf hp; omega) (by have := hd p; omega)
  unfold fX9_isBelow blB
  rw [show (0 : Int32) = nI 0 from rfl, show (1 : Int32) = nI 1 from rfl, show (2 : Int32) = nI 2 from rfl, show (3 : Int32) = nI 3 from rfl]
  rw [q_tokensIn rfl rfl (by decide) (by omega), zi_ok, q_of rfl rfl (by decide) (by decide), zi_ok, eT 0 (by decide)]
  by_cases c0 : gT f 0 < dig c 0
  · rw [if_pos ((lt 0 (by decide)).2 c0), decide_eq_false (by omega), Bool.false_and]
    rfl
  rw [if_neg (fun q => c0 ((lt 0 (by decide)).1 q)), decide_eq_true (show dig c 0 ≤ gT f 0 by omega), Bool.true_and]
  rw [q_tokensIn rfl rfl (by decide) (by omega), zi_ok, q_of rfl rfl (by decide) (by decide), zi_ok, eT 1 (by decide)]
  by_cases c1 : gT f 1 < dig c 1
  · rw [if_pos ((lt 1 (by decide)).2 c1), decide_eq_false (by omega), Bool.false_and]
    rfl
  rw [if_neg (fun q => c1 ((lt 1 (by decide)).1 q)), decide_eq_true (show dig c 1 ≤ gT f 1 by omega), Bool.true_and]
  rw [q_tokensIn rfl rfl (by decide) (by omega), zi_ok, q_of rfl rfl (by decide) (by decide), zi_ok, eT 2 (by decide)]
  by_cases c2 : gT f 2 < dig c 2
  · rw [if_pos ((lt 2 (by decide)).2 c2), decide_eq_false (by omega), Bool.false_and]
    rfl
  rw [if_neg (fun q => c2 ((lt 2 (by decide)).1 q)), decide_eq_true (show dig c 2 ≤ gT f 2 by omega), Bool.true_and]
  rw [q_tokensIn rfl rfl (by decide) (by omega), zi_ok, q_of rfl rfl (by decide) (by decide), zi_ok, eT 3 (by decide)]
  by_cases c3 : gT f 3 < dig c 3
  · rw [if_pos ((lt 3 (by decide)).2 c3), decide_eq_false (by omega)]
    rfl
  · rw [if_neg (fun q => c3 ((lt 3 (by decide)).1 q)), decide_eq_true (show dig c 3 ≤ gT f 3 by omega)]
    rfl
/-- the tables hold all games below, up to the code c and there up to P passes and O of them own -/
def TB (f : Nat → Int32) (c P O : Nat) (X : XM) : Prop := ∀ i, i < 23328 → blB f (i / 18) = true → (i / 18 < c ∨ (i / 18 = c ∧ (i / 6 % 3 + i / 2 % 3 < P ∨ (i / 6 % 3 + i / 2 % 3 = P ∧ i / 6 % 3 < O)))) → X 29 i = Vi f i ∧ X 30 i = bI (Wi f i)
def TBA (f : Nat → Int32) (X : XM) : Prop := ∀ i, i < 23328 → blB f (i / 18) = true → X 29 i = Vi f i ∧ X 30 i = bI (Wi f i)
theorem TB_wr {f : Nat → Int32} {c P O j : Nat} {X : XM} (h : TB f c P O X) : TB f c P O (wrT f j X) := by
  intro i hi hb hd
  rw [wrT_29, wrT_30]
  unfold upd
  by_cases e : i = j
  · rw [if_pos e, if_pos e, e]
    exact ⟨rfl, rfl⟩
  · rw [if_neg e, if_neg e]
    exact h i hi hb hd
theorem TB_m {f : Nat → Int32} {tk c P O t a mv : Nat} {X : XM} (h : TB f c P O X) (hc : c < 1296) (hb : blB f c = true) (hO : O < 3) (ht : t < 3) (hP : O + t = P) (hmv : mv < 21) (hcan : canN tk c O a mv = true) : TBm f c O t mv X := by
  have hl := can_less (t := t) hc hmv hcan
  have hbo : boN O mv < 3 := bo_lt hO
  obtain ⟨e1, e2, e3, e4⟩ := gix_parts (c := bcN c mv) ht hbo (ba_lt mv)
  have key := h (bix c O t mv) (bix_lt hc hO ht hmv hcan) (by
    show blB f (gix (bcN c mv) t (boN O mv) (baN mv) / 18) = true
    rw [e1]
    exact blB_all.2 fun q hq => Nat.le_trans (hl.2.2.2 q hq) (blB_all.1 hb q hq)) (by
    show gix (bcN c mv) t (boN O mv) (baN mv) / 18 < c ∨ _
    unfold bix
    rw [e1, e3, e4]
    by_cases e : mv = 20
    · subst e
      have hp := can_pass hcan
      refine Or.inr ⟨rfl, Or.inl ?_⟩
      unfold boN
      rw [if_pos rfl]
      omega
    · exact Or.inl (hl.2.2.1 e).2.1)
  unfold TBm
  rw [← Vi_gix ht hbo (ba_lt mv), ← Wi_gix ht hbo (ba_lt mv)]
  exact key
theorem rk_in : ∀ P, P < 5 → ∀ O, O < 3 → (O ≤ P ∧ P - O ≤ 2 ∧ nI P - nI O = nI (P - O) ∧ ¬ nI P - nI O < 0 ∧ ¬ 2 < nI P - nI O) ∨ (¬ (O ≤ P ∧ P - O ≤ 2) ∧ (nI P - nI O < 0 ∨ 2 < nI P - nI O)) := by decide +kernel
theorem q_code_9 {f : Nat → Int32} (hf : gok f) {c P : Nat} (hc : c < 1296) (hb : blB f c = true) (hP : P < 5) {k2 : Int32 → Int32 → XM → Option XM} {Q : XM → Prop} (K : ∀ X, X 23 = f → TB f c (P + 1) 0 X → ∃ Y, k2 (nI c) (nI (P + 1)) X = some Y ∧ Q Y ∧ ∀ r, r ≠ 29 → r ≠ 30 → Y r = X r) : ∀ (n O : Nat) (X : XM), O ≤ 3 → 3 < O + n → X 23 = f → TB f c P O X →
    ∃ Y, fX9_reckonsCode_9 k2 n (nI c) (nI P) (nI O) X = some Y ∧ Q Y ∧ ∀ r, r ≠ 29 → r ≠ 30 → Y r = X r := by
  intro n
  induction n with
  | zero => intro O X h1 h2; omega
  | succ n ih =>
    intro O X h1 h2 hx hT
    rw [fX9_reckonsCode_9]
    by_cases cO : O = 3
    · subst cO
      rw [if_pos (show (2 : Int32) < nI 3 by decide), nI_1]
      refine K X hx (fun i hi hbi hd => hT i hi hbi ?_)
      omega
    · have hO : O < 3 := by omega
      rw [if_neg (show ¬ (2 : Int32) < nI O by rw [show (2 : Int32) = nI 2 from rfl, nI_ltI (by decide) (by omega)]; omega)]
      rcases rk_in P hP O hO with ⟨b1, b2, b3, b4, b5⟩ | ⟨b1, b2⟩
      · have ht : P - O < 3 := by omega
        rw [q_inT b4 b5, zi_ok, if_neg i10, b3]
        have hx2 : wrT f (gix c O (P - O) 0) X 23 = f := by rw [wrT_r (by decide) (by decide)]; exact hx
        have hT2 := TB_wr (j := gix c O (P - O) 0) hT
        rw [show fX9_reckons (nI c) (nI O) (nI (P - O)) 0 X = _ from q_reckons hf hx hc hO ht (a := 0) (by decide) (fun mv hmv hcan => TB_m hT hc hb hO ht (by omega) hmv hcan), zv_ok]
        rw [show fX9_reckons (nI c) (nI O) (nI (P - O)) 1 (wrT f (gix c O (P - O) 0) X) = _ from q_reckons hf hx2 hc hO ht (a := 1) (by decide) (fun mv hmv hcan => TB_m hT2 hc hb hO ht (by omega) hmv hcan), zv_ok, nI_1]
        obtain ⟨Y, y1, y2, y3⟩ := ih (O + 1) (wrT f (gix c O (P - O) 1) (wrT f (gix c O (P - O) 0) X)) (by omega) (by omega) (by rw [wrT_r (by decide) (by decide)]; exact hx2) (by
          intro i hi hbi hd
          rw [wrT_29, wrT_30, wrT_29, wrT_30]
          unfold upd
          by_cases e1 : i = gix c O (P - O) 1
          · rw [if_pos e1, if_pos e1, e1]
            exact ⟨rfl, rfl⟩
          · rw [if_neg e1, if_neg e1]
            by_cases e0 : i = gix c O (P - O) 0
            · rw [if_pos e0, if_pos e0, e0]
              exact ⟨rfl, rfl⟩
            · rw [if_neg e0, if_neg e0]
              refine hT i hi hbi ?_
              unfold gix at e0 e1
              omega)
        exact ⟨Y, y1, y2, fun r h1 h2 => by rw [y3 r h1 h2, wrT_r h1 h2, wrT_r h1 h2]⟩
      · rw [q_inF b2, zi_ok, if_pos rfl, nI_1]
        exact ih (O + 1) X (by omega) (by omega) hx (fun i hi hbi hd => hT i hi hbi (by omega))
theorem q_code_2 {f : Nat → Int32} (hf : gok f) {c : Nat} (hc : c < 1296) (hb : blB f c = true) : ∀ (n P : Nat) (X : XM), P ≤ 5 → 5 < P + n → X 23 = f → TB f c P 0 X →
    ∃ Y, fX9_reckonsCode_2 n (nI c) (nI P) X = some Y ∧ TB f (c + 1) 0 0 Y ∧ ∀ r, r ≠ 29 → r ≠ 30 → Y r = X r := by
  intro n
  induction n with
  | zero => intro P X h1 h2; omega
  | succ n ih =>
    intro P X h1 h2 hx hT
    rw [fX9_reckonsCode_2]
    by_cases cP : P = 5
    · subst cP
      rw [if_pos (show (4 : Int32) < nI 5 by decide)]
      exact ⟨X, rfl, fun i hi hbi hd => hT i hi hbi (by omega), fun r _ _ => rfl⟩
    · rw [if_neg (show ¬ (4 : Int32) < nI P by rw [show (4 : Int32) = nI 4 from rfl, nI_ltI (by decide) (by omega)]; omega)]
      exact q_code_9 hf hc hb (by omega) (fun Z hz hTz => ih (P + 1) Z (by omega) (by omega) hz hTz) fuel 0 X (by decide) (by have := fuel_ge; omega) hx hT
theorem q_all_2 {f : Nat → Int32} (hf : gok f) : ∀ (n c : Nat) (X : XM), c ≤ 1296 → 1296 < c + n → X 23 = f → TB f c 0 0 X →
    ∃ Y, fX9_reckonsAll_2 n (nI c) X = some Y ∧ TBA f Y ∧ ∀ r, r ≠ 29 → r ≠ 30 → Y r = X r := by
  intro n
  induction n with
  | zero => intro c X h1 h2; omega
  | succ n ih =>
    intro c X h1 h2 hx hT
    rw [fX9_reckonsAll_2]
    by_cases cc : c = 1296
    · subst cc
      rw [if_pos (show (1296 : Int32) ≤ nI 1296 by decide)]
      exact ⟨X, rfl, fun i hi hbi => hT i hi hbi (Or.inl (by omega)), fun r _ _ => rfl⟩
    · have hc : c < 1296 := by omega
      rw [if_neg (show ¬ (1296 : Int32) ≤ nI c by rw [show (1296 : Int32) = nI 1296 from rfl, nI_leI (by decide) (by omega)]; omega), q_isBelow hf hx hc, zi_ok, nI_1]
      cases hb : blB f c
      · rw [if_pos (show bI false = 0 from rfl)]
        refine ih (c + 1) X (by omega) (by omega) hx (fun i hi hbi hd => hT i hi hbi ?_)
        by_cases e : i / 18 = c
        · rw [e, hb] at hbi
          exact absurd hbi (by decide)
        · omega
      · rw [if_neg (show ¬ bI true = 0 by decide)]
        unfold fX9_reckonsCode
        obtain ⟨Y, y1, y2, y3⟩ := q_code_2 hf hc hb fuel 0 X (by decide) (by have := fuel_ge; omega) hx hT
        rw [show fX9_reckonsCode_2 fuel (nI c) 0 X = _ from y1, zv_ok]
        obtain ⟨Z, z1, z2, z3⟩ := ih (c + 1) Y (by omega) (by omega) (by rw [y3 23 (by decide) (by decide)]; exact hx) y2
        exact ⟨Z, z1, z2, fun r h1 h2 => by rw [z3 r h1 h2, y3 r h1 h2]⟩
theorem q_reckonsAll {f : Nat → Int32} (hf : gok f) {X : XM} (hx : X 23 = f) : ∃ Y, fX9_reckonsAll X = some Y ∧ TBA f Y ∧ ∀ r, r ≠ 29 → r ≠ 30 → Y r = X r := by
  unfold fX9_reckonsAll
  exact q_all_2 hf fuel 0 X (by decide) (by have := fuel_ge; omega) hx (fun i _ _ hd => by omega)
end RK
