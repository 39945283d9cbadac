/-! THE SOLUTION of a game: what it is worth, whether it is won; by fuel -/
section SL
def gnI (f : Nat → Int32) (mv : Nat) : Int32 := if mv = 20 then 0 else nI (mv % 5 + 1) * f (12 + 4 * (mv / 5))
def psB (f : Nat → Int32) (c mv : Nat) : Bool := if mv = 20 then false else decide (f (13 + 4 * (mv / 5)) = 1) && decide (dig c (mv / 5) = mv % 5 + 1)
def bcN (c mv : Nat) : Nat := if mv = 20 then c else c - 6 ^ (mv / 5) * (mv % 5 + 1)
def boN (o mv : Nat) : Nat := if mv = 20 then o - 1 else o
def baN (mv : Nat) : Nat := if mv = 20 then 1 else 0
def anB (p : Nat → Bool) : Nat → Bool
  | 0 => false
  | n + 1 => anB p n || p n
def mxI (p : Nat → Bool) (w : Nat → Int32) (b : Int32) : Nat → Int32
  | 0 => b
  | n + 1 => if p n = true then (if anB p n = true then o_max (mxI p w b n) (w n) else w n) else mxI p w b n
def mvV (f : Nat → Int32) (v : Nat → Nat → Nat → Nat → Int32) (c o t mv : Nat) : Int32 := gnI f mv - (if psB f c mv = true then f 1 else v (bcN c mv) (baN mv) t (boN o mv))
def mvW (f : Nat → Int32) (w : Nat → Nat → Nat → Nat → Bool) (c o t mv : Nat) : Bool := !psB f c mv && !w (bcN c mv) (baN mv) t (boN o mv)
def VV (f : Nat → Int32) : Nat → Nat → Nat → Nat → Nat → Int32
  | 0, _, _, _, _ => 0
  | n + 1, c, a, o, t => mxI (canN (xun (f 0)) c o a) (mvV f (VV f n) c o t) (-(f 1)) 21
def WW (f : Nat → Int32) : Nat → Nat → Nat → Nat → Nat → Bool
  | 0, _, _, _, _ => false
  | n + 1, c, a, o, t => anB (fun mv => canN (xun (f 0)) c o a mv && mvW f (WW f n) c o t mv) 21
def dsm (c : Nat) : Nat := dig c 0 + dig c 1 + dig c 2 + dig c 3
theorem dig_split {c : Nat} (h : c < 1296) : c = dig c 0 + 6 * dig c 1 + 36 * dig c 2 + 216 * dig c 3 := by
  unfold dig
  simp only [Nat.reducePow]
  omega
theorem dsm_le (c : Nat) : dsm c ≤ 20 := by
  have hd : ∀ p, dig c p < 6 := fun p => Nat.mod_lt _ (by decide)
  have h0 := hd 0
  have h1 := hd 1
  have h2 := hd 2
  have h3 := hd 3
  unfold dsm
  omega
theorem dig_sub {c p k : Nat} (hc : c < 1296) (hp : p < 4) (hk : k ≤ dig c p) : 6 ^ p * k ≤ c ∧ ∀ q, q < 4 → dig (c - 6 ^ p * k) q = if q = p then dig c p - k else dig c q := by
  have hd : ∀ p, dig c p < 6 := fun p => Nat.mod_lt _ (by decide)
  have h0 := hd 0
  have h1 := hd 1
  have h2 := hd 2
  have h3 := hd 3
  have hs := dig_split hc
  generalize e0 : dig c 0 = d0 at *
  generalize e1 : dig c 1 = d1 at *
  generalize e2 : dig c 2 = d2 at *
  generalize e3 : dig c 3 = d3 at *
  match p, hp with
  | 0, _ =>
    rw [e0] at hk ⊢
    refine ⟨by simp only [Nat.reducePow]; omega, fun q hq => ?_⟩
    match q, hq with
    | 0, _ => rw [if_pos rfl]; unfold dig; simp only [Nat.reducePow]; omega
    | 1, _ => rw [if_neg (by decide), e1]; unfold dig; simp only [Nat.reducePow]; omega
    | 2, _ => rw [if_neg (by decide), e2]; unfold dig; simp only [Nat.reducePow]; omega
    | 3, _ => rw [if_neg (by decide), e3]; unfold dig; simp only [Nat.reducePow]; omega
  | 1, _ =>
    rw [e1] at hk ⊢
    refine ⟨by simp only [Nat.reducePow]; omega, fun q hq => ?_⟩
    match q, hq with
    | 0, _ => rw [if_neg (by decide), e0]; unfold dig; simp only [Nat.reducePow]; omega
    | 1, _ => rw [if_pos rfl]; unfold dig; simp only [Nat.reducePow]; omega
    | 2, _ => rw [if_neg (by decide), e2]; unfold dig; simp only [Nat.reducePow]; omega
    | 3, _ => rw [if_neg (by decide), e3]; unfold dig; simp only [Nat.reducePow]; omega
  | 2, _ =>
    rw [e2] at hk ⊢
    refine ⟨by simp only [Nat.reducePow]; omega, fun q hq => ?_⟩
    match q, hq with
    | 0, _ => rw [if_neg (by decide), e0]; unfold dig; simp only [Nat.reducePow]; omega
    | 1, _ => rw [if_neg (by decide), e1]; unfold dig; simp only [Nat.reducePow]; omega
    | 2, _ => rw [if_pos rfl]; unfold dig; simp only [Nat.reducePow]; omega
    | 3, _ => rw [if_neg (by decide), e3]; unfold dig; simp only [Nat.reducePow]; omega
  | 3, _ =>
    rw [e3] at hk ⊢
    refine ⟨by simp only [Nat.reducePow]; omega, fun q hq => ?_⟩
    match q, hq with
    | 0, _ => rw [if_neg (by decide), e0]; unfold dig; simp only [Nat.reducePow]; omega
    | 1, _ => rw [if_neg (by decide), e1]; unfold dig; simp only [Nat.reducePow]; omega
    | 2, _ => rw [if_neg (by decide), e2]; unfold dig; simp only [Nat.reducePow]; omega
    | 3, _ => rw [if_pos rfl]; unfold dig; simp only [Nat.reducePow]; omega
theorem can_take {tk c o a mv : Nat} (h20 : mv ≠ 20) (h : canN tk c o a mv = true) : mv % 5 + 1 ≤ dig c (mv / 5) := by
  unfold canN at h
  rw [if_neg h20, Bool.and_eq_true, decide_eq_true_eq] at h
  omega
theorem can_pass {tk c o a : Nat} (h : canN tk c o a 20 = true) : 0 < o ∧ a = 0 ∧ 0 < c := by
  unfold canN at h
  rw [if_pos rfl, Bool.and_eq_true, Bool.and_eq_true, decide_eq_true_eq, decide_eq_true_eq, decide_eq_true_eq] at h
  exact h
/-- a move leads to a smaller game -/
theorem can_less {tk c o a t mv : Nat} (hc : c < 1296) (hmv : mv < 21) (h : canN tk c o a mv = true) : bcN c mv ≤ c ∧ dsm (bcN c mv) + t + boN o mv < dsm c + o + t ∧ (mv ≠ 20 → 6 ^ (mv / 5) * (mv % 5 + 1) ≤ c ∧ bcN c mv < c ∧ boN o mv = o) ∧ ∀ q, q < 4 → dig (bcN c mv) q ≤ dig c q := by
  unfold bcN boN
  by_cases e : mv = 20
  · subst e
    have := can_pass h
    rw [if_pos rfl, if_pos rfl]
    exact ⟨Nat.le_refl _, by omega, fun q => absurd rfl q, fun q _ => Nat.le_refl _⟩
  · rw [if_neg e, if_neg e]
    have hk := can_take e h
    have hp : mv / 5 < 4 := by omega
    obtain ⟨a1, a2⟩ := dig_sub hc hp hk
    have h6 : 0 < 6 ^ (mv / 5) := Nat.pow_pos (by decide)
    have hpos : 0 < 6 ^ (mv / 5) * (mv % 5 + 1) := Nat.mul_pos h6 (by omega)
    refine ⟨Nat.sub_le _ _, ?_, fun _ => ⟨a1, by omega, rfl⟩, fun q hq => ?_⟩
    · unfold dsm
      rw [a2 0 (by decide), a2 1 (by decide), a2 2 (by decide), a2 3 (by decide)]
      generalize mv % 5 = k at *
      revert hk
      match mv / 5, hp with
      | 0, _ => intro hk; rw [if_pos rfl, if_neg (by decide), if_neg (by decide), if_neg (by decide)]; omega
      | 1, _ => intro hk; rw [if_neg (by decide), if_pos rfl, if_neg (by decide), if_neg (by decide)]; omega
      | 2, _ => intro hk; rw [if_neg (by decide), if_neg (by decide), if_pos rfl, if_neg (by decide)]; omega
      | 3, _ => intro hk; rw [if_neg (by decide), if_neg (by decide), if_neg (by decide), if_pos rfl]; omega
    · rw [a2 q hq]
      split
      · next e => rw [e]; omega
      · exact Nat.le_refl _
theorem mxI_cong {p : Nat → Bool} {w w2 : Nat → Int32} {b : Int32} : ∀ {n : Nat}, (∀ i, i < n → p i = true → w i = w2 i) → mxI p w b n = mxI p w2 b n := by
  intro n
  induction n with
  | zero => intro _; rfl
  | succ n ih =>
    intro h
    unfold mxI
    rw [ih (fun i hi => h i (by omega))]
    by_cases c : p n = true
    · rw [if_pos c, if_pos c, h n (by omega) c]
    · rw [if_neg c, if_neg c]
theorem anB_cong {p q : Nat → Bool} : ∀ {n : Nat}, (∀ i, i < n → p i = q i) → anB p n = anB q n := by
  intro n
  induction n with
  | zero => intro _; rfl
  | succ n ih =>
    intro h
    unfold anB
    rw [ih (fun i hi => h i (by omega)), h n (by omega)]
theorem anB_up {p : Nat → Bool} {i : Nat} : ∀ {n : Nat}, i ≤ n → anB p i = true → anB p n = true := by
  intro n
  induction n with
  | zero => intro h q; rw [show i = 0 by omega] at q; exact q
  | succ n ih =>
    intro h q
    by_cases e : i = n + 1
    · rw [e] at q; exact q
    · unfold anB
      rw [ih (by omega) q, Bool.true_or]
theorem anB_of {p : Nat → Bool} {i n : Nat} (h : i < n) (hp : p i = true) : anB p n = true := anB_up (i := i + 1) h (by unfold anB; rw [hp, Bool.or_true])
theorem bsum_any (p : Nat → Bool) : ∀ n, bsum p n = 0 ↔ anB p n = false := by
  intro n
  induction n with
  | zero => exact ⟨fun _ => rfl, fun _ => rfl⟩
  | succ n ih =>
    have h2 : 0 < 2 ^ n := Nat.two_pow_pos n
    show bsum p n + (p n).toNat * 2 ^ n = 0 ↔ (anB p n || p n) = false
    cases hp : p n
    · rw [Bool.or_false, ← ih]
      simp
    · rw [Bool.or_true]
      simp
theorem VV_step {f : Nat → Int32} : ∀ n c a o t, c < 1296 → dsm c + o + t < n → VV f n c a o t = VV f (n + 1) c a o t := by
  intro n
  induction n with
  | zero => intro c a o t _ h; omega
  | succ n ih =>
    intro c a o t hc h
    show mxI _ (mvV f (VV f n) c o t) _ 21 = mxI _ (mvV f (VV f (n + 1)) c o t) _ 21
    refine mxI_cong (fun i hi hp => ?_)
    have hl := can_less (t := t) hc hi hp
    unfold mvV
    rw [ih (bcN c i) (baN i) t (boN o i) (by omega) (by omega)]
theorem VV_eq {f : Nat → Int32} {c a o t : Nat} (hc : c < 1296) (ho : o < 3) (ht : t < 3) : VV f 25 c a o t = mxI (canN (xun (f 0)) c o a) (mvV f (VV f 25) c o t) (-(f 1)) 21 := VV_step 25 c a o t hc (by have := dsm_le c; omega)
theorem WW_step {f : Nat → Int32} : ∀ n c a o t, c < 1296 → dsm c + o + t < n → WW f n c a o t = WW f (n + 1) c a o t := by
  intro n
  induction n with
  | zero => intro c a o t _ h; omega
  | succ n ih =>
    intro c a o t hc h
    show anB (fun mv => canN (xun (f 0)) c o a mv && mvW f (WW f n) c o t mv) 21 = anB (fun mv => canN (xun (f 0)) c o a mv && mvW f (WW f (n + 1)) c o t mv) 21
    refine anB_cong (fun i hi => ?_)
    show (canN (xun (f 0)) c o a i && mvW f (WW f n) c o t i) = (canN (xun (f 0)) c o a i && mvW f (WW f (n + 1)) c o t i)
    cases hp : canN (xun (f 0)) c o a i
    · rfl
    · have hl := can_less (t := t) hc hi hp
      unfold mvW
      rw [ih (bcN c i) (baN i) t (boN o i) (by omega) (by omega)]
theorem WW_eq {f : Nat → Int32} {c a o t : Nat} (hc : c < 1296) (ho : o < 3) (ht : t < 3) : WW f 25 c a o t = anB (fun mv => canN (xun (f 0)) c o a mv && mvW f (WW f 25) c o t mv) 21 := WW_step 25 c a o t hc (by have := dsm_le c; omega)
/-- two rows with the same rules -/
def sameR (f g : Nat → Int32) : Prop := f 0 = g 0 ∧ f 1 = g 1 ∧ ∀ p, p < 4 → f (12 + 4 * p) = g (12 + 4 * p) ∧ f (13 + 4 * p) = g (13 + 4 * p)
theorem gnI_same {f g : Nat → Int32} (h : sameR f g) {mv : Nat} (hm : mv < 21) : gnI f mv = gnI g mv := by
  unfold gnI
  by_cases e : mv = 20
  · rw [if_pos e, if_pos e]
  · rw [if_neg e, if_neg e, (h.2.2 (mv / 5) (by omega)).1]
theorem psB_same {f g : Nat → Int32} (h : sameR f g) {c mv : Nat} (hm : mv < 21) : psB f c mv = psB g c mv := by
  unfold psB
  by_cases e : mv = 20
  · rw [if_pos e, if_pos e]
  · rw [if_neg e, if_neg e, (h.2.2 (mv / 5) (by omega)).2]
theorem VV_same {f g : Nat → Int32} (h : sameR f g) : ∀ n c a o t, VV f n c a o t = VV g n c a o t := by
  intro n
  induction n with
  | zero => intro c a o t; rfl
  | succ n ih =>
    intro c a o t
    show mxI (canN (xun (f 0)) c o a) (mvV f (VV f n) c o t) (-(f 1)) 21 = mxI (canN (xun (g 0)) c o a) (mvV g (VV g n) c o t) (-(g 1)) 21
    rw [h.1, h.2.1]
    refine mxI_cong (fun i hi _ => ?_)
    unfold mvV
    rw [gnI_same h hi, psB_same h hi, h.2.1, ih]
theorem WW_same {f g : Nat → Int32} (h : sameR f g) : ∀ n c a o t, WW f n c a o t = WW g n c a o t := by
  intro n
  induction n with
  | zero => intro c a o t; rfl
  | succ n ih =>
    intro c a o t
    show anB (fun mv => canN (xun (f 0)) c o a mv && mvW f (WW f n) c o t mv) 21 = anB (fun mv => canN (xun (g 0)) c o a mv && mvW g (WW g n) c o t mv) 21
    refine anB_cong (fun i hi => ?_)
    show (canN (xun (f 0)) c o a i && mvW f (WW f n) c o t i) = (canN (xun (g 0)) c o a i && mvW g (WW g n) c o t i)
    unfold mvW
    rw [psB_same h hi, h.1, ih]
/-- how far values may go -/
def wid (x : Int32) (b : Int) : Prop := -b ≤ x.toInt ∧ x.toInt ≤ b
theorem mxI_wid {p : Nat → Bool} {w : Nat → Int32} {b : Int32} {B : Int} (hb : wid b B) : ∀ {n : Nat}, (∀ i, i < n → p i = true → wid (w i) B) → wid (mxI p w b n) B := by
  intro n
  induction n with
  | zero => intro _; exact hb
  | succ n ih =>
    intro h
    have i1 := ih (fun i hi => h i (by omega))
    unfold mxI
    by_cases c : p n = true
    · have i2 := h n (by omega) c
      rw [if_pos c]
      split
      · show wid (if _ < _ then _ else _) B
        split
        · exact i2
        · exact i1
      · exact i2
    · rw [if_neg c]
      exact i1
theorem gn_all : ∀ k, k < 5 → ∀ w, w < 10 → 0 ≤ (nI (k + 1) * nI w).toInt ∧ (nI (k + 1) * nI w).toInt ≤ 45 := by decide +kernel
theorem gnI_rng {f : Nat → Int32} (h : gok f) {mv : Nat} (hm : mv < 21) : 0 ≤ (gnI f mv).toInt ∧ (gnI f mv).toInt ≤ 45 := by
  unfold gnI
  by_cases e : mv = 20
  · rw [if_pos e]; decide
  · rw [if_neg e]
    have hw := (h.2.2.2.2.2.2.2.2.2.1 (mv / 5) (by omega)).2.1
    have e1 : f (12 + 4 * (mv / 5)) = nI (xun (f (12 + 4 * (mv / 5)))) := (nI_xun _).symm
    rw [e1]
    exact gn_all (mv % 5) (by omega) _ (by omega)
theorem f1_rng {f : Nat → Int32} (h : gok f) : 0 ≤ (f 1).toInt ∧ (f 1).toInt ≤ 99 := by
  have h1 := h.2.2.1
  have e : (f 1).toInt = ((xun (f 1) : Nat) : Int) := by
    have := nI_toInt (n := xun (f 1)) (by omega)
    rw [nI_xun] at this
    exact this
  omega
theorem mvV_wid {f : Nat → Int32} (h : gok f) {v : Nat → Nat → Nat → Nat → Int32} {B : Int} {c o t mv : Nat} (hB : 99 ≤ B) (hB2 : B ≤ 100000) (hv : wid (v (bcN c mv) (baN mv) t (boN o mv)) B) (hm : mv < 21) : wid (mvV f v c o t mv) (B + 45) := by
  have h1 := gnI_rng h hm
  have h2 := f1_rng h
  unfold wid at hv ⊢
  unfold mvV
  by_cases e : psB f c mv = true
  · rw [if_pos e, fb_subI (by omega) (by omega)]
    omega
  · rw [if_neg e, fb_subI (by omega) (by omega)]
    omega
theorem VV_wid {f : Nat → Int32} (h : gok f) : ∀ n, n ≤ 25 → ∀ c a o t, wid (VV f n c a o t) (99 + 45 * (n : Int)) := by
  intro n
  induction n with
  | zero =>
    intro _ c a o t
    show wid 0 _
    have z0 : (0 : Int32).toInt = 0 := by decide
    unfold wid
    rw [z0]
    omega
  | succ n ih =>
    intro hn c a o t
    have h2 := f1_rng h
    have hneg : (-(f 1)).toInt = -(f 1).toInt := fb_negI (by omega)
    show wid (mxI _ _ _ 21) _
    refine mxI_wid ?_ (fun i hi _ => ?_)
    · unfold wid
      rw [hneg]
      omega
    · have := mvV_wid h (c := c) (o := o) (t := t) (mv := i) (v := VV f n) (B := 99 + 45 * (n : Int)) (by omega) (by omega) (ih (by omega) _ _ _ _) hi
      unfold wid at this ⊢
      omega
theorem mvV_lo {f : Nat → Int32} (h : gok f) {c o t mv : Nat} (hm : mv < 21) : -100000 < mvV f (VV f 25) c o t mv := by
  have := mvV_wid h (c := c) (o := o) (t := t) (B := 99 + 45 * ((25 : Nat) : Int)) (by omega) (by omega) (VV_wid h 25 (Nat.le_refl _) _ _ _ _) hm
  rw [fa_lt]
  have e : (-100000 : Int32).toInt = -100000 := by decide
  unfold wid at this
  omega
/-- the best move: the first of the greatest, -6 if there is none -/
def bsI (p : Nat → Bool) (w : Nat → Int32) : Nat → Int32
  | 0 => -6
  | n + 1 => if p n = true then (if anB p n = true then (if w n ≤ mxI p w 0 n then bsI p w n else nI n) else nI n) else bsI p w n
theorem bsI_in (p : Nat → Bool) (w : Nat → Int32) : ∀ n, (anB p n = false ∧ bsI p w n = -6) ∨ (anB p n = true ∧ ∃ k, k < n ∧ p k = true ∧ bsI p w n = nI k) := by
  intro n
  induction n with
  | zero => exact Or.inl ⟨rfl, rfl⟩
  | succ n ih =>
    unfold anB bsI
    by_cases c : p n = true
    · rw [if_pos c, c, Bool.or_true]
      refine Or.inr ⟨rfl, ?_⟩
      rcases ih with ⟨a1, a2⟩ | ⟨a1, k, hk, hpk, ek⟩
      · rw [a1, if_neg (by decide)]
        exact ⟨n, by omega, c, rfl⟩
      · rw [if_pos a1]
        split
        · exact ⟨k, by omega, hpk, ek⟩
        · exact ⟨n, by omega, c, rfl⟩
    · rw [if_neg c, Bool.eq_false_iff.mpr c, Bool.or_false]
      rcases ih with ⟨a1, a2⟩ | ⟨a1, k, hk, hpk, ek⟩
      · exact Or.inl ⟨a1, a2⟩
      · exact Or.inr ⟨a1, k, by omega, hpk, ek⟩
end SL
