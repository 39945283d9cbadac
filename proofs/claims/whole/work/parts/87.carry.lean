/-! ALL ORDERS, one after the other -/
section CY
variable {len : Nat} {c : Nat → Nat}
theorem dg_in {n : Nat} (h : dgB n = true) : n ≠ 59 ∧ n ≠ 0 := by
  unfold dgB at h
  rw [Bool.and_eq_true, decide_eq_true_eq, decide_eq_true_eq] at h
  omega
theorem oe_in {L : Nat → Nat} {a : Nat} (h : (oeN L a).1 = true) : ∀ j, a ≤ j → j < (oeN L a).2 → L j ≠ 59 ∧ L j ≠ 0 := by
  have bad : ∀ e : Nat, oeN L a = (false, e) → ∀ j, a ≤ j → j < (oeN L a).2 → L j ≠ 59 ∧ L j ≠ 0 := fun e q => by rw [q] at h; exact absurd h Bool.false_ne_true
  have good : ∀ e : Nat, oeN L a = (true, e) → (∀ j, j < e - a → L (a + j) ≠ 59 ∧ L (a + j) ≠ 0) → ∀ j, a ≤ j → j < (oeN L a).2 → L j ≠ 59 ∧ L j ≠ 0 := by
    intro e q k j h1 h2
    rw [q] at h2
    have h3 : j < e := h2
    have := k (j - a) (by omega)
    rw [show a + (j - a) = j by omega] at this
    exact this
  by_cases c43 : L a = 43
  · by_cases d1 : dgB (L (a + 1)) = true
    · by_cases g2 : L (a + 1 + 1) = 119
      · by_cases d3 : dgB (L (a + 1 + 1 + 1)) = true
        · by_cases g4 : L (a + 1 + 1 + 1 + 1) = 33
          · refine good (a + 1 + 1 + 1 + 1 + 1) (by unfold oeN; rw [if_pos c43, if_pos d1, if_pos g2, if_pos d3, if_pos g4]) (fun j hj => ?_)
            match j, (show j < 5 by omega) with
            | 0, _ => rw [Nat.add_zero]; omega
            | 1, _ => exact dg_in d1
            | 2, _ => show L (a + 1 + 1) ≠ 59 ∧ L (a + 1 + 1) ≠ 0; omega
            | 3, _ => exact dg_in d3
            | 4, _ => show L (a + 1 + 1 + 1 + 1) ≠ 59 ∧ L (a + 1 + 1 + 1 + 1) ≠ 0; omega
          · refine good (a + 1 + 1 + 1 + 1) (by unfold oeN; rw [if_pos c43, if_pos d1, if_pos g2, if_pos d3, if_neg g4]) (fun j hj => ?_)
            match j, (show j < 4 by omega) with
            | 0, _ => rw [Nat.add_zero]; omega
            | 1, _ => exact dg_in d1
            | 2, _ => show L (a + 1 + 1) ≠ 59 ∧ L (a + 1 + 1) ≠ 0; omega
            | 3, _ => exact dg_in d3
        · exact bad (a + 1 + 1 + 1) (by unfold oeN; rw [if_pos c43, if_pos d1, if_pos g2, if_neg d3])
      · by_cases g3 : L (a + 1 + 1) = 33
        · refine good (a + 1 + 1 + 1) (by unfold oeN; rw [if_pos c43, if_pos d1, if_neg g2, if_pos g3]) (fun j hj => ?_)
          match j, (show j < 3 by omega) with
          | 0, _ => rw [Nat.add_zero]; omega
          | 1, _ => exact dg_in d1
          | 2, _ => show L (a + 1 + 1) ≠ 59 ∧ L (a + 1 + 1) ≠ 0; omega
        · refine good (a + 1 + 1) (by unfold oeN; rw [if_pos c43, if_pos d1, if_neg g2, if_neg g3]) (fun j hj => ?_)
          match j, (show j < 2 by omega) with
          | 0, _ => rw [Nat.add_zero]; omega
          | 1, _ => exact dg_in d1
    · exact bad (a + 1) (by unfold oeN; rw [if_pos c43, if_neg d1])
  by_cases c45 : L a = 45
  · by_cases d1 : dgB (L (a + 1)) = true
    · by_cases g2 : L (a + 1 + 1) = 46
      · by_cases d3 : dgB (L (a + 1 + 1 + 1)) = true
        · refine good (a + 1 + 1 + 1 + 1) (by unfold oeN; rw [if_neg c43, if_pos c45, if_pos d1, if_pos g2, if_pos d3]) (fun j hj => ?_)
          match j, (show j < 4 by omega) with
          | 0, _ => rw [Nat.add_zero]; omega
          | 1, _ => exact dg_in d1
          | 2, _ => show L (a + 1 + 1) ≠ 59 ∧ L (a + 1 + 1) ≠ 0; omega
          | 3, _ => exact dg_in d3
        · exact bad (a + 1 + 1 + 1) (by unfold oeN; rw [if_neg c43, if_pos c45, if_pos d1, if_pos g2, if_neg d3])
      · exact bad (a + 1 + 1) (by unfold oeN; rw [if_neg c43, if_pos c45, if_pos d1, if_neg g2])
    · exact bad (a + 1) (by unfold oeN; rw [if_neg c43, if_pos c45, if_neg d1])
  by_cases c112 : L a = 112
  · refine good (a + 1) (by unfold oeN; rw [if_neg c43, if_neg c45, if_pos c112]) (fun j hj => ?_)
    rw [show j = 0 by omega, Nat.add_zero]
    omega
  by_cases c109 : L a = 109
  · refine good (a + 1) (by unfold oeN; rw [if_neg c43, if_neg c45, if_neg c112, if_pos c109]) (fun j hj => ?_)
    rw [show j = 0 by omega, Nat.add_zero]
    omega
  by_cases c114 : L a = 114
  · by_cases d1 : dgB (L (a + 1)) = true
    · by_cases d2 : dgB (L (a + 1 + 1)) = true
      · refine good (a + 1 + 1 + 1) (by unfold oeN; rw [if_neg c43, if_neg c45, if_neg c112, if_neg c109, if_pos c114, if_pos d1, if_pos d2]) (fun j hj => ?_)
        match j, (show j < 3 by omega) with
        | 0, _ => rw [Nat.add_zero]; omega
        | 1, _ => exact dg_in d1
        | 2, _ => exact dg_in d2
      · exact bad (a + 1 + 1) (by unfold oeN; rw [if_neg c43, if_neg c45, if_neg c112, if_neg c109, if_pos c114, if_pos d1, if_neg d2])
    · exact bad (a + 1) (by unfold oeN; rw [if_neg c43, if_neg c45, if_neg c112, if_neg c109, if_pos c114, if_neg d1])
  · exact bad a (by unfold oeN; rw [if_neg c43, if_neg c45, if_neg c112, if_neg c109, if_neg c114])
theorem f_ob1 {M : XM} (h : PD1 M len c) {i : Nat} (hi : i < 1000) (hb : i = 0 ∨ ltN c len (i - 1) = 59) : fX2_orderBeginsAt (nI i) M = some (1, M) := by
  unfold fX2_orderBeginsAt
  by_cases c0 : i = 0
  · rw [c0, if_pos (show nI 0 = (0 : Int32) from rfl)]
  · obtain ⟨v, e1, _, e2, _⟩ := f_atN h (i := i - 1) (by omega)
    have hv := hb.resolve_left c0
    rw [if_neg (fun q => c0 ((nI_z (by omega)).mp q)), show nI i - 1 = nI (i - 1) from pk_sub (b := 1) (by omega), e1, zi_ok, e2 (by omega), hv, if_pos (show nI 59 = (59 : Int32) from rfl)]
theorem f_ob0 {M : XM} (h : PD1 M len c) {i : Nat} (hi : i < 1000) (h0 : 0 < i) (hb : ltN c len (i - 1) ≠ 59 ∧ ltN c len (i - 1) ≠ 0) : fX2_orderBeginsAt (nI i) M = some (0, M) := by
  obtain ⟨v, e1, e31, e2, _⟩ := f_atN h (i := i - 1) (by omega)
  unfold fX2_orderBeginsAt
  rw [if_neg (fun q => by have := (nI_z (by omega)).mp q; omega), show nI i - 1 = nI (i - 1) from pk_sub (b := 1) (by omega), e1, zi_ok, if_neg (show ¬ nI v = (59 : Int32) from nne (m := 59) e31 (by decide) (by rw [e2 hb.2]; exact hb.1))]
theorem f_skip {M : XM} (h : PD1 M len c) {x : Int32} : ∀ (d n i : Nat), 0 < i → i + d ≤ len → (∀ j, i ≤ j → j < i + d → ltN c len (j - 1) ≠ 59 ∧ ltN c len (j - 1) ≠ 0) → fX8_carryOut_30 (n + d) x (nI i) M = fX8_carryOut_30 n x (nI (i + d)) M := by
  have hl := h.1
  intro d
  induction d with
  | zero => intro n i _ _ _; rfl
  | succ d ih =>
    intro n i h0 h1 h2
    show fX8_carryOut_30 ((n + d) + 1) x (nI i) M = _
    rw [fX8_carryOut_30, h.2.1, if_neg (by rw [nI_leI (by omega) (by omega)]; omega), f_ob0 h (by omega) h0 (h2 i (Nat.le_refl _) (by omega)), zi_ok, if_pos rfl, nI_1, ih n (i + 1) (by omega) (by omega) (fun j a b => h2 j (by omega) (by omega))]
    congr 2
    omega
def crG (L : Nat → Nat) : Nat → Nat → Nat → (Nat → Int32) → Nat × (Nat → Int32)
  | 0, _, n, f => (n, f)
  | K + 1, a, n, f => if orB L f a = true then crG L K ((oeN L a).2 + 1) (n + 1) (orG L f a) else (n, f)
theorem crG_le {L : Nat → Nat} : ∀ (K a n : Nat) (f : Nat → Int32), (crG L K a n f).1 ≤ n + K := by
  intro K
  induction K with
  | zero => intro a n f; exact Nat.le_refl _
  | succ K ih =>
    intro a n f
    unfold crG
    by_cases q : orB L f a = true
    · rw [if_pos q]
      have := ih ((oeN L a).2 + 1) (n + 1) (orG L f a)
      omega
    · rw [if_neg q]
      show n ≤ _
      omega
theorem crG_ok {L : Nat → Nat} {len : Nat} : ∀ (K a n : Nat) (f : Nat → Int32), gok f → (K = 0 ∨ Chn L len K a) → gok (crG L K a n f).2 := by
  intro K
  induction K with
  | zero => intro a n f h _; exact h
  | succ K ih =>
    intro a n f h hc
    obtain ⟨hw, hr⟩ : (oeN L a).1 = true ∧ ((K = 0 ∧ len ≤ (oeN L a).2) ∨ ((oeN L a).2 < len ∧ L (oeN L a).2 = 59 ∧ Chn L len K ((oeN L a).2 + 1))) := hc.resolve_left (by omega)
    unfold crG
    by_cases q : orB L f a = true
    · rw [if_pos q]
      exact ih _ _ _ (orG_ok h hw q) (by
        rcases hr with r | r
        · exact Or.inl r.1
        · exact Or.inr r.2.2)
    · rw [if_neg q]
      exact h
def crF (r : Int32) (X : XM) : Option (Int32 × XM) := zl (xup X 20 0 0) (fun X_2 => zi (fX8_recorded r X_2) (fun r_5 X_4 => some (r_5, X_4)))
theorem f_carry : ∀ (K a n N : Nat) (f : Nat → Int32) (M : XM), PD1 M len c → M 0 = f → gok f → SIn M → a ≤ len → len < a + N → (a = 0 ∨ ltN c len (a - 1) = 59) → Chn (ltN c len) len K a →
    ∃ M', fX8_carryOut_30 N (nI n) (nI a) M = crF (nI (crG (ltN c len) K a n f).1) M' ∧ M' 0 = (crG (ltN c len) K a n f).2 ∧ SIn M' ∧ ∀ r, r ≠ 0 → r ≠ 13 → r ≠ 14 → r ≠ 15 → r ≠ 17 → M' r = M r := by
  intro K
  induction K with
  | zero => intro a n N f M _ _ _ _ _ _ _ hc; exact absurd hc (fun q => q)
  | succ K ih =>
    intro a n N f M hP h0 h S h1 h2 hb hc
    have hl := hP.1
    obtain ⟨hw, hr⟩ : (oeN (ltN c len) a).1 = true ∧ ((K = 0 ∧ len ≤ (oeN (ltN c len) a).2) ∨ ((oeN (ltN c len) a).2 < len ∧ ltN c len (oeN (ltN c len) a).2 = 59 ∧ Chn (ltN c len) len K ((oeN (ltN c len) a).2 + 1))) := hc
    have hup := oe_up (ltN c len) a
    have hin := oe_in hw
    have u3 := hup.2.2 hw
    have la : a < len := lt_pos u3.2
    generalize he : (oeN (ltN c len) a).2 = e at *
    have ele : e ≤ len := by
      have := lt_pos (hin (e - 1) (by omega) (by omega)).2
      omega
    obtain ⟨N, rfl⟩ : ∃ q, N = q + 1 := ⟨N - 1, by omega⟩
    obtain ⟨r, M', m1, m2, m3, m4, m5⟩ := f_order hP h0 h S (a := a) (by omega) hw
    have hP' : PD1 M' len c := by
      obtain ⟨a1, a2, a3, a4⟩ := hP
      exact ⟨a1, by rw [m5 20 (by decide) (by decide) (by decide) (by decide) (by decide)]; exact a2, by rw [m5 22 (by decide) (by decide) (by decide) (by decide) (by decide)]; exact a3, fun i hi => by rw [m5 21 (by decide) (by decide) (by decide) (by decide) (by decide), m5 28 (by decide) (by decide) (by decide) (by decide) (by decide)]; exact a4 i hi⟩
    rw [fX8_carryOut_30, hP.2.1, if_neg (by rw [nI_leI (by omega) (by omega)]; omega), f_ob1 hP (by omega) hb, zi_ok, if_neg i10, m1, zi_ok]
    unfold crG
    by_cases q : orB (ltN c len) f a = true
    · have r0 : ¬ r < 0 := fun w => by rw [m2.1 w] at q; exact absurd q Bool.false_ne_true
      rw [if_pos q] at m3
      rw [if_pos (Int32.not_lt.1 r0), if_pos q, nI_1, nI_1, he]
      rcases hr with ⟨k0, hlen⟩ | ⟨hlt, h59, hch⟩
      · have ee : e = len := by omega
        subst k0
        obtain ⟨N2, rfl⟩ : ∃ q, N = q + 1 + (e - (a + 1)) := ⟨N - 1 - (e - (a + 1)), by omega⟩
        rw [f_skip hP' (e - (a + 1)) (N2 + 1) (a + 1) (by omega) (by omega) (fun j b1 b2 => hin (j - 1) (by omega) (by omega)), show a + 1 + (e - (a + 1)) = len by omega, fX8_carryOut_30, hP'.2.1, if_pos (by rw [nI_leI (by omega) (by omega)]; omega)]
        exact ⟨M', rfl, m3, m4, m5⟩
      · obtain ⟨N2, rfl⟩ : ∃ q, N = q + (e - a) := ⟨N - (e - a), by omega⟩
        rw [f_skip hP' (e - a) N2 (a + 1) (by omega) (by omega) (fun j b1 b2 => hin (j - 1) (by omega) (by omega)), show a + 1 + (e - a) = e + 1 by omega]
        obtain ⟨M2, k1, k2, k3, k4⟩ := ih (e + 1) (n + 1) N2 (orG (ltN c len) f a) M' hP' m3 (orG_ok h hw q) m4 (by omega) (by omega) (Or.inr h59) hch
        exact ⟨M2, k1, k2, k3, fun r a1 a2 a3 a4 a5 => by rw [k4 r a1 a2 a3 a4 a5, m5 r a1 a2 a3 a4 a5]⟩
    · have r0 : r < 0 := m2.2 (Bool.eq_false_iff.mpr q)
      rw [if_neg q] at m3
      rw [if_neg (Int32.not_le.2 r0), if_neg q]
      exact ⟨M', rfl, m3, m4, m5⟩
theorem q_carry (h31 : ∀ i, ltN c len i < 2 ^ 31) : ∀ (K a k N : Nat) (f : Nat → Int32) (V : XM), (K = 0 ∨ Chn (ltN c len) len K a) → V 22 5 = nI (k + K) → OrT (ltN c len) (V 32) K k a → k + K ≤ 41 → K < N → V 23 = f → gok f →
    ∃ V', fX9_carryOut_28 N (nI k) V = some (nI (crG (ltN c len) K a k f).1, V') ∧ V' 23 = (crG (ltN c len) K a k f).2 ∧ ∀ r, r ≠ 23 → r ≠ 29 → r ≠ 30 → V' r = V r := by
  intro K
  induction K with
  | zero =>
    intro a k N f V _ h5 _ hk hN h0 h
    obtain ⟨N, rfl⟩ : ∃ q, N = q + 1 := ⟨N - 1, by omega⟩
    rw [fX9_carryOut_28, h5, Nat.add_zero, if_pos (by rw [nI_leI (by omega) (by omega)]; omega)]
    exact ⟨V, rfl, h0, fun r _ _ _ => rfl⟩
  | succ K ih =>
    intro a k N f V hc h5 hO hk hN h0 h
    obtain ⟨hw, hr⟩ : (oeN (ltN c len) a).1 = true ∧ ((K = 0 ∧ len ≤ (oeN (ltN c len) a).2) ∨ ((oeN (ltN c len) a).2 < len ∧ ltN c len (oeN (ltN c len) a).2 = 59 ∧ Chn (ltN c len) len K ((oeN (ltN c len) a).2 + 1))) := hc.resolve_left (by omega)
    obtain ⟨hD, hO2⟩ : (∀ j, j < 4 → V 32 (4 * k + j) = odN (ltN c len) a j) ∧ OrT (ltN c len) (V 32) K (k + 1) ((oeN (ltN c len) a).2 + 1) := hO
    obtain ⟨N, rfl⟩ : ∃ q, N = q + 1 := ⟨N - 1, by omega⟩
    obtain ⟨r, r1, r2, r3⟩ := q_order h31 h0 h (k := k) (by omega) hw hD
    rw [fX9_carryOut_28, h5, if_neg (by rw [nI_leI (by omega) (by omega)]; omega), show (4 : Int32) * nI k = nI (4 * k) from pk_mul 4 k, r1, zi_ok]
    unfold crG
    by_cases q : orB (ltN c len) f a = true
    · obtain ⟨V1, v1, v2, v3⟩ := r3 q
      rw [if_pos (r2.2 q), if_pos q, v1, zv_ok, nI_1]
      obtain ⟨V2, w1, w2, w3⟩ := ih ((oeN (ltN c len) a).2 + 1) (k + 1) N (orG (ltN c len) f a) V1 (by
        rcases hr with s | s
        · exact Or.inl s.1
        · exact Or.inr s.2.2) (by rw [v3 22 (by decide) (by decide) (by decide), h5]; congr 1; omega) (by rw [v3 32 (by decide) (by decide) (by decide)]; exact hO2) (by omega) (by omega) v2 (orG_ok h hw q)
      exact ⟨V2, w1, w2, fun r a b d => by rw [w3 r a b d, v3 r a b d]⟩
    · rw [if_neg (fun w => q (r2.1 w)), if_neg q]
      exact ⟨V, rfl, h0, fun r _ _ _ => rfl⟩
theorem Chn_one {L : Nat → Nat} {len : Nat} : ∀ (K J a : Nat), Chn L len K a → Chn L len J a → K = J := by
  intro K
  induction K with
  | zero => intro J a h _; exact absurd h (fun q => q)
  | succ K ih =>
    intro J a h g
    match J, g with
    | 0, g => exact absurd g (fun q => q)
    | J + 1, g =>
      obtain ⟨_, h2⟩ : (oeN L a).1 = true ∧ ((K = 0 ∧ len ≤ (oeN L a).2) ∨ ((oeN L a).2 < len ∧ L (oeN L a).2 = 59 ∧ Chn L len K ((oeN L a).2 + 1))) := h
      obtain ⟨_, g2⟩ : (oeN L a).1 = true ∧ ((J = 0 ∧ len ≤ (oeN L a).2) ∨ ((oeN L a).2 < len ∧ L (oeN L a).2 = 59 ∧ Chn L len J ((oeN L a).2 + 1))) := g
      rcases h2 with ⟨p1, p2⟩ | ⟨p1, p2, p3⟩
      · rcases g2 with ⟨r1, r2⟩ | ⟨r1, r2, r3⟩
        · omega
        · omega
      · rcases g2 with ⟨r1, r2⟩ | ⟨r1, r2, r3⟩
        · omega
        · rw [ih J _ p3 r3]
theorem op_carryOut {X : XM} (I : Base X) (S : SIn X) : ∃ r X1 X2, fX8_carryOut X = some (r, X1) ∧ fX9_carryOut X1 = some (r, X2) ∧ Base X2 ∧ SIn X2 ∧ K89 X X2 := by
  obtain ⟨len, c, hP⟩ := pad_chars I
  have hl := hP.1
  have hfu := fuel_ge
  have pd2 : ∀ Y : XM, Y 22 = X 22 → Y 28 = X 28 → PD2 (srw Y 22 (upd (Y 22) 0 0)) len c := by
    intro Y e1 e2
    obtain ⟨h1, h2, h3, h4⟩ := hP
    exact ⟨h1, by rw [srw_s, pk_un (by decide), e1]; exact h3, fun i hi => by rw [srw_n (by decide), e2]; exact ⟨(h4 i hi).1, (h4 i hi).2.1, (h4 i hi).2.2.2⟩⟩
  by_cases cf : prN (ltN c len) len 81 0 = -6
  · have x0 : srw X 1 (X 0) 0 = X 0 := srw_n (by decide)
    have hP1 : PD1 (srw X 1 (X 0)) len c := by
      obtain ⟨h1, h2, h3, h4⟩ := hP
      exact ⟨h1, by rw [srw_n (by decide)]; exact h2, by rw [srw_n (by decide)]; exact h3, fun i hi => by rw [srw_n (by decide), srw_n (by decide)]; exact h4 i hi⟩
    obtain ⟨a0, w0, K, D0, _, z2⟩ := q_reads (pd2 X rfl rfl)
    obtain ⟨b1, b2, _⟩ := z2 cf
    obtain ⟨M, m1, m2, m3, m4⟩ := f_carry K 0 0 fuel (X 0) (srw X 1 (X 0)) hP1 x0 I.g0 (SIn_cong S (fun r _ _ => srw_n (by omega))) (by omega) (by omega) (Or.inl rfl) b2
    have g1 := crG_ok (L := ltN c len) (len := len) K 0 0 (X 0) I.g0 (Or.inr b2)
    have g2 := crG_le (L := ltN c len) K 0 0 (X 0)
    obtain ⟨Y, y1, y2, yW⟩ := rec_gen (M := srw M 20 (upd (M 20) 0 0)) I (by rw [srw_n (by decide), m4 1 (by decide) (by decide) (by decide) (by decide) (by decide), srw_s]) (fun r hr => by rw [srw_n (by omega), m4 r (by omega) (by omega) (by omega) (by omega) (by omega), srw_n (by omega)])
    have yM : ∀ r, r ≠ 11 → (r < 3 ∨ 8 < r) → r ≠ 20 → Y r = M r := fun r a b d => by rw [y2 r a b, srw_n d]
    have yX : ∀ r, r ≠ 11 → (r < 3 ∨ 8 < r) → r ≠ 20 → r ≠ 0 → r ≠ 1 → r ≠ 13 → r ≠ 14 → r ≠ 15 → r ≠ 17 → Y r = X r := fun r a b d e1 e2 e3 e4 e5 e6 => by rw [yM r a b d, m4 r e1 e3 e4 e5 e6, srw_n e2]
    have e22 : Y 22 = X 22 := yX 22 (by decide) (by decide) (by decide) (by decide) (by decide) (by decide) (by decide) (by decide) (by decide)
    have e28 : Y 28 = X 28 := yX 28 (by decide) (by decide) (by decide) (by decide) (by decide) (by decide) (by decide) (by decide) (by decide)
    obtain ⟨a', w', K', D', i1, i2⟩ := q_reads (pd2 Y e22 e28)
    obtain ⟨c1, c2, c3⟩ := i2 cf
    have eK : K' = K := Chn_one K' K 0 c2 b2
    subst eK
    generalize hW : PS (srw Y 22 (upd (Y 22) 0 0)) a' w' K' D' = W at *
    have wr : ∀ r, r ≠ 22 → r ≠ 32 → W r = Y r := fun r p q => by rw [← hW, PS_r p q, srw_n p]
    have w1 : W 22 1 = X 22 1 := by rw [← hW, ← e22]; rfl
    have w2 : W 22 5 = nI K' := by rw [← hW]; rfl
    have w32 : W 32 = D' := by rw [← hW]; exact PS_32
    obtain ⟨Z, z1, z2', z3, zF⟩ := yW W (by rw [wr 23 (by decide) (by decide), yX 23 (by decide) (by decide) (by decide) (by decide) (by decide) (by decide) (by decide) (by decide) (by decide), I.same]) w1 (by rw [wr 25 (by decide) (by decide), yX 25 (by decide) (by decide) (by decide) (by decide) (by decide) (by decide) (by decide) (by decide) (by decide)]) (fun r hr => wr r (by omega) (by omega))
    have z23 : srw Z 22 (upd (Z 22) 2 0) 23 = X 0 := by rw [srw_n (by decide), z2' 23 (by decide) (by decide), wr 23 (by decide) (by decide), yX 23 (by decide) (by decide) (by decide) (by decide) (by decide) (by decide) (by decide) (by decide) (by decide), I.same]
    obtain ⟨V, v1, v2, v3⟩ := q_carry (lt_31 hP) K' 0 0 fuel (X 0) (srw Z 22 (upd (Z 22) 2 0)) (Or.inr c2) (by rw [srw_s, pk_un (by decide), z3 5 (by decide), w2, Nat.zero_add]) (by rw [srw_n (by decide), z2' 32 (by decide) (by decide), w32]; exact c3) (by omega) (by omega) z23 I.g0
    generalize crG (ltN c len) K' 0 0 (X 0) = jg at *
    have vY : ∀ r, r ≠ 23 → r ≠ 29 → r ≠ 30 → r ≠ 22 → r ≠ 25 → r ≠ 32 → V r = Y r := fun r a b d e g i => by rw [v3 r a b d, srw_n e, z2' r g e, wr r e i]
    have n0 : V 0 = jg.2 := by rw [vY 0 (by decide) (by decide) (by decide) (by decide) (by decide) (by decide), yM 0 (by decide) (by decide) (by decide), m2]
    have n1 : V 1 = X 0 := by rw [vY 1 (by decide) (by decide) (by decide) (by decide) (by decide) (by decide), yM 1 (by decide) (by decide) (by decide), m4 1 (by decide) (by decide) (by decide) (by decide) (by decide), srw_s]
    have vX : ∀ r, r ≠ 11 → (r < 3 ∨ 8 < r) → r ≠ 20 → r ≠ 0 → r ≠ 1 → r ≠ 13 → r ≠ 14 → r ≠ 15 → r ≠ 17 → r ≠ 23 → r ≠ 29 → r ≠ 30 → r ≠ 22 → r ≠ 25 → r ≠ 32 → V r = X r := fun r a1 a2 a3 a4 a5 a6 a7 a8 a9 b1 b2 b3 b4 b5 b6 => by rw [vY r b1 b2 b3 b4 b5 b6, yX r a1 a2 a3 a4 a5 a6 a7 a8 a9]
    refine ⟨nI jg.1, Y, V, ?_, ?_, Base.mk2 I (by rw [n0]; exact g1) (by rw [v2, n0]) (zF V (fun r hr => ?_) ?_) (by rw [n1]; exact I.g0.z) (fun r hr => vX r (by omega) (by omega) (by omega) (by omega) (by omega) (by omega) (by omega) (by omega) (by omega) (by omega) (by omega) (by omega) (by omega) (by omega) (by omega)) ?_, SIn_cong m3 (fun r a b => ?_), fun r hr => vX r (by omega) (by omega) (by omega) (by omega) (by omega) (by omega) (by omega) (by omega) (by omega) (by omega) (by omega) (by omega) (by omega) (by omega) (by omega)⟩
    · unfold fX8_carryOut
      rw [f_faultIndex hP, zi_ok, if_pos cf, f_copyFrom (by decide) I.z1 I.g0.z I.g0.b, zv_ok, show fX8_carryOut_30 fuel 0 0 (srw X 1 (X 0)) = _ from m1]
      unfold crF
      rw [zl_ok, xup_eq]
      unfold fX8_recorded
      rw [if_neg (nI_pos (by omega)), y1]
      rfl
    · unfold fX9_carryOut
      rw [zl_ok, xup_eq, i1, zi_ok, if_pos cf, z1, zv_ok, zl_ok, xup_eq]
      exact v1
    · rw [v3 r (by omega) (by omega) (by omega), srw_n (by omega)]
    · rw [v3 22 (by decide) (by decide) (by decide), srw_s, pk_un (by decide)]
    · refine ⟨0, by decide, ?_, ?_, fun i hi => absurd hi (by omega)⟩
      · rw [vY 20 (by decide) (by decide) (by decide) (by decide) (by decide) (by decide), y2 20 (by decide) (by decide), srw_s, pk_us]
        rfl
      · rw [v3 22 (by decide) (by decide) (by decide), srw_s, pk_us]
        rfl
    · rw [vY r (by omega) (by omega) (by omega) (by omega) (by omega) (by omega), yM r (by omega) (by omega) (by omega)]
  · obtain ⟨a', w', K', D', i1, _⟩ := q_reads (pd2 X rfl rfl)
    refine ⟨-3, X, PS (srw X 22 (upd (X 22) 0 0)) a' w' K' D', ?_, ?_, base_aux (base_ask I).1 (fun r a b => PS_r a (by omega)) rfl rfl, SIn_cong S (fun r a b => by rw [PS_r (by omega) (by omega), srw_n (by omega)]), fun r hr => by rw [PS_r (by omega) (by omega), srw_n (by omega)]⟩
    · unfold fX8_carryOut
      rw [f_faultIndex hP, zi_ok, if_neg cf]
    · unfold fX9_carryOut
      rw [zl_ok, xup_eq, i1, zi_ok, if_neg cf]
end CY
