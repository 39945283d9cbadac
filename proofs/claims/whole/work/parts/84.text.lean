/-! A TEXT, purely: its orders and its fault -/
section TX
def dgB (n : Nat) : Bool := decide (48 ≤ n) && decide (n ≤ 57)
def ltN (c : Nat → Nat) (len i : Nat) : Nat := if i < len then c i else 0
/-- an order that begins at a: whether it is well, and where it ends or fails -/
def oeN (L : Nat → Nat) (a : Nat) : Bool × Nat :=
  if L a = 43 then
    (if dgB (L (a + 1)) = true then
      (if L (a + 1 + 1) = 119 then
        (if dgB (L (a + 1 + 1 + 1)) = true then (if L (a + 1 + 1 + 1 + 1) = 33 then (true, a + 1 + 1 + 1 + 1 + 1) else (true, a + 1 + 1 + 1 + 1)) else (false, a + 1 + 1 + 1))
      else if L (a + 1 + 1) = 33 then (true, a + 1 + 1 + 1) else (true, a + 1 + 1))
    else (false, a + 1))
  else if L a = 45 then
    (if dgB (L (a + 1)) = true then
      (if L (a + 1 + 1) = 46 then (if dgB (L (a + 1 + 1 + 1)) = true then (true, a + 1 + 1 + 1 + 1) else (false, a + 1 + 1 + 1)) else (false, a + 1 + 1))
    else (false, a + 1))
  else if L a = 112 then (true, a + 1)
  else if L a = 109 then (true, a + 1)
  else if L a = 114 then
    (if dgB (L (a + 1)) = true then (if dgB (L (a + 1 + 1)) = true then (true, a + 1 + 1 + 1) else (false, a + 1 + 1)) else (false, a + 1))
  else (false, a)
/-- the fault of the text, from an order's place on -/
def prN (L : Nat → Nat) (len : Nat) : Nat → Nat → Int32
  | 0, _ => -6
  | n + 1, a => if (oeN L a).1 = true then (if len ≤ (oeN L a).2 then -6 else if L (oeN L a).2 = 59 then prN L len n ((oeN L a).2 + 1) else nI (oeN L a).2) else nI (oeN L a).2
theorem nne {n m : Nat} (hn : n < 2 ^ 31) (hm : m < 2 ^ 31) (h : n ≠ m) : ¬ nI n = nI m := fun q => h (nI_inj (by omega) (by omega) q)
theorem dgI {n : Nat} {v : Int32} (hn : n < 2 ^ 31) : (if nI n < 48 then 0 else if 57 < nI n then 0 else v) = if dgB n = true then v else 0 := by
  unfold dgB
  have e1 : nI n < 48 ↔ n < 48 := nI_ltI (b := 48) hn (by decide)
  have e2 : 57 < nI n ↔ 57 < n := nI_ltI (a := 57) (by decide) hn
  by_cases c : n < 48
  · rw [if_pos (e1.2 c), decide_eq_false (by omega), Bool.false_and, if_neg Bool.false_ne_true]
  · rw [if_neg (fun q => c (e1.1 q)), decide_eq_true (show 48 ≤ n by omega), Bool.true_and]
    by_cases d : 57 < n
    · rw [if_pos (e2.2 d), decide_eq_false (by omega), if_neg Bool.false_ne_true]
    · rw [if_neg (fun q => d (e2.1 q)), decide_eq_true (show n ≤ 57 by omega), if_pos rfl]
theorem pb1 {a : Int32} : pbI 1 a = (if a = 43 then 2 else if a = 45 then 6 else if a = 114 then 8 else if a = 112 then 10 else if a = 109 then 10 else 0) := rfl
theorem pb2 {a : Int32} : pbI 2 a = (if a < 48 then 0 else if 57 < a then 0 else 3) := rfl
theorem pb3 {a : Int32} : pbI 3 a = (if a = 119 then 4 else if a = 33 then 10 else if a = 59 then 1 else 0) := rfl
theorem pb4 {a : Int32} : pbI 4 a = (if a < 48 then 0 else if 57 < a then 0 else 5) := rfl
theorem pb5 {a : Int32} : pbI 5 a = (if a = 33 then 10 else if a = 59 then 1 else 0) := rfl
theorem pb6 {a : Int32} : pbI 6 a = (if a < 48 then 0 else if 57 < a then 0 else 7) := rfl
theorem pb7 {a : Int32} : pbI 7 a = (if a = 46 then 9 else 0) := rfl
theorem pb8 {a : Int32} : pbI 8 a = (if a < 48 then 0 else if 57 < a then 0 else 9) := rfl
theorem pb9 {a : Int32} : pbI 9 a = (if a < 48 then 0 else if 57 < a then 0 else 10) := rfl
theorem pb10 {a : Int32} : pbI 10 a = (if a = 59 then 1 else 0) := rfl
variable {X : XM} {len : Nat} {c : Nat → Nat}
theorem lt_31 (h : PD1 X len c) (i : Nat) : ltN c len i < 2 ^ 31 := by
  unfold ltN
  split
  · next hi => have := (h.2.2.2 i hi).2.1; omega
  · decide
theorem lt_pos {i : Nat} (h : ltN c len i ≠ 0) : i < len := by
  unfold ltN at h
  by_cases q : i < len
  · exact q
  · rw [if_neg q] at h; exact absurd rfl h
/-- a step of the states, at a place where the text may not end -/
theorem fi_step (h : PD1 X len c) {s : Int32} {i n : Nat} (hi : i ≤ len) (h10 : s ≠ 10) (h3 : s ≠ 3) (h5 : s ≠ 5) (h0 : pbI s 0 = 0) : fX2_faultIndex_4 (n + 1) s (nI i) X = if pbI s (nI (ltN c len i)) = 0 then some (nI i, X) else fX2_faultIndex_4 n (pbI s (nI (ltN c len i))) (nI (i + 1)) X := by
  have hl := h.1
  rw [fX2_faultIndex_4, h.2.1]
  unfold ltN
  by_cases ci : i < len
  · rw [if_neg (by rw [nI_leI (by omega) (by omega)]; omega), f_at h rfl (by omega), zi_ok, f_placeBehind, zi_ok, if_pos ci, if_pos ci, nI_1]
  · have e : i = len := by omega
    rw [if_pos (by rw [nI_leI (by omega) (by omega)]; omega), if_neg h10, if_neg h3, if_neg h5, if_neg ci, show nI 0 = (0 : Int32) from rfl, if_pos h0, e]
/-- a step where the text may end -/
theorem fi_end (h : PD1 X len c) {s : Int32} {i n : Nat} (hi : i ≤ len) (hs : s = 10 ∨ s = 3 ∨ s = 5) (h33 : s ≠ 10 → ltN c len i ≠ 33) (h119 : s = 3 → ltN c len i ≠ 119) : fX2_faultIndex_4 (n + 1) s (nI i) X = if len ≤ i then some (-6, X) else if ltN c len i = 59 then fX2_faultIndex_4 n 1 (nI (i + 1)) X else some (nI i, X) := by
  have hl := h.1
  have h31 := lt_31 h i
  rw [fX2_faultIndex_4, h.2.1]
  by_cases ci : i < len
  · have e0 : (if i < len then c i else 59) = ltN c len i := by unfold ltN; rw [if_pos ci, if_pos ci]
    rw [if_neg (by rw [nI_leI (by omega) (by omega)]; omega), f_at h rfl (by omega), zi_ok, f_placeBehind, zi_ok, e0, if_neg (show ¬ len ≤ i by omega), nI_1]
    have e : pbI s (nI (ltN c len i)) = if ltN c len i = 59 then 1 else 0 := by
      have e59 : (nI (ltN c len i) = 59) ↔ ltN c len i = 59 := nI_iff (b := 59) (by omega) (by decide)
      have n33 : s ≠ 10 → ¬ nI (ltN c len i) = 33 := fun q => nne (m := 33) h31 (by decide) (h33 q)
      have n119 : s = 3 → ¬ nI (ltN c len i) = 119 := fun q => nne (m := 119) h31 (by decide) (h119 q)
      have fin : (if nI (ltN c len i) = 59 then (1 : Int32) else 0) = if ltN c len i = 59 then 1 else 0 := by
        by_cases d : ltN c len i = 59
        · rw [if_pos (e59.2 d), if_pos d]
        · rw [if_neg (fun q => d (e59.1 q)), if_neg d]
      rcases hs with q | q | q
      · rw [q, pb10]; exact fin
      · have n1 := n33 (by rw [q]; decide)
        have n2 := n119 q
        rw [q, pb3, if_neg n2, if_neg n1]; exact fin
      · have n1 := n33 (by rw [q]; decide)
        rw [q, pb5, if_neg n1]; exact fin
    rw [e]
    by_cases d : ltN c len i = 59
    · rw [if_pos d, if_neg i10, if_pos d]
    · rw [if_neg d, if_pos rfl, if_neg d]
  · rw [if_pos (by rw [nI_leI (by omega) (by omega)]; omega), if_pos (show len ≤ i by omega)]
    rcases hs with q | q | q
    · rw [if_pos q]
    · rw [q, if_neg (by decide), if_pos rfl]
    · rw [q, if_neg (by decide), if_neg (by decide), if_pos rfl]
theorem f_fault_4 (h : PD1 X len c) : ∀ (m a n : Nat), a ≤ len → len < a + m → 6 * m ≤ n → fX2_faultIndex_4 n 1 (nI a) X = some (prN (ltN c len) len m a, X) := by
  intro m
  induction m with
  | zero => intro a n h1 h2; omega
  | succ m ih =>
    intro a n h1 h2 hn
    have hl := h.1
    obtain ⟨k, rfl⟩ : ∃ k, n = k + 1 + 1 + 1 + 1 + 1 + 1 := ⟨n - 6, by omega⟩
    have z : ∀ i, ltN c len i < 2 ^ 31 := lt_31 h
    have hp : ∀ i, ltN c len i ≠ 0 → i < len := fun i q => lt_pos q
    have tail : ∀ (e j : Nat) (s : Int32), (oeN (ltN c len) a) = (true, e) → e ≤ len → a < e → 6 * m ≤ j → (s = 10 ∨ s = 3 ∨ s = 5) → (s ≠ 10 → ltN c len e ≠ 33) → (s = 3 → ltN c len e ≠ 119) → fX2_faultIndex_4 (j + 1) s (nI e) X = some (prN (ltN c len) len (m + 1) a, X) := by
      intro e j s he h3 h4 h5 h6 h7 h8
      rw [fi_end h h3 h6 h7 h8, prN, he]
      show _ = some (if true = true then _ else _, X)
      rw [if_pos rfl]
      by_cases d : len ≤ e
      · rw [if_pos d, if_pos d]
      · rw [if_neg d, if_neg d]
        by_cases g : ltN c len e = 59
        · rw [if_pos g, if_pos g]
          exact ih (e + 1) j (by omega) (by omega) h5
        · rw [if_neg g, if_neg g]
    have bad : ∀ e : Nat, (oeN (ltN c len) a) = (false, e) → prN (ltN c len) len (m + 1) a = nI e := by
      intro e he
      rw [prN, he]
      exact if_neg Bool.false_ne_true
    have dg0 : ∀ i, dgB (ltN c len i) = true → i < len := fun i q => hp i (fun w => by rw [w] at q; exact absurd q (by decide))
    rw [fi_step h h1 (by decide) (by decide) (by decide) (by decide), pb1]
    by_cases c43 : ltN c len a = 43
    · have la := hp a (by omega)
      rw [c43, if_pos (show nI 43 = (43 : Int32) from rfl), if_neg (by decide), fi_step h (by omega) (by decide) (by decide) (by decide) (by decide), pb2, dgI (z _)]
      by_cases d1 : dgB (ltN c len (a + 1)) = true
      · have l1 := dg0 _ d1
        rw [if_pos d1, if_neg (by decide)]
        by_cases s2 : ltN c len (a + 1 + 1) = 119
        · have l2 := hp _ (show ltN c len (a + 1 + 1) ≠ 0 by omega)
          have e3 : ltN c len (a + 1 + 1) = c (a + 1 + 1) := if_pos l2
          rw [fX2_faultIndex_4, h.2.1, if_neg (by rw [nI_leI (by omega) (by omega)]; omega), f_at h rfl (by omega), zi_ok, f_placeBehind, zi_ok, if_pos l2, ← e3, s2, show pbI 3 (nI 119) = 4 from by decide, if_neg (by decide), nI_1, fi_step h (by omega) (by decide) (by decide) (by decide) (by decide), pb4, dgI (z _)]
          by_cases d3 : dgB (ltN c len (a + 1 + 1 + 1)) = true
          · have l3 := dg0 _ d3
            rw [if_pos d3, if_neg (by decide)]
            by_cases s4 : ltN c len (a + 1 + 1 + 1 + 1) = 33
            · have l4 := hp _ (show ltN c len (a + 1 + 1 + 1 + 1) ≠ 0 by omega)
              have e5 : ltN c len (a + 1 + 1 + 1 + 1) = c (a + 1 + 1 + 1 + 1) := if_pos l4
              rw [fX2_faultIndex_4, h.2.1, if_neg (by rw [nI_leI (by omega) (by omega)]; omega), f_at h rfl (by omega), zi_ok, f_placeBehind, zi_ok, if_pos l4, ← e5, s4, show pbI 5 (nI 33) = 10 from by decide, if_neg (by decide), nI_1]
              exact tail _ _ 10 (by unfold oeN; rw [if_pos c43, if_pos d1, if_pos s2, if_pos d3, if_pos s4]) (by omega) (by omega) (by omega) (Or.inl rfl) (fun q => absurd rfl q) (fun q => absurd q (by decide))
            · exact tail _ _ 5 (by unfold oeN; rw [if_pos c43, if_pos d1, if_pos s2, if_pos d3, if_neg s4]) (by omega) (by omega) (by omega) (Or.inr (Or.inr rfl)) (fun _ => s4) (fun q => absurd q (by decide))
          · rw [if_neg d3, if_pos rfl, bad _ (by unfold oeN; rw [if_pos c43, if_pos d1, if_pos s2, if_neg d3])]
        · by_cases s3 : ltN c len (a + 1 + 1) = 33
          · have l2 := hp _ (show ltN c len (a + 1 + 1) ≠ 0 by omega)
            have e3 : ltN c len (a + 1 + 1) = c (a + 1 + 1) := if_pos l2
            rw [fX2_faultIndex_4, h.2.1, if_neg (by rw [nI_leI (by omega) (by omega)]; omega), f_at h rfl (by omega), zi_ok, f_placeBehind, zi_ok, if_pos l2, ← e3, s3, show pbI 3 (nI 33) = 10 from by decide, if_neg (by decide), nI_1]
            exact tail _ _ 10 (by unfold oeN; rw [if_pos c43, if_pos d1, if_neg s2, if_pos s3]) (by omega) (by omega) (by omega) (Or.inl rfl) (fun q => absurd rfl q) (fun q => absurd q (by decide))
          · exact tail _ _ 3 (by unfold oeN; rw [if_pos c43, if_pos d1, if_neg s2, if_neg s3]) (by omega) (by omega) (by omega) (Or.inr (Or.inl rfl)) (fun _ => s3) (fun _ => s2)
      · rw [if_neg d1, if_pos rfl, bad _ (by unfold oeN; rw [if_pos c43, if_neg d1])]
    rw [if_neg (show ¬ nI (ltN c len a) = (43 : Int32) from nne (m := 43) (z a) (by decide) c43)]
    by_cases c45 : ltN c len a = 45
    · have la := hp a (by omega)
      rw [c45, if_pos (show nI 45 = (45 : Int32) from rfl), if_neg (by decide), fi_step h (by omega) (by decide) (by decide) (by decide) (by decide), pb6, dgI (z _)]
      by_cases d1 : dgB (ltN c len (a + 1)) = true
      · have l1 := dg0 _ d1
        rw [if_pos d1, if_neg (by decide), fi_step h (by omega) (by decide) (by decide) (by decide) (by decide), pb7]
        by_cases s2 : ltN c len (a + 1 + 1) = 46
        · have l2 := hp _ (show ltN c len (a + 1 + 1) ≠ 0 by omega)
          rw [s2, if_pos (show nI 46 = (46 : Int32) from rfl), if_neg (by decide), fi_step h (by omega) (by decide) (by decide) (by decide) (by decide), pb9, dgI (z _)]
          by_cases d3 : dgB (ltN c len (a + 1 + 1 + 1)) = true
          · have l3 := dg0 _ d3
            rw [if_pos d3, if_neg (by decide)]
            exact tail _ _ 10 (by unfold oeN; rw [if_neg c43, if_pos c45, if_pos d1, if_pos s2, if_pos d3]) (by omega) (by omega) (by omega) (Or.inl rfl) (fun q => absurd rfl q) (fun q => absurd q (by decide))
          · rw [if_neg d3, if_pos rfl, bad _ (by unfold oeN; rw [if_neg c43, if_pos c45, if_pos d1, if_pos s2, if_neg d3])]
        · rw [if_neg (show ¬ nI (ltN c len (a + 1 + 1)) = (46 : Int32) from nne (m := 46) (z _) (by decide) s2), if_pos rfl, bad _ (by unfold oeN; rw [if_neg c43, if_pos c45, if_pos d1, if_neg s2])]
      · rw [if_neg d1, if_pos rfl, bad _ (by unfold oeN; rw [if_neg c43, if_pos c45, if_neg d1])]
    rw [if_neg (show ¬ nI (ltN c len a) = (45 : Int32) from nne (m := 45) (z a) (by decide) c45)]
    by_cases c114 : ltN c len a = 114
    · have la := hp a (by omega)
      have n112 : ¬ ltN c len a = 112 := by omega
      have n109 : ¬ ltN c len a = 109 := by omega
      rw [c114, if_pos (show nI 114 = (114 : Int32) from rfl), if_neg (by decide), fi_step h (by omega) (by decide) (by decide) (by decide) (by decide), pb8, dgI (z _)]
      by_cases d1 : dgB (ltN c len (a + 1)) = true
      · have l1 := dg0 _ d1
        rw [if_pos d1, if_neg (by decide), fi_step h (by omega) (by decide) (by decide) (by decide) (by decide), pb9, dgI (z _)]
        by_cases d2 : dgB (ltN c len (a + 1 + 1)) = true
        · have l2 := dg0 _ d2
          rw [if_pos d2, if_neg (by decide)]
          exact tail _ _ 10 (by unfold oeN; rw [if_neg c43, if_neg c45, if_neg n112, if_neg n109, if_pos c114, if_pos d1, if_pos d2]) (by omega) (by omega) (by omega) (Or.inl rfl) (fun q => absurd rfl q) (fun q => absurd q (by decide))
        · rw [if_neg d2, if_pos rfl, bad _ (by unfold oeN; rw [if_neg c43, if_neg c45, if_neg n112, if_neg n109, if_pos c114, if_pos d1, if_neg d2])]
      · rw [if_neg d1, if_pos rfl, bad _ (by unfold oeN; rw [if_neg c43, if_neg c45, if_neg n112, if_neg n109, if_pos c114, if_neg d1])]
    rw [if_neg (show ¬ nI (ltN c len a) = (114 : Int32) from nne (m := 114) (z a) (by decide) c114)]
    by_cases c112 : ltN c len a = 112
    · have la := hp a (by omega)
      rw [c112, if_pos (show nI 112 = (112 : Int32) from rfl), if_neg (by decide)]
      exact tail _ _ 10 (by unfold oeN; rw [if_neg c43, if_neg c45, if_pos c112]) (by omega) (by omega) (by omega) (Or.inl rfl) (fun q => absurd rfl q) (fun q => absurd q (by decide))
    rw [if_neg (show ¬ nI (ltN c len a) = (112 : Int32) from nne (m := 112) (z a) (by decide) c112)]
    by_cases c109 : ltN c len a = 109
    · have la := hp a (by omega)
      rw [c109, if_pos (show nI 109 = (109 : Int32) from rfl), if_neg (by decide)]
      exact tail _ _ 10 (by unfold oeN; rw [if_neg c43, if_neg c45, if_neg c112, if_pos c109]) (by omega) (by omega) (by omega) (Or.inl rfl) (fun q => absurd rfl q) (fun q => absurd q (by decide))
    rw [if_neg (show ¬ nI (ltN c len a) = (109 : Int32) from nne (m := 109) (z a) (by decide) c109), if_pos rfl, bad _ (by unfold oeN; rw [if_neg c43, if_neg c45, if_neg c112, if_neg c109, if_neg c114])]
theorem f_faultIndex (h : PD1 X len c) : fX2_faultIndex X = some (prN (ltN c len) len 81 0, X) := by
  unfold fX2_faultIndex
  exact f_fault_4 h 81 0 fuel (by omega) (by have := h.1; omega) (by have := fuel_ge; omega)
end TX
