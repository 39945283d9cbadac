/-! WHAT STANDS BETWEEN TWO OPERATIONS, solver and sizes aside -/
section BS
def BHist (X : XM) : Prop := ∃ n C, HC X n C ∧ HM X n C ∧ ∀ j, j < n → gok (C j)
def BSlot (X : XM) : Prop := ∀ w, w < 2 → X 12 w = X 27 w ∧ (X 12 w = 0 ∨ (X 12 w = 1 ∧ gok (X (9 + w)) ∧ ∀ k, k < 27 → X 26 (27 * w + k) = X (9 + w) k))
def BPad (X : XM) : Prop := ∃ len, len ≤ 80 ∧ X 20 0 = nI len ∧ X 22 2 = nI len ∧ ∀ i, i < len → ∃ c, 33 ≤ c ∧ c ≤ 126 ∧ X 21 i = nI c ∧ X 28 i = nI c
def Base (X : XM) : Prop := gok (X 0) ∧ X 23 = X 0 ∧ BHist X ∧ z27 (X 1) ∧ z27 (X 2) ∧ (∀ w, w < 2 → z27 (X (9 + w))) ∧ BSlot X ∧ BPad X
theorem Base.g0 {X : XM} (h : Base X) : gok (X 0) := h.1
theorem Base.same {X : XM} (h : Base X) : X 23 = X 0 := h.2.1
theorem Base.hist {X : XM} (h : Base X) : ∃ n C, HC X n C ∧ HM X n C ∧ ∀ j, j < n → gok (C j) := h.2.2.1
theorem Base.z1 {X : XM} (h : Base X) : z27 (X 1) := h.2.2.2.1
theorem Base.z2 {X : XM} (h : Base X) : z27 (X 2) := h.2.2.2.2.1
theorem Base.z9 {X : XM} (h : Base X) : ∀ w, w < 2 → z27 (X (9 + w)) := h.2.2.2.2.2.1
theorem Base.slots {X : XM} (h : Base X) : ∀ w, w < 2 → X 12 w = X 27 w ∧ (X 12 w = 0 ∨ (X 12 w = 1 ∧ gok (X (9 + w)) ∧ ∀ k, k < 27 → X 26 (27 * w + k) = X (9 + w) k)) := h.2.2.2.2.2.2.1
theorem Base.pad {X : XM} (h : Base X) : ∃ len, len ≤ 80 ∧ X 20 0 = nI len ∧ X 22 2 = nI len ∧ ∀ i, i < len → ∃ c, 33 ≤ c ∧ c ≤ 126 ∧ X 21 i = nI c ∧ X 28 i = nI c := h.2.2.2.2.2.2.2
def Kp (X Y : XM) : Prop := ∀ r, 13 ≤ r → r ≤ 19 → Y r = X r
theorem HC_cong {X Y : XM} {n : Nat} {C : Nat → Nat → Int32} (h : HC X n C) (e : ∀ r, r = 11 ∨ (3 ≤ r ∧ r ≤ 8) → Y r = X r) : HC Y n C := by
  obtain ⟨h1, h2, h3, h4, h5, h6⟩ := h
  have eg : ∀ j, gid Y j = gid X j := fun j => by unfold gid; rw [e 11 (Or.inl rfl)]
  refine ⟨h1, by rw [e 11 (Or.inl rfl)]; exact h2, fun j hj => by rw [eg]; exact h3 j hj, fun i j hi hj q => h4 i j hi hj (by rw [eg, eg] at q; exact q), fun r a b => by rw [e r (Or.inr ⟨a, b⟩)]; exact h5 r a b, fun j hj => ?_⟩
  have := h3 j (by omega)
  rw [eg, e _ (Or.inr this)]
  exact h6 j hj
theorem HM_cong {X Y : XM} {n : Nat} {C : Nat → Nat → Int32} (h : HM X n C) (e1 : Y 22 1 = X 22 1) (e2 : Y 25 = X 25) : HM Y n C := by
  obtain ⟨h1, h2⟩ := h
  exact ⟨by rw [e1]; exact h1, by rw [e2]; exact h2⟩
theorem Base.of {X Y : XM} (I : Base X) (g : gok (Y 0)) (s : Y 23 = Y 0) (h : ∃ n C, HC Y n C ∧ HM Y n C ∧ ∀ j, j < n → gok (C j)) (z1 : z27 (Y 1)) (e : ∀ r, r = 2 ∨ r = 9 ∨ r = 10 ∨ r = 12 ∨ r = 20 ∨ r = 21 ∨ r = 26 ∨ r = 27 ∨ r = 28 → Y r = X r) (e2 : Y 22 2 = X 22 2) : Base Y := by
  refine ⟨g, s, h, z1, by rw [e 2 (by decide)]; exact I.z2, fun w hw => by rw [e (9 + w) (by omega)]; exact I.z9 w hw, fun w hw => ?_, ?_⟩
  · rw [e 12 (by decide), e 27 (by decide), e 26 (by decide), e (9 + w) (by omega)]
    exact I.slots w hw
  · unfold BPad
    rw [e 20 (by decide), e 21 (by decide), e 28 (by decide), e2]
    exact I.pad
theorem nn {n : Nat} {x : Int32} (h : xun x ≤ n) (hn : n < 2 ^ 31) : ¬ x < 0 := by
  rw [← nI_xun x]
  exact nI_pos (by omega)
theorem rng {x : Int32} {lo hi : Nat} (hh : hi < 2 ^ 31) (hl : lo ≤ hi) (h1 : ¬ x < nI lo) (h2 : ¬ nI hi < x) : lo ≤ xun x ∧ xun x ≤ hi := by
  rw [Int32.lt_iff_toInt_lt, nI_toInt (by omega)] at h1
  rw [Int32.lt_iff_toInt_lt, nI_toInt (by omega)] at h2
  have e : x.toInt = x.toBitVec.toInt := rfl
  rw [BitVec.toInt_eq_toNat_cond] at e
  have e2 : xun x = x.toBitVec.toNat := rfl
  rw [e2]
  split at e <;> omega
/-- nothing changes but row 1 and the reference's first flag -/
theorem base_ref {X : XM} (I : Base X) : Base (srw (srw X 1 (X 0)) 22 (upd (srw X 1 (X 0) 22) 0 0)) ∧ Kp X (srw (srw X 1 (X 0)) 22 (upd (srw X 1 (X 0) 22) 0 0)) := by
  obtain ⟨n, C, h1, h2, h3⟩ := I.hist
  refine ⟨Base.of I ?_ ?_ ⟨n, C, HC_cong h1 (fun r hr => ?_), HM_cong h2 ?_ ?_, h3⟩ ?_ (fun r hr => ?_) ?_, fun r a b => ?_⟩
  · rw [srw_n (by decide), srw_n (by decide)]; exact I.g0
  · rw [srw_n (by decide), srw_n (by decide), srw_n (by decide), srw_n (by decide)]; exact I.same
  · rw [srw_n (by omega), srw_n (by omega)]
  · rw [srw_s, srw_n (by decide)]; rfl
  · rw [srw_n (by decide), srw_n (by decide)]
  · rw [srw_n (by decide), srw_s]; exact I.g0.z
  · rw [srw_n (by omega), srw_n (by omega)]
  · rw [srw_s, srw_n (by decide)]; rfl
  · rw [srw_n (by omega), srw_n (by omega)]
/-- a question changes the reference's first flag alone -/
theorem base_ask {X : XM} (I : Base X) : Base (srw X 22 (upd (X 22) 0 0)) ∧ Kp X (srw X 22 (upd (X 22) 0 0)) := by
  obtain ⟨n, C, h1, h2, h3⟩ := I.hist
  refine ⟨Base.of I ?_ ?_ ⟨n, C, HC_cong h1 (fun r hr => ?_), HM_cong h2 ?_ ?_, h3⟩ ?_ (fun r hr => ?_) ?_, fun r a b => ?_⟩
  · rw [srw_n (by decide)]; exact I.g0
  · rw [srw_n (by decide), srw_n (by decide)]; exact I.same
  · rw [srw_n (by omega)]
  · rw [srw_s]; rfl
  · rw [srw_n (by decide)]
  · rw [srw_n (by decide)]; exact I.z1
  · rw [srw_n (by omega)]
  · rw [srw_s]; rfl
  · rw [srw_n (by omega)]
theorem pushN_le {n : Nat} : pushN n ≤ 6 := by unfold pushN; split <;> omega
/-- both record the state and go over to f -/
theorem rec_pair {X : XM} (I : Base X) {f : Nat → Int32} (hf : gok f) : ∃ Y, fX1_add 1 (srw (srw X 1 (X 0)) 0 f) = some Y ∧ (∀ r, r ≠ 11 → r ≠ 0 → r ≠ 1 → (r < 3 ∨ 8 < r) → Y r = X r) ∧ Y 0 = f ∧ ∃ Z, fX9_records (srw Y 22 (upd (Y 22) 0 0)) = some Z ∧ Z 23 = X 0 ∧ (∀ r, r ≠ 25 → r ≠ 22 → Z r = Y r) ∧ Base (srw Z 23 f) ∧ Kp X (srw Z 23 f) := by
  obtain ⟨n, C, h1, h2, h3⟩ := I.hist
  have r1 : srw (srw X 1 (X 0)) 0 f 1 = X 0 := by rw [srw_n (by decide), srw_s]
  have h1' : HC (srw (srw X 1 (X 0)) 0 f) n C := HC_cong h1 (fun r hr => by rw [srw_n (by omega), srw_n (by omega)])
  obtain ⟨Y, hY, hc, hr⟩ := f_add h1' (by rw [r1]; exact I.g0.z) (by rw [r1]; exact I.g0.b)
  rw [r1] at hc
  have eY : ∀ r, r ≠ 11 → r ≠ 0 → r ≠ 1 → (r < 3 ∨ 8 < r) → Y r = X r := fun r a b c d => by rw [hr r a d, srw_n b, srw_n c]
  have y0 : Y 0 = f := by rw [hr 0 (by decide) (by decide), srw_s]
  have y1 : Y 1 = X 0 := by rw [hr 1 (by decide) (by decide), r1]
  have h2' : HM (srw Y 22 (upd (Y 22) 0 0)) n C := HM_cong h2 (by rw [srw_s, eY 22 (by decide) (by decide) (by decide) (by decide)]; rfl) (by rw [srw_n (by decide), eY 25 (by decide) (by decide) (by decide) (by decide)])
  obtain ⟨Z, hZ, hm, hz, hz22⟩ := q_records h1.1 h2'
  have e23 : srw Y 22 (upd (Y 22) 0 0) 23 = X 0 := by rw [srw_n (by decide), eY 23 (by decide) (by decide) (by decide) (by decide), I.same]
  rw [e23] at hm
  have eZ : ∀ r, r ≠ 25 → r ≠ 22 → Z r = Y r := fun r a b => by rw [hz r a b, srw_n b]
  have eA : ∀ r, r ≠ 25 → r ≠ 22 → r ≠ 23 → r ≠ 11 → r ≠ 0 → r ≠ 1 → (r < 3 ∨ 8 < r) → srw Z 23 f r = X r := fun r a b c d e g i => by rw [srw_n c, eZ r a b, eY r d e g i]
  refine ⟨Y, hY, eY, y0, Z, hZ, by rw [hz 23 (by decide) (by decide), e23], eZ, Base.of I ?_ ?_ ⟨pushN n, pushC n C (X 0), HC_cong hc (fun r hr => ?_), HM_cong hm ?_ ?_, fun j hj => ?_⟩ ?_ (fun r hr => ?_) ?_, fun r a b => ?_⟩
  · rw [srw_n (by decide), eZ 0 (by decide) (by decide), y0]; exact hf
  · rw [srw_s, srw_n (by decide), eZ 0 (by decide) (by decide), y0]
  · rw [srw_n (by omega), eZ r (by omega) (by omega)]
  · rw [srw_n (by decide)]
  · rw [srw_n (by decide)]
  · unfold pushN at hj
    unfold pushC
    by_cases c : n < 6
    · rw [if_pos c] at hj ⊢
      by_cases d : j = n
      · rw [if_pos d]; exact I.g0
      · rw [if_neg d]; exact h3 j (by omega)
    · rw [if_neg c] at hj ⊢
      by_cases d : j = 5
      · rw [if_pos d]; exact I.g0
      · rw [if_neg d]; exact h3 (j + 1) (by omega)
  · rw [srw_n (by decide), eZ 1 (by decide) (by decide), y1]; exact I.g0.z
  · exact eA r (by omega) (by omega) (by omega) (by omega) (by omega) (by omega) (by omega)
  · rw [srw_n (by decide), hz22 2 (by decide), srw_s, eY 22 (by decide) (by decide) (by decide) (by decide)]; rfl
  · exact eA r (by omega) (by omega) (by omega) (by omega) (by omega) (by omega) (by omega)
theorem cls_rec {X Y : XM} {r : Int32} {f : Nat → Int32} {k : XM → Option (Int32 × XM)} (I : Base X) (hk : k (srw X 1 (X 0)) = some (r, srw (srw X 1 (X 0)) 0 f)) (hr : ¬ r < 0) (hY : fX1_add 1 (srw (srw X 1 (X 0)) 0 f) = some Y) : zv (fX0_copyFrom 1 0 X) (fun X_1 => zi (k X_1) (fun r_4 X_3 => zi (fX8_recorded r_4 X_3) (fun r_7 X_6 => some (r_7, X_6)))) = some (r, Y) := by
  rw [f_copyFrom (by decide) I.z1 I.g0.z I.g0.b, zv_ok, hk, zi_ok]
  unfold fX8_recorded
  rw [if_neg hr, hY]
  rfl
theorem cls_ref {X : XM} {r : Int32} {k : XM → Option (Int32 × XM)} (I : Base X) (hk : k (srw X 1 (X 0)) = some (r, srw X 1 (X 0))) (hr : r < 0) : zv (fX0_copyFrom 1 0 X) (fun X_1 => zi (k X_1) (fun r_4 X_3 => zi (fX8_recorded r_4 X_3) (fun r_7 X_6 => some (r_7, X_6)))) = some (r, srw X 1 (X 0)) := by
  rw [f_copyFrom (by decide) I.z1 I.g0.z I.g0.b, zv_ok, hk, zi_ok]
  unfold fX8_recorded
  rw [if_pos hr]
  rfl
theorem q_inT {X : XM} {a b c : Int32} (h : ¬ a < b) (h2 : ¬ c < a) : fX9_in a b c X = some (1, X) := by rw [q_in, if_neg (fun q => Or.elim q h h2)]
theorem q_inF {X : XM} {a b c : Int32} (h : a < b ∨ c < a) : fX9_in a b c X = some (0, X) := by rw [q_in, if_pos h]
theorem i10 : ¬ (1 : Int32) = 0 := by decide
theorem op_set {X : XM} (I : Base X) (a1 a2 : Int32) : ∃ r X1 X2, fX8_set a1 a2 X = some (r, X1) ∧ fX9_set a1 a2 X1 = some (r, X2) ∧ Base X2 ∧ Kp X X2 := by
  have no : ∀ (hk : fX8_changeSetting a1 a2 (srw X 1 (X 0)) = some (-2, srw X 1 (X 0))) (hq : fX9_set a1 a2 (srw X 1 (X 0)) = some (-2, srw (srw X 1 (X 0)) 22 (upd (srw X 1 (X 0) 22) 0 0))), ∃ r X1 X2, fX8_set a1 a2 X = some (r, X1) ∧ fX9_set a1 a2 X1 = some (r, X2) ∧ Base X2 ∧ Kp X X2 := fun hk hq => ⟨-2, _, _, cls_ref I hk (by decide), hq, (base_ref I).1, (base_ref I).2⟩
  have x0 : srw X 1 (X 0) 0 = X 0 := srw_n (by decide)
  by_cases c0 : a1 = 0
  · by_cases c1 : a2 < 1
    · refine no ?_ ?_
      · unfold fX8_changeSetting
        rw [if_pos c0, if_pos c1]
      · unfold fX9_set
        rw [zl_ok, if_pos c0, q_in, zi_ok, if_pos (Or.inl c1), if_pos rfl, xup_eq]
    · by_cases c2 : 31 < a2
      · refine no ?_ ?_
        · unfold fX8_changeSetting
          rw [if_pos c0, if_neg c1, if_pos c2]
        · unfold fX9_set
          rw [zl_ok, if_pos c0, q_in, zi_ok, if_pos (Or.inr c2), if_pos rfl, xup_eq]
      · obtain ⟨b1, b2⟩ := rng (x := a2) (lo := 1) (hi := 31) (by decide) (by decide) c1 c2
        obtain ⟨Y, hY, eY, y0, Z, hZ, z23, eZ, hB, hK⟩ := rec_pair I (gok_u0 I.g0 b1 b2)
        refine ⟨X 0 0, Y, _, cls_rec I ?_ (nn I.g0.2.1 (by decide)) hY, ?_, hB, hK⟩
        · unfold fX8_changeSetting
          rw [if_pos c0, if_neg c1, if_neg c2, zl_ok, zl_ok, xup_eq, x0]
        · unfold fX9_set
          rw [zl_ok, if_pos c0, q_inT c1 c2, zi_ok, if_neg i10, xup_eq, hZ, zv_ok, zl_ok, zl_ok, xup_eq, z23]
  · by_cases c9 : a1 = 1
    · by_cases c1 : a2 < 0
      · refine no ?_ ?_
        · unfold fX8_changeSetting
          rw [if_neg c0, if_pos c9, if_pos c1]
        · unfold fX9_set
          rw [zl_ok, if_neg c0, if_pos c9, q_in, zi_ok, if_pos (Or.inl c1), if_pos rfl, xup_eq]
      · by_cases c2 : 99 < a2
        · refine no ?_ ?_
          · unfold fX8_changeSetting
            rw [if_neg c0, if_pos c9, if_neg c1, if_pos c2]
          · unfold fX9_set
            rw [zl_ok, if_neg c0, if_pos c9, q_in, zi_ok, if_pos (Or.inr c2), if_pos rfl, xup_eq]
        · obtain ⟨b1, b2⟩ := rng (x := a2) (lo := 0) (hi := 99) (by decide) (by decide) c1 c2
          obtain ⟨Y, hY, eY, y0, Z, hZ, z23, eZ, hB, hK⟩ := rec_pair I (gok_u1 I.g0 b2)
          refine ⟨X 0 1, Y, _, cls_rec I ?_ (nn I.g0.2.2.1 (by decide)) hY, ?_, hB, hK⟩
          · unfold fX8_changeSetting
            rw [if_neg c0, if_pos c9, if_neg c1, if_neg c2, zl_ok, zl_ok, xup_eq, x0]
          · unfold fX9_set
            rw [zl_ok, if_neg c0, if_pos c9, q_inT c1 c2, zi_ok, if_neg i10, xup_eq, hZ, zv_ok, zl_ok, zl_ok, xup_eq, z23]
    · refine no ?_ ?_
      · unfold fX8_changeSetting
        rw [if_neg c0, if_neg c9]
      · unfold fX9_set
        rw [zl_ok, if_neg c0, if_neg c9, xup_eq]
end BS
