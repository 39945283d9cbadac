/-! UNDO, SAVE, RESTORE, WIPE and the plain questions -/
section OR2
theorem cpy_row {f g h : Nat → Int32} (hf : z27 f) (hh : z27 h) (e : ∀ k, k < 27 → g k = h k) : cpy f g 0 0 27 = h := by
  refine row27 ?_ hh ?_
  · intro k hk
    unfold cpy
    rw [if_neg (by omega)]
    exact hf k hk
  · intro k hk
    unfold cpy
    rw [if_pos (by omega)]
    exact e k hk
theorem op_undo {X : XM} (I : Base X) : ∃ r X1 X2, fX8_undo X = some (r, X1) ∧ fX9_undo X1 = some (r, X2) ∧ Base X2 ∧ Kp X X2 := by
  obtain ⟨n, C, h1, h2, h3⟩ := I.hist
  match n, h1, h2, h3 with
  | 0, h1, h2, h3 =>
    refine ⟨-5, X, _, ?_, ?_, (base_ask I).1, (base_ask I).2⟩
    · unfold fX8_undo
      rw [f_takeBack0 h1, zi_ok, if_pos rfl]
    · unfold fX9_undo
      rw [zl_ok, xup_eq, if_pos (show srw X 22 (upd (X 22) 0 0) 22 1 = 0 by rw [srw_s]; exact h2.1)]
  | n + 1, h1, h2, h3 =>
    obtain ⟨Y, hY, hc, y0, yr⟩ := f_takeBack h1 I.g0.z (h3 n (by omega)).b
    have hn6 := h1.1
    have e22 : Y 22 = X 22 := yr 22 (by decide) (by decide)
    have e25 : Y 25 = X 25 := yr 25 (by decide) (by decide)
    have e23 : Y 23 = X 0 := by rw [yr 23 (by decide) (by decide), I.same]
    have eu : upd (upd (X 22) 0 0) 1 (X 22 1 - 1) 1 = nI n := by
      show X 22 1 - 1 = nI n
      rw [h2.1, nI_pred]
    have ez : cpy (X 0) (fun k => X 25 (27 * n + k)) 0 0 27 = C n := cpy_row I.g0.z (h3 n (by omega)).z (fun k hk => h2.2 n (by omega) k hk)
    refine ⟨nI n, Y, srw (srw Y 22 (upd (upd (X 22) 0 0) 1 (X 22 1 - 1))) 23 (C n), ?_, ?_, Base.of I ?_ ?_ ⟨n, C, HC_cong hc (fun r hr => ?_), ⟨?_, fun j hj k hk => ?_⟩, fun j hj => h3 j (by omega)⟩ ?_ (fun r hr => ?_) ?_, fun r a b => ?_⟩
    · unfold fX8_undo
      rw [hY, zi_ok, if_neg i10, hc.2.1]
    · unfold fX9_undo
      rw [zl_ok, xup_eq, e22]
      have e1 : srw Y 22 (upd (X 22) 0 0) 22 1 = X 22 1 := by rw [srw_s]; rfl
      rw [e1, if_neg (show ¬ X 22 1 = 0 by rw [h2.1, nI_z (by omega)]; omega), zl_ok, xup_eq, srw_ss, srw_s, show (0 : Int32) = nI 0 from rfl]
      rw [q_undo_27 (n := n) (by omega) fuel 0 _ (by rw [srw_s]; exact eu) (Nat.zero_le _) (by have := fuel_ge; omega)]
      rw [srw_n (by decide), srw_n (by decide), e23, e25, ez]
    · rw [srw_n (by decide), srw_n (by decide), y0]; exact h3 n (by omega)
    · rw [srw_s, srw_n (by decide), srw_n (by decide), y0]
    · rw [srw_n (by omega), srw_n (by omega)]
    · rw [srw_n (by decide), srw_s]; exact eu
    · rw [srw_n (by decide), srw_n (by decide), e25]; exact h2.2 j (by omega) k hk
    · rw [srw_n (by decide), srw_n (by decide), yr 1 (by decide) (by decide)]; exact I.z1
    · rw [srw_n (by omega), srw_n (by omega), yr r (by omega) (by omega)]
    · rw [srw_n (by decide), srw_s]; rfl
    · rw [srw_n (by omega), srw_n (by omega), yr r (by omega) (by omega)]
theorem two_of {a : Int32} (h1 : ¬ a < 0) (h2 : a < 2) : ∃ w, w < 2 ∧ a = nI w := by
  have hb := rng (x := a) (lo := 0) (hi := 1) (by decide) (by decide) h1 (fun q => by
    rw [Int32.lt_iff_toInt_lt] at h2 q
    have e1 : (2 : Int32).toInt = 2 := by decide
    have e2 : (nI 1).toInt = 1 := by decide
    omega)
  exact ⟨xun a, by omega, (nI_xun a).symm⟩
theorem two_out {a : Int32} (h : a < 0 ∨ ¬ a < 2) : a < 0 ∨ 1 < a := by
  refine h.imp id (fun q => ?_)
  rw [Int32.lt_iff_toInt_lt] at q ⊢
  have e1 : (2 : Int32).toInt = 2 := by decide
  have e2 : (1 : Int32).toInt = 1 := by decide
  omega
theorem op_save {X : XM} (I : Base X) (a1 : Int32) : ∃ r X1 X2, fX8_save a1 X = some (r, X1) ∧ fX9_save a1 X1 = some (r, X2) ∧ Base X2 ∧ Kp X X2 := by
  by_cases c : a1 < 0 ∨ ¬ a1 < 2
  · refine ⟨-2, X, _, ?_, ?_, (base_ask I).1, (base_ask I).2⟩
    · unfold fX8_save
      by_cases c1 : a1 < 0
      · rw [if_pos c1]
      · rw [if_neg c1, if_neg (c.resolve_left c1)]
    · unfold fX9_save
      rw [zl_ok, xup_eq, q_inF (two_out c), zi_ok, if_pos rfl]
  · have c1 : ¬ a1 < 0 := fun q => c (Or.inl q)
    have c2 : a1 < 2 := Classical.not_not.1 (fun q => c (Or.inr q))
    obtain ⟨w, hw, ew⟩ := two_of c1 c2
    obtain ⟨n, C, h1, h2, h3⟩ := I.hist
    have hg0 := I.g0
    have p1 : ∀ r, r ≠ 9 + w → r ≠ 12 → srw (srw X (9 + w) (X 0)) 12 (upd (X 12) w 1) r = X r := fun r a b => by rw [srw_n b, srw_n a]
    generalize hV : srw (srw X (9 + w) (X 0)) 12 (upd (X 12) w 1) = V at *
    have v9 : V (9 + w) = X 0 := by rw [← hV, srw_n (by omega), srw_s]
    have v12 : V 12 = upd (X 12) w 1 := by rw [← hV, srw_s]
    have v23 : V 23 = X 0 := by rw [p1 23 (by omega) (by decide), I.same]
    have v0 : V 0 = X 0 := p1 0 (by omega) (by decide)
    have t23 : srw V 22 (upd (V 22) 0 0) 23 = X 0 := by rw [srw_n (by decide), v23]
    refine ⟨nI (gsum (X 0)), V, srw (srw (srw V 22 (upd (V 22) 0 0)) 26 (cpy (X 26) (X 0) (27 * w) 0 27)) 27 (upd (X 27) w 1), ?_, ?_, ⟨?_, ?_, ⟨n, C, HC_cong h1 (fun r hr => ?_), HM_cong h2 ?_ ?_, h3⟩, ?_, ?_, fun q hq => ?_, fun q hq => ?_, ?_⟩, fun r a b => ?_⟩
    · unfold fX8_save
      rw [if_neg c1, if_pos c2, ew, zd_ok (vp_in_nI hw (by decide)), nI_clampN (by omega), f_copyFrom (by omega) (I.z9 w hw) hg0.z hg0.b, zv_ok, zd_ok (vp_in_nI hw (by decide)), zl_ok, xup_eq, srw_n (by omega : 12 ≠ 9 + w), hV, f_tokenSum (by rw [v0]; exact hg0), zi_ok, v0]
    · unfold fX9_save
      rw [zl_ok, xup_eq, ew, q_inT (by rw [← ew]; exact c1) (fun q => by
        match w, hw with
        | 0, _ => exact absurd q (by decide)
        | 1, _ => exact absurd q (by decide)), zi_ok, if_neg i10, show (0 : Int32) = nI 0 from rfl, q_save_19 rfl hw fuel 0 _ (Nat.zero_le _) (by have := fuel_ge; omega) (by rw [show nI 0 = (0 : Int32) from rfl, t23]; exact hg0)]
      rw [show nI 0 = (0 : Int32) from rfl, t23, srw_n (by decide : 26 ≠ 22), srw_n (by decide : 27 ≠ 22), p1 26 (by omega) (by decide), p1 27 (by omega) (by decide)]
    · rw [srw_n (by decide), srw_n (by decide), srw_n (by decide), v0]; exact hg0
    · rw [srw_n (by decide), srw_n (by decide), srw_n (by decide), srw_n (by decide), srw_n (by decide), srw_n (by decide), v0, v23]
    · rw [srw_n (by omega), srw_n (by omega), srw_n (by omega), p1 r (by omega) (by omega)]
    · rw [srw_n (by decide), srw_n (by decide), srw_s, p1 22 (by omega) (by decide)]; rfl
    · rw [srw_n (by decide), srw_n (by decide), srw_n (by decide), p1 25 (by omega) (by decide)]
    · rw [srw_n (by decide), srw_n (by decide), srw_n (by decide), p1 1 (by omega) (by decide)]; exact I.z1
    · rw [srw_n (by decide), srw_n (by decide), srw_n (by decide), p1 2 (by omega) (by decide)]; exact I.z2
    · rw [srw_n (by omega), srw_n (by omega), srw_n (by omega)]
      by_cases d : q = w
      · rw [d, v9]; exact hg0.z
      · rw [p1 (9 + q) (by omega) (by omega)]; exact I.z9 q hq
    · rw [srw_n (by decide : 12 ≠ 27), srw_n (by decide : 12 ≠ 26), srw_n (by decide : 12 ≠ 22), v12, srw_s, srw_n (by omega : 9 + q ≠ 27), srw_n (by omega : 9 + q ≠ 26), srw_n (by omega : 9 + q ≠ 22), srw_n (by decide : 26 ≠ 27), srw_s]
      by_cases d : q = w
      · subst d
        have e1 : ∀ f : Nat → Int32, upd f q 1 q = 1 := fun f => by unfold upd; rw [if_pos rfl]
        rw [e1, e1, v9]
        refine ⟨rfl, Or.inr ⟨rfl, hg0, fun k hk => ?_⟩⟩
        unfold cpy
        rw [if_pos (by omega), show 27 * q + k - 27 * q = k by omega]
      · have e1 : ∀ f : Nat → Int32, upd f w 1 q = f q := fun f => by unfold upd; rw [if_neg d]
        rw [e1, e1, p1 (9 + q) (by omega) (by omega)]
        have s := I.slots q hq
        refine ⟨s.1, s.2.imp id (fun z => ⟨z.1, z.2.1, fun k hk => ?_⟩)⟩
        unfold cpy
        rw [if_neg (by omega)]
        exact z.2.2 k hk
    · obtain ⟨len, l1, l2, l3, l4⟩ := I.pad
      refine ⟨len, l1, ?_, ?_, fun i hi => ?_⟩
      · rw [srw_n (by decide), srw_n (by decide), srw_n (by decide), p1 20 (by omega) (by decide)]; exact l2
      · rw [srw_n (by decide), srw_n (by decide), srw_s, p1 22 (by omega) (by decide)]; exact l3
      · rw [srw_n (by decide), srw_n (by decide), srw_n (by decide), p1 21 (by omega) (by decide), srw_n (by decide), srw_n (by decide), srw_n (by decide), p1 28 (by omega) (by decide)]; exact l4 i hi
    · rw [srw_n (by omega), srw_n (by omega), srw_n (by omega), p1 r (by omega) (by omega)]
theorem op_restore {X : XM} (I : Base X) (a1 : Int32) : ∃ r X1 X2, fX8_restore a1 X = some (r, X1) ∧ fX9_restore a1 X1 = some (r, X2) ∧ Base X2 ∧ Kp X X2 := by
  by_cases c : a1 < 0 ∨ ¬ a1 < 2
  · refine ⟨-2, X, _, ?_, ?_, (base_ask I).1, (base_ask I).2⟩
    · unfold fX8_restore
      by_cases c1 : a1 < 0
      · rw [if_pos c1]
      · rw [if_neg c1, if_neg (c.resolve_left c1)]
    · unfold fX9_restore
      rw [zl_ok, xup_eq, q_inF (two_out c), zi_ok, if_pos rfl]
  · have c1 : ¬ a1 < 0 := fun q => c (Or.inl q)
    have c2 : a1 < 2 := Classical.not_not.1 (fun q => c (Or.inr q))
    obtain ⟨w, hw, ew⟩ := two_of c1 c2
    have c3 : ¬ 1 < nI w := fun q => by
      match w, hw with
      | 0, _ => exact absurd q (by decide)
      | 1, _ => exact absurd q (by decide)
    have s := I.slots w hw
    by_cases c4 : X 12 w = 0
    · refine ⟨-5, X, _, ?_, ?_, (base_ask I).1, (base_ask I).2⟩
      · unfold fX8_restore
        rw [if_neg c1, if_pos c2, ew, zd_ok (vp_in_nI hw (by decide)), nI_clampN (by omega), if_pos c4]
      · unfold fX9_restore
        rw [zl_ok, xup_eq, ew, q_inT (by rw [← ew]; exact c1) c3, zi_ok, if_neg i10, zd_ok (vp_in_nI hw (by decide)), nI_clampN (by omega), srw_n (by decide : 27 ≠ 22), ← s.1, if_pos c4]
    · obtain ⟨s1, s2, s3⟩ := s.2.resolve_left c4
      obtain ⟨Y, hY, eY, y0, Z, hZ, z23, eZ, hB, hK⟩ := rec_pair I s2
      have hs : gsum (X (9 + w)) < 2 ^ 31 := by
        have t0 := gT_le s2 (p := 0) (by decide)
        have t1 := gT_le s2 (p := 1) (by decide)
        have t2 := gT_le s2 (p := 2) (by decide)
        have t3 := gT_le s2 (p := 3) (by decide)
        unfold gsum
        omega
      have e9 : srw X 1 (X 0) (9 + w) = X (9 + w) := srw_n (by omega)
      have e0 : srw X 1 (X 0) 0 = X 0 := srw_n (by decide)
      have z26 : Z 26 = X 26 := by rw [eZ 26 (by decide) (by decide), eY 26 (by decide) (by decide) (by decide) (by decide)]
      have er : cpy (X 0) (fun k => X 26 (27 * w + k)) 0 0 27 = X (9 + w) := cpy_row I.g0.z s2.z s3
      refine ⟨nI (gsum (X (9 + w))), Y, _, ?_, ?_, hB, hK⟩
      · unfold fX8_restore
        rw [if_neg c1, if_pos c2, ew, zd_ok (vp_in_nI hw (by decide)), nI_clampN (by omega), if_neg c4, f_copyFrom (by decide) I.z1 I.g0.z I.g0.b, zv_ok, zd_ok (vp_in_nI hw (by decide)), f_copyFrom (by omega) (by rw [e0]; exact I.g0.z) (by rw [e9]; exact s2.z) (by rw [e9]; exact s2.b), zv_ok, e9, f_tokenSum (by rw [srw_s]; exact s2), zi_ok, srw_s]
        unfold fX8_recorded
        rw [if_neg (nI_pos hs), hY]
        rfl
      · unfold fX9_restore
        rw [zl_ok, xup_eq, ew, q_inT (by rw [← ew]; exact c1) c3, zi_ok, if_neg i10, zd_ok (vp_in_nI hw (by decide)), nI_clampN (by omega), srw_n (by decide : 27 ≠ 22), eY 27 (by decide) (by decide) (by decide) (by decide), ← s.1, if_neg c4, hZ, zv_ok, show (0 : Int32) = nI 0 from rfl, q_restore_35 rfl hw fuel 0 Z (Nat.zero_le _) (by have := fuel_ge; omega) (by rw [z23, z26, er]; exact s2), z23, z26, er]
theorem op_wipe {X : XM} (I : Base X) : ∃ r X1 X2, fX8_wipe X = some (r, X1) ∧ fX9_wipe X1 = some (r, X2) ∧ Base X2 ∧ Kp X X2 := by
  obtain ⟨len, l1, l2, l3, l4⟩ := I.pad
  obtain ⟨n, C, h1, h2, h3⟩ := I.hist
  refine ⟨X 20 0, srw X 20 (upd (X 20) 0 0), srw (srw X 20 (upd (X 20) 0 0)) 22 (upd (upd (X 22) 0 0) 2 0), ?_, ?_, ⟨?_, ?_, ⟨n, C, HC_cong h1 (fun r hr => ?_), HM_cong h2 ?_ ?_, h3⟩, ?_, ?_, fun q hq => ?_, fun q hq => ?_, ⟨0, by decide, ?_, ?_, fun i hi => absurd hi (by omega)⟩⟩, fun r a b => ?_⟩
  · unfold fX8_wipe
    rw [zl_ok, zl_ok, xup_eq]
  · unfold fX9_wipe
    rw [zl_ok, zl_ok, zl_ok, xup_eq, xup_eq, srw_ss, srw_s, srw_n (by decide)]
    rw [show upd (X 22) 0 0 2 = X 22 2 from rfl, l3, l2]
  · rw [srw_n (by decide), srw_n (by decide)]; exact I.g0
  · rw [srw_n (by decide), srw_n (by decide), srw_n (by decide), srw_n (by decide)]; exact I.same
  · rw [srw_n (by omega), srw_n (by omega)]
  · rw [srw_s]; rfl
  · rw [srw_n (by decide), srw_n (by decide)]
  · rw [srw_n (by decide), srw_n (by decide)]; exact I.z1
  · rw [srw_n (by decide), srw_n (by decide)]; exact I.z2
  · rw [srw_n (by omega), srw_n (by omega)]; exact I.z9 q hq
  · rw [srw_n (by decide), srw_n (by decide), srw_n (by decide), srw_n (by decide), srw_n (by omega), srw_n (by omega), srw_n (by decide), srw_n (by decide)]; exact I.slots q hq
  · rw [srw_n (by decide), srw_s]; rfl
  · rw [srw_s]; rfl
  · rw [srw_n (by omega), srw_n (by omega)]
end OR2
