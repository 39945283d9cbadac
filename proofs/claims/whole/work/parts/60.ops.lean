/-! THE OPERATIONS that change the game -/
section OP
theorem le_nlt {a b : Int32} (h : ¬ b < a) : a ≤ b := Int32.not_lt.1 h
theorem op_pile {X : XM} (I : Base X) (a1 a2 a3 : Int32) : ∃ r X1 X2, fX8_pile a1 a2 a3 X = some (r, X1) ∧ fX9_pile a1 a2 a3 X1 = some (r, X2) ∧ Base X2 ∧ Kp X X2 := by
  have no : ∀ (r : Int32) (h0 : r < 0) (hk : fX8_addPile a1 a2 a3 (srw X 1 (X 0)) = some (r, srw X 1 (X 0))) (hq : fX9_refusesPile a1 a2 a3 (srw (srw X 1 (X 0)) 22 (upd (srw X 1 (X 0) 22) 0 0)) = some (r, srw (srw X 1 (X 0)) 22 (upd (srw X 1 (X 0) 22) 0 0))), ∃ r X1 X2, fX8_pile a1 a2 a3 X = some (r, X1) ∧ fX9_pile a1 a2 a3 X1 = some (r, X2) ∧ Base X2 ∧ Kp X X2 := by
    intro r h0 hk hq
    refine ⟨r, _, _, cls_ref I hk h0, ?_, (base_ref I).1, (base_ref I).2⟩
    unfold fX9_pile
    rw [zl_ok, xup_eq, hq, zi_ok, if_neg (fun q => absurd (q ▸ h0) (by decide))]
  have x0 : srw X 1 (X 0) 0 = X 0 := srw_n (by decide)
  have e2 : X 0 2 = nI (xun (X 0 2)) := (nI_xun _).symm
  have h4 := I.g0.2.2.2.1
  by_cases c1 : a1 < 0
  · refine no (-2) (by decide) ?_ ?_
    · unfold fX8_addPile
      rw [if_pos c1]
    · unfold fX9_refusesPile
      rw [q_inF (Or.inl c1), zi_ok, if_pos rfl]
  by_cases c2 : 5 < a1
  · refine no (-2) (by decide) ?_ ?_
    · unfold fX8_addPile
      rw [if_neg c1, if_pos c2]
    · unfold fX9_refusesPile
      rw [q_inF (Or.inr c2), zi_ok, if_pos rfl]
  by_cases c3 : a2 < 0
  · refine no (-2) (by decide) ?_ ?_
    · unfold fX8_addPile
      rw [if_neg c1, if_neg c2, if_pos c3]
    · unfold fX9_refusesPile
      rw [q_inT c1 c2, zi_ok, if_neg i10, q_inF (Or.inl c3), zi_ok, if_pos rfl]
  by_cases c4 : 9 < a2
  · refine no (-2) (by decide) ?_ ?_
    · unfold fX8_addPile
      rw [if_neg c1, if_neg c2, if_neg c3, if_neg (fun q => absurd c4 (Int32.not_lt.2 q))]
    · unfold fX9_refusesPile
      rw [q_inT c1 c2, zi_ok, if_neg i10, q_inF (Or.inr c4), zi_ok, if_pos rfl]
  by_cases c5 : a3 = 0 ∨ a3 = 1
  · have hc : xun a3 ≤ 1 := by rcases c5 with q | q <;> rw [q] <;> decide
    have n1 : ¬ a3 < 0 := by rcases c5 with q | q <;> rw [q] <;> decide
    have n2 : ¬ 1 < a3 := by rcases c5 with q | q <;> rw [q] <;> decide
    have cls : ∀ Z : XM, fX8_addPile a1 a2 a3 Z = zl (Z 0 2) (fun v_6 => if v_6 < 0 then some ((-4), Z) else if v_6 < 4 then zd v_6 4 (zv (fX3_fill 0 (Int32.toNatClampNeg v_6) a1 a2 a3 Z) (fun X_12 => zl (xup X_12 0 2 (v_6 + 1)) (fun X_14 => some (v_6, X_14)))) else some ((-4), Z)) := by
      intro Z
      unfold fX8_addPile
      rw [if_neg c1, if_neg c2, if_neg c3, if_pos (le_nlt c4)]
      rcases c5 with q | q
      · rw [if_pos q, q]
      · rw [if_neg (by rw [q]; decide), if_pos q, q]
    by_cases c6 : xun (X 0 2) = 4
    · have e4 : X 0 2 = 4 := by rw [e2, c6]; rfl
      refine no (-4) (by decide) ?_ ?_
      · rw [cls, zl_ok, x0, e4, if_neg (by decide), if_neg (by decide)]
      · unfold fX9_refusesPile
        rw [q_inT c1 c2, zi_ok, if_neg i10, q_inT c3 c4, zi_ok, if_neg i10, q_inT n1 n2, zi_ok, if_neg i10, srw_n (by decide), srw_n (by decide), I.same, if_pos e4]
    · have hn : xun (X 0 2) < 4 := by omega
      have ba := rng (x := a1) (lo := 0) (hi := 5) (by decide) (by decide) c1 c2
      have bb := rng (x := a2) (lo := 0) (hi := 9) (by decide) (by decide) c3 c4
      obtain ⟨Y, hY, eY, y0, Z, hZ, z23, eZ, hB, hK⟩ := rec_pair I (gok_dPile I.g0 (a := a1) (b := a2) (c := a3) rfl hn ba.2 bb.2 hc)
      have y23 : Y 23 = X 0 := by rw [eY 23 (by decide) (by decide) (by decide) (by decide), I.same]
      generalize hn' : xun (X 0 2) = n at *
      have f1 : upd (upd (upd (upd (upd (X 0) (11 + 4 * n) a1) (14 + 4 * n) a1) (12 + 4 * n) a2) (13 + 4 * n) a3) 2 (nI n + 1) = dPile (X 0) n a1 a2 a3 := by
        funext k
        have e : nI n + 1 = nI (n + 1) := nI_add n 1
        rw [e]
        unfold upd dPile
        repeat' split
        all_goals first | rfl | omega
      have f2 : upd (upd (upd (upd (upd (X 0) (11 + 4 * n) a1) (12 + 4 * n) a2) (13 + 4 * n) a3) (14 + 4 * n) a1) 2 (nI n + 1) = dPile (X 0) n a1 a2 a3 := by
        funext k
        have e : nI n + 1 = nI (n + 1) := nI_add n 1
        rw [e]
        unfold upd dPile
        repeat' split
        all_goals first | rfl | omega
      have g2 : ∀ (f : Nat → Int32) (v : Int32) (k : Nat), k ≠ 2 → upd f k v 2 = f 2 := fun f v k hk => by unfold upd; rw [if_neg (fun q => hk q.symm)]
      refine ⟨X 0 2, Y, _, cls_rec I ?_ (by rw [e2]; exact nI_pos (by omega)) hY, ?_, hB, hK⟩
      · rw [cls, zl_ok, x0, e2, if_neg (nI_pos (by omega)), if_pos (show nI n < 4 by rw [show (4 : Int32) = nI 4 from rfl, nI_ltI (by omega) (by decide)]; exact hn), zd_ok (vp_in_nI hn (by decide)), nI_clampN (by omega)]
        unfold fX3_fill
        simp only [zb_ok (b01 hc), zl_ok, zv_ok, xup_eq, srw_ss, srw_s, x0]
        rw [f1]
      · unfold fX9_pile
        rw [zl_ok, xup_eq]
        have hq : fX9_refusesPile a1 a2 a3 (srw Y 22 (upd (Y 22) 0 0)) = some (0, srw Y 22 (upd (Y 22) 0 0)) := by
          unfold fX9_refusesPile
          rw [q_inT c1 c2, zi_ok, if_neg i10, q_inT c3 c4, zi_ok, if_neg i10, q_inT n1 n2, zi_ok, if_neg i10, srw_n (by decide), y23, e2, if_neg (show ¬ nI n = 4 from fun q => absurd (nI_inj (b := 4) (by omega) (by decide) q) (by omega))]
        rw [hq, zi_ok, if_pos rfl, hZ, zv_ok]
        unfold fX9_comes
        rw [zl_ok, z23, e2, q_lay rfl (show (0 : Int32) = nI 0 from rfl) hn (by decide), zv_ok, q_lay rfl (show (1 : Int32) = nI 1 from rfl) hn (by decide), zv_ok, q_lay rfl (show (2 : Int32) = nI 2 from rfl) hn (by decide), zv_ok, q_lay rfl (show (3 : Int32) = nI 3 from rfl) hn (by decide), zv_ok, zl_ok, xup_eq]
        simp only [srw_ss, srw_s, z23]
        rw [show 11 + 4 * n + 0 = 11 + 4 * n from rfl, show 11 + 4 * n + 1 = 12 + 4 * n by omega, show 11 + 4 * n + 2 = 13 + 4 * n by omega, show 11 + 4 * n + 3 = 14 + 4 * n by omega, g2 _ _ _ (by omega), g2 _ _ _ (by omega), g2 _ _ _ (by omega), g2 _ _ _ (by omega), e2, f2]
        rfl
  · refine no (-2) (by decide) ?_ ?_
    · unfold fX8_addPile
      rw [if_neg c1, if_neg c2, if_neg c3, if_pos (le_nlt c4), if_neg (fun q => c5 (Or.inl q)), if_neg (fun q => c5 (Or.inr q))]
    · unfold fX9_refusesPile
      have c7 : a3 < 0 ∨ 1 < a3 := by
        by_cases p1 : a3 < 0
        · exact Or.inl p1
        · by_cases p2 : 1 < a3
          · exact Or.inr p2
          · exact absurd (b01 (rng (x := a3) (lo := 0) (hi := 1) (by decide) (by decide) p1 p2).2) c5
      rw [q_inT c1 c2, zi_ok, if_neg i10, q_inT c3 c4, zi_ok, if_neg i10, q_inF c7, zi_ok, if_pos rfl]
theorem op_passes {X : XM} (I : Base X) (a1 a2 : Int32) : ∃ r X1 X2, fX8_passes a1 a2 X = some (r, X1) ∧ fX9_passes a1 a2 X1 = some (r, X2) ∧ Base X2 ∧ Kp X X2 := by
  have no : ∀ (hk : fX8_givePasses a1 a2 (srw X 1 (X 0)) = some (-2, srw X 1 (X 0))) (hq : fX9_refusesPasses a1 a2 (srw (srw X 1 (X 0)) 22 (upd (srw X 1 (X 0) 22) 0 0)) = some (-2, srw (srw X 1 (X 0)) 22 (upd (srw X 1 (X 0) 22) 0 0))), ∃ r X1 X2, fX8_passes a1 a2 X = some (r, X1) ∧ fX9_passes a1 a2 X1 = some (r, X2) ∧ Base X2 ∧ Kp X X2 := by
    intro hk hq
    refine ⟨-2, _, _, cls_ref I hk (by decide), ?_, (base_ref I).1, (base_ref I).2⟩
    unfold fX9_passes
    rw [zl_ok, xup_eq, hq, zi_ok, if_neg (by decide)]
  have x0 : srw X 1 (X 0) 0 = X 0 := srw_n (by decide)
  by_cases c1 : a1 < 0
  · refine no ?_ ?_
    · unfold fX8_givePasses
      rw [if_pos c1]
    · unfold fX9_refusesPasses
      rw [q_inF (Or.inl c1), zi_ok, if_pos rfl]
  by_cases c2 : 2 < a1
  · refine no ?_ ?_
    · unfold fX8_givePasses
      rw [if_neg c1, if_pos c2]
    · unfold fX9_refusesPasses
      rw [q_inF (Or.inr c2), zi_ok, if_pos rfl]
  by_cases c3 : a2 < 0
  · refine no ?_ ?_
    · unfold fX8_givePasses
      rw [if_neg c1, if_neg c2, if_pos c3]
    · unfold fX9_refusesPasses
      rw [q_inT c1 c2, zi_ok, if_neg i10, q_inF (Or.inl c3), zi_ok, if_pos rfl]
  by_cases c4 : 2 < a2
  · refine no ?_ ?_
    · unfold fX8_givePasses
      rw [if_neg c1, if_neg c2, if_neg c3, if_neg (fun q => absurd c4 (Int32.not_lt.2 q))]
    · unfold fX9_refusesPasses
      rw [q_inT c1 c2, zi_ok, if_neg i10, q_inF (Or.inr c4), zi_ok, if_pos rfl]
  have ba := rng (x := a1) (lo := 0) (hi := 2) (by decide) (by decide) c1 c2
  have bb := rng (x := a2) (lo := 0) (hi := 2) (by decide) (by decide) c3 c4
  obtain ⟨Y, hY, eY, y0, Z, hZ, z23, eZ, hB, hK⟩ := rec_pair I (gok_u8 (gok_u7 I.g0 ba.2) bb.2)
  have h7 := I.g0.2.2.2.2.2.2.2.1
  have h8 := I.g0.2.2.2.2.2.2.2.2.1
  refine ⟨X 0 7 + X 0 8, Y, _, cls_rec I ?_ ?_ hY, ?_, hB, hK⟩
  · unfold fX8_givePasses
    rw [if_neg c1, if_neg c2, if_neg c3, if_pos (le_nlt c4), zl_ok, zl_ok, zl_ok, xup_eq, xup_eq, x0, srw_ss, srw_s]
  · rw [← nI_xun (X 0 7), ← nI_xun (X 0 8), nI_add]
    exact nI_pos (by omega)
  · unfold fX9_passes
    rw [zl_ok, xup_eq]
    have hq : fX9_refusesPasses a1 a2 (srw Y 22 (upd (Y 22) 0 0)) = some (0, srw Y 22 (upd (Y 22) 0 0)) := by
      unfold fX9_refusesPasses
      rw [q_inT c1 c2, zi_ok, if_neg i10, q_inT c3 c4, zi_ok, if_neg i10]
    rw [hq, zi_ok, if_pos rfl, hZ, zv_ok, zl_ok]
    unfold fX9_gives
    rw [zl_ok, zl_ok, zv_ok, xup_eq, xup_eq, z23, srw_ss, srw_s]
theorem op_begin {X : XM} (I : Base X) : ∃ r X1 X2, fX8_begin X = some (r, X1) ∧ fX9_begin X1 = some (r, X2) ∧ Base X2 ∧ Kp X X2 := by
  have gb := gok_begin I.g0
  obtain ⟨Y, hY, eY, y0, Z, hZ, z23, eZ, hB, hK⟩ := rec_pair I gb
  have x0 : srw X 1 (X 0) 0 = X 0 := srw_n (by decide)
  have hs : gsum (dBegin (X 0)) < 2 ^ 31 := by
    have t0 := gT_le gb (p := 0) (by decide)
    have t1 := gT_le gb (p := 1) (by decide)
    have t2 := gT_le gb (p := 2) (by decide)
    have t3 := gT_le gb (p := 3) (by decide)
    unfold gsum
    omega
  refine ⟨nI (gsum (dBegin (X 0))), Y, _, ?_, ?_, hB, hK⟩
  · unfold fX8_begin
    rw [f_copyFrom (by decide) I.z1 I.g0.z I.g0.b, zv_ok, f_restart (by rw [x0]; exact I.g0.z), zv_ok, x0, f_tokenSum (by rw [srw_s]; exact gb), zi_ok, srw_s]
    unfold fX8_recorded
    rw [if_neg (nI_pos hs), hY]
    rfl
  · unfold fX9_begin
    have h4 := I.g0.2.2.2.1
    rw [zl_ok, xup_eq, hZ, zv_ok, show (0 : Int32) = nI 0 from rfl, q_begin_11 fuel 0 Z (by rw [z23]; exact I.g0) (Nat.zero_le _) (by rw [z23]; have := fuel_ge; omega) (fun p hp => absurd hp (by omega)), z23]
end OP
