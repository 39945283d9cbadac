/-! THE PAD: the operation put -/
section PO
theorem cs_spec {n : Nat} : ∀ d k, k + d = 8 → (∀ i, i < k → 33 ≤ byt n i ∧ byt n i ≤ 126) → cs n d k ≤ 8 ∧ ∀ i, i < cs n d k → 33 ≤ byt n i ∧ byt n i ≤ 126 := by
  intro d
  induction d with
  | zero => intro k h g; exact ⟨by show k ≤ 8; omega, g⟩
  | succ d ih =>
    intro k h g
    unfold cs
    by_cases c0 : byt n k = 0
    · rw [if_pos c0]
      by_cases c1 : n / 256 ^ k = 0
      · rw [if_pos c1]; exact ⟨by omega, g⟩
      · rw [if_neg c1]; exact ⟨by omega, fun i hi => absurd hi (by omega)⟩
    · rw [if_neg c0]
      by_cases c1 : 33 ≤ byt n k ∧ byt n k ≤ 126
      · rw [if_pos c1]
        exact ih (k + 1) (by omega) (fun i hi => by
          by_cases e : i = k
          · rw [e]; exact c1
          · exact g i (by omega))
      · rw [if_neg c1]; exact ⟨by omega, fun i hi => absurd hi (by omega)⟩
theorem op_put {X : XM} (I : Base X) (a1 : Int64) : ∃ r X1 X2, fX8_put a1 X = some (r, X1) ∧ fX9_put a1 X1 = some (r, X2) ∧ Base X2 ∧ Kp X X2 := by
  obtain ⟨n, hn, ea⟩ := lU_of a1
  obtain ⟨len, l1, l2, l3, l4⟩ := I.pad
  obtain ⟨c8, cg⟩ := cs_spec (n := n) 8 0 rfl (fun i hi => absurd hi (by omega))
  have hf := fuel_ge
  have hc := f_chars_2 hn (X := X) fuel 0 (by decide) (by omega)
  have hq : ∀ Y : XM, fX9_put_13 fuel (lU n) 0 (lU n) 1 Y = if cs n (8 - 0) 0 = 0 then some (-2, Y) else if (Y 22 2) + nI (cs n (8 - 0) 0) ≤ 80 then fX9_put_108 fuel (lU n) (nI (cs n (8 - 0) 0)) (lU 0) 1 0 Y else some (-4, Y) := fun Y => by
    have q := q_put_ok hn (x1 := lU n) (X := Y) fuel 0 (by decide) (by omega)
    rw [show n / 256 ^ 0 = n by simp] at q
    exact q
  rw [ea]
  generalize cs n (8 - 0) 0 = c at *
  have cls : fX8_put (lU n) X = if nI c = 0 then some (-2, X) else if X 20 0 + nI c ≤ 80 then zv (fX2_append (lU n) (nI c) X) (fun Y => some (Y 20 0, Y)) else some (-4, X) := by
    unfold fX8_put fX2_charactersIn
    rw [show fX2_charactersIn_2 fuel (lU n) 0 X = _ from hc, zi_ok]
  rw [cls]
  unfold fX9_put
  by_cases c0 : c = 0
  · refine ⟨-2, X, _, by rw [if_pos (by rw [c0]; rfl)], ?_, (base_ask I).1, (base_ask I).2⟩
    rw [zl_ok, xup_eq, hq, if_pos c0]
  · have n0 : ¬ nI c = 0 := fun q => c0 ((nI_z (by omega)).1 q)
    have e22 : srw X 22 (upd (X 22) 0 0) 22 2 = nI len := by rw [srw_s]; exact l3
    by_cases c1 : len + c ≤ 80
    · have p1 : X 20 0 + nI c ≤ 80 := by rw [l2, nI_add, show (80 : Int32) = nI 80 from rfl, nI_leI (by omega) (by decide)]; exact c1
      have ha := f_app_5 hn (x3 := nI c) fuel c len X (by omega) c8 c1 l2
      obtain ⟨m, C, h1, h2, h3⟩ := I.hist
      generalize hV : srw (srw X 21 (wr (X 21) len c n)) 20 (upd (X 20) 0 (nI (len + c))) = V at *
      have vr : ∀ r, r ≠ 20 → r ≠ 21 → V r = X r := fun r a b => by rw [← hV, srw_n a, srw_n b]
      have v20 : V 20 0 = nI (len + c) := by rw [← hV, srw_s]; rfl
      have v21 : V 21 = wr (X 21) len c n := by rw [← hV, srw_n (by decide), srw_s]
      have u22 : srw V 22 (upd (V 22) 0 0) 22 2 = nI len := by rw [srw_s, vr 22 (by decide) (by decide)]; exact l3
      refine ⟨nI (len + c), V, srw (srw (srw V 22 (upd (V 22) 0 0)) 28 (wr (X 28) len c n)) 22 (upd (upd (X 22) 0 0) 2 (nI (len + c))), ?_, ?_, ⟨?_, ?_, ⟨m, C, HC_cong h1 (fun r hr => ?_), HM_cong h2 ?_ ?_, h3⟩, ?_, ?_, fun q hq => ?_, fun q hq => ?_, ⟨len + c, c1, ?_, ?_, fun i hi => ?_⟩⟩, fun r a b => ?_⟩
      · rw [if_neg n0, if_pos p1]
        unfold fX2_append
        rw [zl_ok, ha, zv_ok, v20]
      · rw [zl_ok, xup_eq, hq, if_neg c0, u22, nI_add, if_pos (by rw [show (80 : Int32) = nI 80 from rfl, nI_leI (by omega) (by decide)]; exact c1), show fX9_put_108 fuel (lU n) (nI c) (lU 0) 1 0 (srw V 22 (upd (V 22) 0 0)) = _ from q_wr hn c8 c1 (x4 := lU 0) (x6 := 1) fuel 0 (srw V 22 (upd (V 22) 0 0)) (Nat.zero_le _) (by omega) u22]
        rw [srw_n (by decide : 28 ≠ 22), srw_s, vr 28 (by decide) (by decide), vr 22 (by decide) (by decide), Nat.add_zero, Nat.sub_zero]
      · rw [srw_n (by decide), srw_n (by decide), srw_n (by decide), vr 0 (by decide) (by decide)]; exact I.g0
      · rw [srw_n (by decide), srw_n (by decide), srw_n (by decide), srw_n (by decide), srw_n (by decide), srw_n (by decide), vr 0 (by decide) (by decide), vr 23 (by decide) (by decide)]; exact I.same
      · rw [srw_n (by omega), srw_n (by omega), srw_n (by omega), vr r (by omega) (by omega)]
      · rw [srw_s]; rfl
      · rw [srw_n (by decide), srw_n (by decide), srw_n (by decide), vr 25 (by decide) (by decide)]
      · rw [srw_n (by decide), srw_n (by decide), srw_n (by decide), vr 1 (by decide) (by decide)]; exact I.z1
      · rw [srw_n (by decide), srw_n (by decide), srw_n (by decide), vr 2 (by decide) (by decide)]; exact I.z2
      · rw [srw_n (by omega), srw_n (by omega), srw_n (by omega), vr _ (by omega) (by omega)]; exact I.z9 q hq
      · rw [srw_n (by decide), srw_n (by decide), srw_n (by decide), vr 12 (by decide) (by decide), srw_n (by decide), srw_n (by decide), srw_n (by decide), vr 27 (by decide) (by decide), srw_n (by omega), srw_n (by omega), srw_n (by omega), vr (9 + q) (by omega) (by omega), srw_n (by decide), srw_n (by decide), srw_n (by decide), vr 26 (by decide) (by decide)]; exact I.slots q hq
      · rw [srw_n (by decide), srw_n (by decide), srw_n (by decide), v20]
      · rw [srw_s]; rfl
      · rw [srw_n (by decide), srw_n (by decide), srw_n (by decide), v21, srw_n (by decide), srw_s]
        unfold wr
        by_cases d : len ≤ i ∧ i < len + c
        · rw [if_pos d, if_pos d]
          have g := cg (len + c - 1 - i) (by omega)
          exact ⟨_, g.1, g.2, rfl, rfl⟩
        · rw [if_neg d, if_neg d]
          exact l4 i (by omega)
      · rw [srw_n (by omega), srw_n (by omega), srw_n (by omega), vr r (by omega) (by omega)]
    · have p1 : ¬ X 20 0 + nI c ≤ 80 := by rw [l2, nI_add, show (80 : Int32) = nI 80 from rfl, nI_leI (by omega) (by decide)]; exact c1
      refine ⟨-4, X, _, by rw [if_neg n0, if_neg p1], ?_, (base_ask I).1, (base_ask I).2⟩
      rw [zl_ok, xup_eq, hq, if_neg c0, e22, ← l2, if_neg p1]
end PO
