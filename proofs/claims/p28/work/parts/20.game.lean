def fX8_isIn  (a1 : Int32) (a2 : Int32) (X : XM) : Option (Int32 × XM) := if ((o_shr a1 a2) &&& 1) = 1 then some (1, X) else some (0, X)
set_option maxHeartbeats 4000000 in
set_option maxRecDepth 100000 in
theorem mX8_isIn (l : Launch) (D : va_G) (L : Nat → Nat) (ac : Nat → ClassId) (hL : LL L) (X : XM) (a1 : Int32) (a2 : Int32) (r0 : Int32) (X0 : XM) (hf : fX8_isIn a1 a2 X = some (r0, X0)) : Ci l yX8_isIn wsX8_isIn ({ frames := 0, cells := 0, slots := 0, locals := 0 }) D L ac X [.int a1, .int a2] r0 X0 := by
  refine Met.ofK (cc := cX8_isIn) (maxL := 2) (ret := (some .boolean)) (lv := [(0, .int a1), (1, .int a2)]) (by decide +kernel) rfl (Nat.le_of_ble_eq_true rfl) rfl ?_
  intro p e s m below meth c F hO ls hl
  obtain ⟨hx, hb, hr, hts, hown, hlocks, hml, hK, hN⟩ := id F
  have hA : ∀ q, fr L q → fr L q := fun q h => h
  unfold fX8_isIn at hf
  refine lv_iload_n hx hb dX8_isIn_0 rfl (lv_at hl 0 rfl) ?_
  refine lv_iload_n hx hb dX8_isIn_1 rfl (lv_at hl 1 rfl) ?_
  refine lv_ishr hx hb dX8_isIn_2 ?_
  refine lv_iconst (v := 1) hx hb dX8_isIn_3 (by decide) ?_
  refine lv_iand hx hb dX8_isIn_4 ?_
  refine lv_iconst (v := 1) hx hb dX8_isIn_5 (by decide) ?_
  refine lv_icmp_ne (tgt := 13) hx hb dX8_isIn_6 (by decide) (fun c_1 => ?_) (fun c_1 => ?_)
  · rw [if_neg c_1] at hf
    refine lv_iconst (v := 0) hx hb dX8_isIn_13 (by decide) ?_
    obtain ⟨rfl, rfl⟩ := Prod.mk.inj (Option.some.inj hf)
    exact e_n hx hb hr (bo_n (by decide)) hK hN hO hlocks dX8_isIn_14
  · rw [if_pos c_1] at hf
    refine lv_iconst (v := 1) hx hb dX8_isIn_9 (by decide) ?_
    refine lv_goto (tgt := 14) hx hb dX8_isIn_10 (by decide) ?_
    obtain ⟨rfl, rfl⟩ := Prod.mk.inj (Option.some.inj hf)
    exact e_n hx hb hr (bo_n (by decide)) hK hN hO hlocks dX8_isIn_14
def fX8_takesOutOf  (a1 : Int32) (a2 : Int32) (a3 : Int32) (X : XM) : Option (Int32 × XM) := some (o_shl (a2 &&& ((o_shl 1 a1) - 1)) (5 * a3), X)
set_option maxHeartbeats 4000000 in
set_option maxRecDepth 100000 in
theorem mX8_takesOutOf (l : Launch) (D : va_G) (L : Nat → Nat) (ac : Nat → ClassId) (hL : LL L) (X : XM) (a1 : Int32) (a2 : Int32) (a3 : Int32) (r0 : Int32) (X0 : XM) (hf : fX8_takesOutOf a1 a2 a3 X = some (r0, X0)) : Ci l yX8_takesOutOf wsX8_takesOutOf ({ frames := 0, cells := 0, slots := 0, locals := 0 }) D L ac X [.int a1, .int a2, .int a3] r0 X0 := by
  refine Met.ofK (cc := cX8_takesOutOf) (maxL := 3) (ret := (some .int)) (lv := [(0, .int a1), (1, .int a2), (2, .int a3)]) (by decide +kernel) rfl (Nat.le_of_ble_eq_true rfl) rfl ?_
  intro p e s m below meth c F hO ls hl
  obtain ⟨hx, hb, hr, hts, hown, hlocks, hml, hK, hN⟩ := id F
  have hA : ∀ q, fr L q → fr L q := fun q h => h
  unfold fX8_takesOutOf at hf
  refine lv_iload_n hx hb dX8_takesOutOf_0 rfl (lv_at hl 1 rfl) ?_
  refine lv_iconst (v := 1) hx hb dX8_takesOutOf_1 (by decide) ?_
  refine lv_iload_n hx hb dX8_takesOutOf_2 rfl (lv_at hl 0 rfl) ?_
  refine lv_ishl hx hb dX8_takesOutOf_3 ?_
  refine lv_iconst (v := 1) hx hb dX8_takesOutOf_4 (by decide) ?_
  refine lv_isub hx hb dX8_takesOutOf_5 ?_
  refine lv_iand hx hb dX8_takesOutOf_6 ?_
  refine lv_iconst (v := 5) hx hb dX8_takesOutOf_7 (by decide) ?_
  refine lv_iload_n hx hb dX8_takesOutOf_8 rfl (lv_at hl 2 rfl) ?_
  refine lv_imul hx hb dX8_takesOutOf_9 ?_
  refine lv_ishl hx hb dX8_takesOutOf_10 ?_
  obtain ⟨rfl, rfl⟩ := Prod.mk.inj (Option.some.inj hf)
  exact e_i hx hb hr hK hN hO hlocks dX8_takesOutOf_11
def fX8_takeMove  (a1 : Int32) (a2 : Int32) (X : XM) : Option (Int32 × XM) := some (((5 * a1) + a2) - 1, X)
set_option maxHeartbeats 4000000 in
set_option maxRecDepth 100000 in
theorem mX8_takeMove (l : Launch) (D : va_G) (L : Nat → Nat) (ac : Nat → ClassId) (hL : LL L) (X : XM) (a1 : Int32) (a2 : Int32) (r0 : Int32) (X0 : XM) (hf : fX8_takeMove a1 a2 X = some (r0, X0)) : Ci l yX8_takeMove wsX8_takeMove ({ frames := 0, cells := 0, slots := 0, locals := 0 }) D L ac X [.int a1, .int a2] r0 X0 := by
  refine Met.ofK (cc := cX8_takeMove) (maxL := 2) (ret := (some .int)) (lv := [(0, .int a1), (1, .int a2)]) (by decide +kernel) rfl (Nat.le_of_ble_eq_true rfl) rfl ?_
  intro p e s m below meth c F hO ls hl
  obtain ⟨hx, hb, hr, hts, hown, hlocks, hml, hK, hN⟩ := id F
  have hA : ∀ q, fr L q → fr L q := fun q h => h
  unfold fX8_takeMove at hf
  refine lv_iconst (v := 5) hx hb dX8_takeMove_0 (by decide) ?_
  refine lv_iload_n hx hb dX8_takeMove_1 rfl (lv_at hl 0 rfl) ?_
  refine lv_imul hx hb dX8_takeMove_2 ?_
  refine lv_iload_n hx hb dX8_takeMove_3 rfl (lv_at hl 1 rfl) ?_
  refine lv_iadd hx hb dX8_takeMove_4 ?_
  refine lv_iconst (v := 1) hx hb dX8_takeMove_5 (by decide) ?_
  refine lv_isub hx hb dX8_takeMove_6 ?_
  obtain ⟨rfl, rfl⟩ := Prod.mk.inj (Option.some.inj hf)
  exact e_i hx hb hr hK hN hO hlocks dX8_takeMove_7
theorem in_X3_fill_X3 : ∀ w ∈ u_ws RX3 TX3 4, w ∈ wsX3_fill := by decide +kernel
theorem lk_X3_fill_f13 : Cond.fieldLink RX3 13 "PoisonPiles$Pile" "came" "I" ∈ wsX3_fill := by decide +kernel
theorem lk_X3_fill_f16 : Cond.fieldLink RX3 16 "PoisonPiles$Pile" "worth" "I" ∈ wsX3_fill := by decide +kernel
theorem lk_X3_fill_f19 : Cond.fieldLink RX3 19 "PoisonPiles$Pile" "poisoned" "Z" ∈ wsX3_fill := by decide +kernel
theorem lk_X3_fill_f7 : Cond.fieldLink RX3 7 "PoisonPiles$Pile" "tokens" "I" ∈ wsX3_fill := by decide +kernel
def fX3_fill  (g : Nat) (pj : Nat) (a1 : Int32) (a2 : Int32) (a3 : Int32) (X : XM) : Option XM := zl (xup X g (11 + 4 * pj) a1) (fun X_1 => zl (xup X_1 g (14 + 4 * pj) a1) (fun X_3 => zl (xup X_3 g (12 + 4 * pj) a2) (fun X_5 => zb a3 (zl (xup X_5 g (13 + 4 * pj) a3) (fun X_8 => some X_8)))))
set_option maxHeartbeats 4000000 in
set_option maxRecDepth 100000 in
theorem mX3_fill (l : Launch) (D : va_G) (L : Nat → Nat) (ac : Nat → ClassId) (hL : LL L) (X : XM) (g : Nat) (hg : g < 11) (pj : Nat) (hpj : pj < 4) (a1 : Int32) (a2 : Int32) (a3 : Int32) (X0 : XM) (hf : fX3_fill g pj a1 a2 a3 X = some X0) : Cv l yX3_fill wsX3_fill ({ frames := 0, cells := 0, slots := 0, locals := 0 }) D L ac X [.ref (L (aP g pj)), .int a1, .int a2, .int a3] X0 := by
  refine Met.ofK (cc := cX3_fill) (maxL := 4) (ret := none) (lv := [(0, .ref (L (aP g pj))), (1, .int a1), (2, .int a2), (3, .int a3)]) (by decide +kernel) rfl (Nat.le_of_ble_eq_true rfl) rfl ?_
  intro p e s m below meth c F hO ls hl
  obtain ⟨hx, hb, hr, hts, hown, hlocks, hml, hK, hN⟩ := id F
  have hA : ∀ q, fr L q → fr L q := fun q h => h
  unfold fX3_fill at hf
  refine lv_aload_n hx hb dX3_fill_0 rfl (lv_at hl 0 rfl) ?_
  refine lv_iload_n hx hb dX3_fill_1 rfl (lv_at hl 1 rfl) ?_
  refine k_put (ty := .int) (k := 0) (r := g) (k' := 11 + 4 * pj) hx hb tyX3 tyX3_ok nmX3 hts in_X3_fill_X3 hown hK  hL hA hO (aP_lt hg hpj) (ow_P hg (by omega) (by omega)) (by omega) (fun Y => (cn_P g pj hpj)) (pf_P0 g pj) rfl (by decide) lk_X3_fill_f7 rfl (by decide +kernel) rfl rfl (Nat.le_of_ble_eq_true rfl) dX3_fill_2 (fun H_2 locs_2 hO_2 => ?_)
  replace hf := zl_some hf
  obtain ⟨X_1, hX_1, hf⟩ := hf
  have hQ_2 := zo_eq hX_1 hO_2
  clear hO_2 hO
  refine lv_aload_n hx hb dX3_fill_5 rfl (lv_at hl 0 rfl) ?_
  refine lv_iload_n hx hb dX3_fill_6 rfl (lv_at hl 1 rfl) ?_
  refine k_put (ty := .int) (k := 1) (r := g) (k' := 14 + 4 * pj) hx hb tyX3 tyX3_ok nmX3 hts in_X3_fill_X3 hown hK  hL hA hQ_2 (aP_lt hg hpj) (ow_P hg (by omega) (by omega)) (by omega) (fun Y => (cn_P g pj hpj)) (pf_P3 g pj) rfl (by decide) lk_X3_fill_f13 rfl (by decide +kernel) rfl rfl (Nat.le_of_ble_eq_true rfl) dX3_fill_7 (fun H_4 locs_4 hO_4 => ?_)
  replace hf := zl_some hf
  obtain ⟨X_3, hX_3, hf⟩ := hf
  have hQ_4 := zo_eq hX_3 hO_4
  clear hO_4 hQ_2
  refine lv_aload_n hx hb dX3_fill_10 rfl (lv_at hl 0 rfl) ?_
  refine lv_iload_n hx hb dX3_fill_11 rfl (lv_at hl 2 rfl) ?_
  refine k_put (ty := .int) (k := 2) (r := g) (k' := 12 + 4 * pj) hx hb tyX3 tyX3_ok nmX3 hts in_X3_fill_X3 hown hK  hL hA hQ_4 (aP_lt hg hpj) (ow_P hg (by omega) (by omega)) (by omega) (fun Y => (cn_P g pj hpj)) (pf_P1 g pj) rfl (by decide) lk_X3_fill_f16 rfl (by decide +kernel) rfl rfl (Nat.le_of_ble_eq_true rfl) dX3_fill_12 (fun H_6 locs_6 hO_6 => ?_)
  replace hf := zl_some hf
  obtain ⟨X_5, hX_5, hf⟩ := hf
  have hQ_6 := zo_eq hX_5 hO_6
  clear hO_6 hQ_4
  refine lv_aload_n hx hb dX3_fill_15 rfl (lv_at hl 0 rfl) ?_
  refine lv_iload_n hx hb dX3_fill_16 rfl (lv_at hl 3 rfl) ?_
  replace hf := zb_some hf
  obtain ⟨hb_7, hf⟩ := hf
  refine k_put (ty := .boolean) (k := 3) (r := g) (k' := 13 + 4 * pj) hx hb tyX3 tyX3_ok nmX3 hts in_X3_fill_X3 hown hK  hL hA hQ_6 (aP_lt hg hpj) (ow_P hg (by omega) (by omega)) (by omega) (fun Y => (cn_P g pj hpj)) (pf_P2 g pj) rfl (by decide) lk_X3_fill_f19 rfl (by decide +kernel) (bo_n hb_7) (bo_f hb_7) (Nat.le_of_ble_eq_true rfl) dX3_fill_17 (fun H_9 locs_9 hO_9 => ?_)
  replace hf := zl_some hf
  obtain ⟨X_8, hX_8, hf⟩ := hf
  have hQ_9 := zo_eq hX_8 hO_9
  clear hO_9 hQ_6
  obtain rfl := Option.some.inj hf
  exact e_v hx hb hr hK hN hQ_9 hlocks dX3_fill_20
theorem in_X3_copyFrom_X3 : ∀ w ∈ u_ws RX3 TX3 4, w ∈ wsX3_copyFrom := by decide +kernel
theorem lk_X3_copyFrom_f13 : Cond.fieldLink RX3 13 "PoisonPiles$Pile" "came" "I" ∈ wsX3_copyFrom := by decide +kernel
theorem lk_X3_copyFrom_f16 : Cond.fieldLink RX3 16 "PoisonPiles$Pile" "worth" "I" ∈ wsX3_copyFrom := by decide +kernel
theorem lk_X3_copyFrom_f19 : Cond.fieldLink RX3 19 "PoisonPiles$Pile" "poisoned" "Z" ∈ wsX3_copyFrom := by decide +kernel
theorem lk_X3_copyFrom_f7 : Cond.fieldLink RX3 7 "PoisonPiles$Pile" "tokens" "I" ∈ wsX3_copyFrom := by decide +kernel
def fX3_copyFrom  (g : Nat) (pj : Nat) (g2 : Nat) (pj2 : Nat) (X : XM) : Option XM := zl (xup X g (11 + 4 * pj) (X g2 (11 + 4 * pj2))) (fun X_1 => zl (xup X_1 g (14 + 4 * pj) (X_1 g2 (14 + 4 * pj2))) (fun X_3 => zl (xup X_3 g (12 + 4 * pj) (X_3 g2 (12 + 4 * pj2))) (fun X_5 => zb (X_5 g2 (13 + 4 * pj2)) (zl (xup X_5 g (13 + 4 * pj) (X_5 g2 (13 + 4 * pj2))) (fun X_8 => some X_8)))))
set_option maxHeartbeats 4000000 in
set_option maxRecDepth 100000 in
theorem mX3_copyFrom (l : Launch) (D : va_G) (L : Nat → Nat) (ac : Nat → ClassId) (hL : LL L) (X : XM) (g : Nat) (hg : g < 11) (pj : Nat) (hpj : pj < 4) (g2 : Nat) (hg2 : g2 < 11) (pj2 : Nat) (hpj2 : pj2 < 4) (X0 : XM) (hf : fX3_copyFrom g pj g2 pj2 X = some X0) : Cv l yX3_copyFrom wsX3_copyFrom ({ frames := 0, cells := 0, slots := 0, locals := 0 }) D L ac X [.ref (L (aP g pj)), .ref (L (aP g2 pj2))] X0 := by
  refine Met.ofK (cc := cX3_copyFrom) (maxL := 2) (ret := none) (lv := [(0, .ref (L (aP g pj))), (1, .ref (L (aP g2 pj2)))]) (by decide +kernel) rfl (Nat.le_of_ble_eq_true rfl) rfl ?_
  intro p e s m below meth c F hO ls hl
  obtain ⟨hx, hb, hr, hts, hown, hlocks, hml, hK, hN⟩ := id F
  have hA : ∀ q, fr L q → fr L q := fun q h => h
  unfold fX3_copyFrom at hf
  refine lv_aload_n hx hb dX3_copyFrom_0 rfl (lv_at hl 0 rfl) ?_
  refine lv_aload_n hx hb dX3_copyFrom_1 rfl (lv_at hl 1 rfl) ?_
  refine k_get (k := 0) (v := .int (X g2 (11 + 4 * pj2))) hx hb hts in_X3_copyFrom_X3 hown hK hO (aP_lt hg2 hpj2) (cn_P g2 pj2 hpj2) rfl (by decide) lk_X3_copyFrom_f7 rfl dX3_copyFrom_2 ?_
  refine k_put (ty := .int) (k := 0) (r := g) (k' := 11 + 4 * pj) hx hb tyX3 tyX3_ok nmX3 hts in_X3_copyFrom_X3 hown hK  hL hA hO (aP_lt hg hpj) (ow_P hg (by omega) (by omega)) (by omega) (fun Y => (cn_P g pj hpj)) (pf_P0 g pj) rfl (by decide) lk_X3_copyFrom_f7 rfl (by decide +kernel) rfl rfl (Nat.le_of_ble_eq_true rfl) dX3_copyFrom_5 (fun H_2 locs_2 hO_2 => ?_)
  replace hf := zl_some hf
  obtain ⟨X_1, hX_1, hf⟩ := hf
  have hQ_2 := zo_eq hX_1 hO_2
  clear hO_2 hO
  refine lv_aload_n hx hb dX3_copyFrom_8 rfl (lv_at hl 0 rfl) ?_
  refine lv_aload_n hx hb dX3_copyFrom_9 rfl (lv_at hl 1 rfl) ?_
  refine k_get (k := 1) (v := .int (X_1 g2 (14 + 4 * pj2))) hx hb hts in_X3_copyFrom_X3 hown hK hQ_2 (aP_lt hg2 hpj2) (cn_P g2 pj2 hpj2) rfl (by decide) lk_X3_copyFrom_f13 rfl dX3_copyFrom_10 ?_
  refine k_put (ty := .int) (k := 1) (r := g) (k' := 14 + 4 * pj) hx hb tyX3 tyX3_ok nmX3 hts in_X3_copyFrom_X3 hown hK  hL hA hQ_2 (aP_lt hg hpj) (ow_P hg (by omega) (by omega)) (by omega) (fun Y => (cn_P g pj hpj)) (pf_P3 g pj) rfl (by decide) lk_X3_copyFrom_f13 rfl (by decide +kernel) rfl rfl (Nat.le_of_ble_eq_true rfl) dX3_copyFrom_13 (fun H_4 locs_4 hO_4 => ?_)
  replace hf := zl_some hf
  obtain ⟨X_3, hX_3, hf⟩ := hf
  have hQ_4 := zo_eq hX_3 hO_4
  clear hO_4 hQ_2
  refine lv_aload_n hx hb dX3_copyFrom_16 rfl (lv_at hl 0 rfl) ?_
  refine lv_aload_n hx hb dX3_copyFrom_17 rfl (lv_at hl 1 rfl) ?_
  refine k_get (k := 2) (v := .int (X_3 g2 (12 + 4 * pj2))) hx hb hts in_X3_copyFrom_X3 hown hK hQ_4 (aP_lt hg2 hpj2) (cn_P g2 pj2 hpj2) rfl (by decide) lk_X3_copyFrom_f16 rfl dX3_copyFrom_18 ?_
  refine k_put (ty := .int) (k := 2) (r := g) (k' := 12 + 4 * pj) hx hb tyX3 tyX3_ok nmX3 hts in_X3_copyFrom_X3 hown hK  hL hA hQ_4 (aP_lt hg hpj) (ow_P hg (by omega) (by omega)) (by omega) (fun Y => (cn_P g pj hpj)) (pf_P1 g pj) rfl (by decide) lk_X3_copyFrom_f16 rfl (by decide +kernel) rfl rfl (Nat.le_of_ble_eq_true rfl) dX3_copyFrom_21 (fun H_6 locs_6 hO_6 => ?_)
  replace hf := zl_some hf
  obtain ⟨X_5, hX_5, hf⟩ := hf
  have hQ_6 := zo_eq hX_5 hO_6
  clear hO_6 hQ_4
  refine lv_aload_n hx hb dX3_copyFrom_24 rfl (lv_at hl 0 rfl) ?_
  refine lv_aload_n hx hb dX3_copyFrom_25 rfl (lv_at hl 1 rfl) ?_
  refine k_get (k := 3) (v := .int (X_5 g2 (13 + 4 * pj2))) hx hb hts in_X3_copyFrom_X3 hown hK hQ_6 (aP_lt hg2 hpj2) (cn_P g2 pj2 hpj2) rfl (by decide) lk_X3_copyFrom_f19 rfl dX3_copyFrom_26 ?_
  replace hf := zb_some hf
  obtain ⟨hb_7, hf⟩ := hf
  refine k_put (ty := .boolean) (k := 3) (r := g) (k' := 13 + 4 * pj) hx hb tyX3 tyX3_ok nmX3 hts in_X3_copyFrom_X3 hown hK  hL hA hQ_6 (aP_lt hg hpj) (ow_P hg (by omega) (by omega)) (by omega) (fun Y => (cn_P g pj hpj)) (pf_P2 g pj) rfl (by decide) lk_X3_copyFrom_f19 rfl (by decide +kernel) (bo_n hb_7) (bo_f hb_7) (Nat.le_of_ble_eq_true rfl) dX3_copyFrom_29 (fun H_9 locs_9 hO_9 => ?_)
  replace hf := zl_some hf
  obtain ⟨X_8, hX_8, hf⟩ := hf
  have hQ_9 := zo_eq hX_8 hO_9
  clear hO_9 hQ_6
  obtain rfl := Option.some.inj hf
  exact e_v hx hb hr hK hN hQ_9 hlocks dX3_copyFrom_32
theorem in_X4_copyFrom_X4 : ∀ w ∈ u_ws RX4 TX4 2, w ∈ wsX4_copyFrom := by decide +kernel
theorem lk_X4_copyFrom_f13 : Cond.fieldLink RX4 13 "PoisonPiles$Player" "passesLeft" "I" ∈ wsX4_copyFrom := by decide +kernel
theorem lk_X4_copyFrom_f7 : Cond.fieldLink RX4 7 "PoisonPiles$Player" "gains" "I" ∈ wsX4_copyFrom := by decide +kernel
def fX4_copyFrom  (g : Nat) (wj : Nat) (g2 : Nat) (wj2 : Nat) (X : XM) : Option XM := zl (xup X g (9 + wj) (X g2 (9 + wj2))) (fun X_1 => zl (xup X_1 g (7 + wj) (X_1 g2 (7 + wj2))) (fun X_3 => some X_3))
set_option maxHeartbeats 4000000 in
set_option maxRecDepth 100000 in
theorem mX4_copyFrom (l : Launch) (D : va_G) (L : Nat → Nat) (ac : Nat → ClassId) (hL : LL L) (X : XM) (g : Nat) (hg : g < 11) (wj : Nat) (hwj : wj < 2) (g2 : Nat) (hg2 : g2 < 11) (wj2 : Nat) (hwj2 : wj2 < 2) (X0 : XM) (hf : fX4_copyFrom g wj g2 wj2 X = some X0) : Cv l yX4_copyFrom wsX4_copyFrom ({ frames := 0, cells := 0, slots := 0, locals := 0 }) D L ac X [.ref (L (aY g wj)), .ref (L (aY g2 wj2))] X0 := by
  refine Met.ofK (cc := cX4_copyFrom) (maxL := 2) (ret := none) (lv := [(0, .ref (L (aY g wj))), (1, .ref (L (aY g2 wj2)))]) (by decide +kernel) rfl (Nat.le_of_ble_eq_true rfl) rfl ?_
  intro p e s m below meth c F hO ls hl
  obtain ⟨hx, hb, hr, hts, hown, hlocks, hml, hK, hN⟩ := id F
  have hA : ∀ q, fr L q → fr L q := fun q h => h
  unfold fX4_copyFrom at hf
  refine lv_aload_n hx hb dX4_copyFrom_0 rfl (lv_at hl 0 rfl) ?_
  refine lv_aload_n hx hb dX4_copyFrom_1 rfl (lv_at hl 1 rfl) ?_
  refine k_get (k := 0) (v := .int (X g2 (9 + wj2))) hx hb hts in_X4_copyFrom_X4 hown hK hO (aY_lt hg2 hwj2) (cn_Y g2 wj2 hwj2) rfl (by decide) lk_X4_copyFrom_f7 rfl dX4_copyFrom_2 ?_
  refine k_put (ty := .int) (k := 0) (r := g) (k' := 9 + wj) hx hb tyX4 tyX4_ok nmX4 hts in_X4_copyFrom_X4 hown hK  hL hA hO (aY_lt hg hwj) (ow_Y9 (w := wj) hg hwj) (by omega) (fun Y => (cn_Y g wj hwj)) (pf_Y9 g wj hwj) rfl (by decide) lk_X4_copyFrom_f7 rfl (by decide +kernel) rfl rfl (Nat.le_of_ble_eq_true rfl) dX4_copyFrom_5 (fun H_2 locs_2 hO_2 => ?_)
  replace hf := zl_some hf
  obtain ⟨X_1, hX_1, hf⟩ := hf
  have hQ_2 := zo_eq hX_1 hO_2
  clear hO_2 hO
  refine lv_aload_n hx hb dX4_copyFrom_8 rfl (lv_at hl 0 rfl) ?_
  refine lv_aload_n hx hb dX4_copyFrom_9 rfl (lv_at hl 1 rfl) ?_
  refine k_get (k := 1) (v := .int (X_1 g2 (7 + wj2))) hx hb hts in_X4_copyFrom_X4 hown hK hQ_2 (aY_lt hg2 hwj2) (cn_Y g2 wj2 hwj2) rfl (by decide) lk_X4_copyFrom_f13 rfl dX4_copyFrom_10 ?_
  refine k_put (ty := .int) (k := 1) (r := g) (k' := 7 + wj) hx hb tyX4 tyX4_ok nmX4 hts in_X4_copyFrom_X4 hown hK  hL hA hQ_2 (aY_lt hg hwj) (ow_Y7 (w := wj) hg hwj) (by omega) (fun Y => (cn_Y g wj hwj)) (pf_Y7 g wj hwj) rfl (by decide) lk_X4_copyFrom_f13 rfl (by decide +kernel) rfl rfl (Nat.le_of_ble_eq_true rfl) dX4_copyFrom_13 (fun H_4 locs_4 hO_4 => ?_)
  replace hf := zl_some hf
  obtain ⟨X_3, hX_3, hf⟩ := hf
  have hQ_4 := zo_eq hX_3 hO_4
  clear hO_4 hQ_2
  obtain rfl := Option.some.inj hf
  exact e_v hx hb hr hK hN hQ_4 hlocks dX4_copyFrom_16
theorem in_X0_hasPile_X0 : ∀ w ∈ u_ws RX0 TX0 10, w ∈ wsX0_hasPile := by decide +kernel
theorem lk_X0_hasPile_f20 : Cond.fieldLink RX0 20 "PoisonPiles$Game" "piles" "[LPoisonPiles$Pile;" ∈ wsX0_hasPile := by decide +kernel
theorem lk_X0_hasPile_f39 : Cond.fieldLink RX0 39 "PoisonPiles$Game" "pileCount" "I" ∈ wsX0_hasPile := by decide +kernel
def fX0_hasPile  (g : Nat) (a1 : Int32) (X : XM) : Option (Int32 × XM) := if a1 < 0 then some (0, X) else if (X g 2) ≤ a1 then some (0, X) else if 4 ≤ a1 then some (0, X) else some (1, X)
set_option maxHeartbeats 4000000 in
set_option maxRecDepth 100000 in
theorem mX0_hasPile (l : Launch) (D : va_G) (L : Nat → Nat) (ac : Nat → ClassId) (hL : LL L) (X : XM) (g : Nat) (hg : g < 11) (a1 : Int32) (r0 : Int32) (X0 : XM) (hf : fX0_hasPile g a1 X = some (r0, X0)) : Ci l yX0_hasPile wsX0_hasPile ({ frames := 0, cells := 0, slots := 0, locals := 0 }) D L ac X [.ref (L (aG g)), .int a1] r0 X0 := by
  refine Met.ofK (cc := cX0_hasPile) (maxL := 2) (ret := (some .boolean)) (lv := [(0, .ref (L (aG g))), (1, .int a1)]) (by decide +kernel) rfl (Nat.le_of_ble_eq_true rfl) rfl ?_
  intro p e s m below meth c F hO ls hl
  obtain ⟨hx, hb, hr, hts, hown, hlocks, hml, hK, hN⟩ := id F
  have hA : ∀ q, fr L q → fr L q := fun q h => h
  unfold fX0_hasPile at hf
  refine lv_iload_n hx hb dX0_hasPile_0 rfl (lv_at hl 1 rfl) ?_
  refine lv_if_lt (tgt := 25) hx hb dX0_hasPile_1 (by decide) (fun c_1 => ?_) (fun c_1 => ?_)
  · rw [if_pos c_1] at hf
    refine lv_iconst (v := 0) hx hb dX0_hasPile_25 (by decide) ?_
    obtain ⟨rfl, rfl⟩ := Prod.mk.inj (Option.some.inj hf)
    exact e_n hx hb hr (bo_n (by decide)) hK hN hO hlocks dX0_hasPile_26
  · rw [if_neg c_1] at hf
    refine lv_iload_n hx hb dX0_hasPile_4 rfl (lv_at hl 1 rfl) ?_
    refine lv_aload_n hx hb dX0_hasPile_5 rfl (lv_at hl 0 rfl) ?_
    refine k_get (k := 3) (v := .int (X g 2)) hx hb hts in_X0_hasPile_X0 hown hK hO (aG_lt hg) (cn_G g) rfl (by decide) lk_X0_hasPile_f39 rfl dX0_hasPile_6 ?_
    refine lv_icmp_ge (tgt := 25) hx hb dX0_hasPile_9 (by decide) (fun c_2 => ?_) (fun c_2 => ?_)
    · rw [if_pos c_2] at hf
      refine lv_iconst (v := 0) hx hb dX0_hasPile_25 (by decide) ?_
      obtain ⟨rfl, rfl⟩ := Prod.mk.inj (Option.some.inj hf)
      exact e_n hx hb hr (bo_n (by decide)) hK hN hO hlocks dX0_hasPile_26
    · rw [if_neg c_2] at hf
      refine lv_iload_n hx hb dX0_hasPile_12 rfl (lv_at hl 1 rfl) ?_
      refine lv_aload_n hx hb dX0_hasPile_13 rfl (lv_at hl 0 rfl) ?_
      refine k_get (k := 2) (v := .ref (L (aA g))) hx hb hts in_X0_hasPile_X0 hown hK hO (aG_lt hg) (cn_G g) rfl (by decide) lk_X0_hasPile_f20 rfl dX0_hasPile_14 ?_
      refine k_alen (v := 4) (t := 3) hx hb hK hO (aA_lt hg) (ct_A g) rfl rfl dX0_hasPile_17 ?_
      refine lv_icmp_ge (tgt := 25) hx hb dX0_hasPile_18 (by decide) (fun c_3 => ?_) (fun c_3 => ?_)
      · rw [if_pos c_3] at hf
        refine lv_iconst (v := 0) hx hb dX0_hasPile_25 (by decide) ?_
        obtain ⟨rfl, rfl⟩ := Prod.mk.inj (Option.some.inj hf)
        exact e_n hx hb hr (bo_n (by decide)) hK hN hO hlocks dX0_hasPile_26
      · rw [if_neg c_3] at hf
        refine lv_iconst (v := 1) hx hb dX0_hasPile_21 (by decide) ?_
        refine lv_goto (tgt := 26) hx hb dX0_hasPile_22 (by decide) ?_
        obtain ⟨rfl, rfl⟩ := Prod.mk.inj (Option.some.inj hf)
        exact e_n hx hb hr (bo_n (by decide)) hK hN hO hlocks dX0_hasPile_26
theorem in_X0_player_X0 : ∀ w ∈ u_ws RX0 TX0 10, w ∈ wsX0_player := by decide +kernel
theorem lk_X0_player_f27 : Cond.fieldLink RX0 27 "PoisonPiles$Game" "first" "LPoisonPiles$Player;" ∈ wsX0_player := by decide +kernel
theorem lk_X0_player_f31 : Cond.fieldLink RX0 31 "PoisonPiles$Game" "second" "LPoisonPiles$Player;" ∈ wsX0_player := by decide +kernel
def fX0_player  (g : Nat) (a1 : Int32) (X : XM) : Option (Nat × XM) := if a1 = 0 then some (0, X) else some (1, X)
set_option maxHeartbeats 4000000 in
set_option maxRecDepth 100000 in
theorem mX0_player (l : Launch) (D : va_G) (L : Nat → Nat) (ac : Nat → ClassId) (hL : LL L) (X : XM) (g : Nat) (hg : g < 11) (a1 : Int32) (r0 : Nat) (X0 : XM) (hf : fX0_player g a1 X = some (r0, X0)) : Cr l yX0_player wsX0_player ({ frames := 0, cells := 0, slots := 0, locals := 0 }) D L ac X [.ref (L (aG g)), .int a1] (aY g r0) X0 := by
  refine Met.ofK (cc := cX0_player) (maxL := 2) (ret := (some (.object "PoisonPiles$Player"))) (lv := [(0, .ref (L (aG g))), (1, .int a1)]) (by decide +kernel) rfl (Nat.le_of_ble_eq_true rfl) rfl ?_
  intro p e s m below meth c F hO ls hl
  obtain ⟨hx, hb, hr, hts, hown, hlocks, hml, hK, hN⟩ := id F
  have hA : ∀ q, fr L q → fr L q := fun q h => h
  unfold fX0_player at hf
  refine lv_iload_n hx hb dX0_player_0 rfl (lv_at hl 1 rfl) ?_
  refine lv_if_ne (tgt := 11) hx hb dX0_player_1 (by decide) (fun c_1 => ?_) (fun c_1 => ?_)
  · rw [if_neg c_1] at hf
    refine lv_aload_n hx hb dX0_player_11 rfl (lv_at hl 0 rfl) ?_
    refine k_get (k := 5) (v := .ref (L (aY g 1))) hx hb hts in_X0_player_X0 hown hK hO (aG_lt hg) (cn_G g) rfl (by decide) lk_X0_player_f31 rfl dX0_player_12 ?_
    obtain ⟨rfl, rfl⟩ := Prod.mk.inj (Option.some.inj hf)
    exact e_r hx hb hr hK hN hO hlocks dX0_player_15
  · rw [if_pos c_1] at hf
    subst c_1
    refine lv_aload_n hx hb dX0_player_4 rfl (lv_at hl 0 rfl) ?_
    refine k_get (k := 4) (v := .ref (L (aY g 0))) hx hb hts in_X0_player_X0 hown hK hO (aG_lt hg) (cn_G g) rfl (by decide) lk_X0_player_f27 rfl dX0_player_5 ?_
    refine lv_goto (tgt := 15) hx hb dX0_player_8 (by decide) ?_
    obtain ⟨rfl, rfl⟩ := Prod.mk.inj (Option.some.inj hf)
    exact e_r hx hb hr hK hN hO hlocks dX0_player_15
theorem ltX0_player {g : Nat} {a : Int32} {X : XM} {w : Nat} {Y : XM} (h : fX0_player g a X = some (w, Y)) : w < 2 := by
  unfold fX0_player at h
  split at h <;> (cases h; decide)
