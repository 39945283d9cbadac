theorem nx_method_X1_25 : Cond.methodLinkNest "PoisonPiles$History" 25 ⟨"PoisonPiles$Game", "copyFrom", "(LPoisonPiles$Game;)V"⟩ "PoisonPiles" ∈ nxW := List.mem_of_getElem? (i := 48) rfl
theorem nx_method_X5_34 : Cond.methodLinkNest "PoisonPiles$Sizes" 34 ⟨"PoisonPiles", "isIn", "(II)Z"⟩ "PoisonPiles" ∈ nxW := List.mem_of_getElem? (i := 66) rfl
theorem in_X1_dropOldest_X1 : ∀ w ∈ u_ws RX1 TX1 2, w ∈ wsX1_dropOldest := by decide +kernel
theorem lk_X1_dropOldest_f11 : Cond.fieldLink RX1 11 "PoisonPiles$History" "states" "[LPoisonPiles$Game;" ∈ wsX1_dropOldest := by decide +kernel
theorem lk_X1_dropOldest_f18 : Cond.fieldLink RX1 18 "PoisonPiles$History" "size" "I" ∈ wsX1_dropOldest := by decide +kernel
def fX1_dropOldest   (X : XM) : Option XM := zl (xup X 11 1 (nI (xun (X 11 2)))) (fun X_6 => zl (xup X_6 11 2 (nI (xun (X 11 1)))) (fun X_8 => zl (xup X_8 11 2 (nI (xun (X_8 11 3)))) (fun X_15 => zl (xup X_15 11 3 (nI (xun (X_8 11 2)))) (fun X_17 => zl (xup X_17 11 3 (nI (xun (X_17 11 4)))) (fun X_24 => zl (xup X_24 11 4 (nI (xun (X_17 11 3)))) (fun X_26 => zl (xup X_26 11 4 (nI (xun (X_26 11 5)))) (fun X_33 => zl (xup X_33 11 5 (nI (xun (X_26 11 4)))) (fun X_35 => zl (xup X_35 11 5 (nI (xun (X_35 11 6)))) (fun X_42 => zl (xup X_42 11 6 (nI (xun (X_35 11 5)))) (fun X_44 => zl (xup X_44 11 0 ((X_44 11 0) - 1)) (fun X_48 => some X_48)))))))))))
set_option maxHeartbeats 4000000 in
set_option maxRecDepth 100000 in
theorem mX1_dropOldest (l : Launch) (D : va_G) (L : Nat → Nat) (ac : Nat → ClassId) (hL : LL L) (X : XM)  (X0 : XM) (hf : fX1_dropOldest  X = some X0) : Cv l yX1_dropOldest wsX1_dropOldest ({ frames := 0, cells := 0, slots := 0, locals := 0 }) D L ac X [.ref (L 1)] X0 := by
  refine Met.ofK (cc := cX1_dropOldest) (maxL := 3) (ret := none) (lv := [(0, .ref (L 1))]) (by decide +kernel) rfl (Nat.le_of_ble_eq_true rfl) rfl ?_
  intro p e s m below meth c F hO ls hl
  obtain ⟨hx, hb, hr, hts, hown, hlocks, hml, hK, hN⟩ := id F
  have hA : ∀ q, fr L q → fr L q := fun q h => h
  unfold fX1_dropOldest at hf
  refine lv_iconst (v := 1) hx hb dX1_dropOldest_0 (by decide) ?_
  refine lv_istore_n (lv' := [(1, .int 1), (0, .ref (L 1))]) hx hb dX1_dropOldest_1 rfl hl (by decide) rfl (fun ls_1 hl_1 => ?_)
  clear hl
  refine lv_iload_n hx hb dX1_dropOldest_2 rfl (lv_at hl_1 0 rfl) ?_
  refine lv_aload_n hx hb dX1_dropOldest_3 rfl (lv_at hl_1 1 rfl) ?_
  refine k_get (k := 0) (v := .ref (L 2)) hx hb hts in_X1_dropOldest_X1 hown hK hO (by decide) rfl rfl (by decide) lk_X1_dropOldest_f11 rfl dX1_dropOldest_4 ?_
  refine k_alen (v := 6) (t := 4) hx hb hK hO (by decide) rfl rfl rfl dX1_dropOldest_7 ?_
  refine lv_icmp_ge (tgt := 47) hx hb dX1_dropOldest_8 (by decide) (fun c_2 => absurd c_2 (by decide)) (fun _ => ?_)
  refine lv_aload_n hx hb dX1_dropOldest_11 rfl (lv_at hl_1 1 rfl) ?_
  refine k_get (k := 0) (v := .ref (L 2)) hx hb hts in_X1_dropOldest_X1 hown hK hO (by decide) rfl rfl (by decide) lk_X1_dropOldest_f11 rfl dX1_dropOldest_12 ?_
  refine lv_iload_n hx hb dX1_dropOldest_15 rfl (lv_at hl_1 0 rfl) ?_
  refine lv_iconst (v := 1) hx hb dX1_dropOldest_16 (by decide) ?_
  refine lv_isub hx hb dX1_dropOldest_17 ?_
  refine lv_tope (z := 0) (by decide) ?_
  have hg_3 : xun (X 11 (0 + 1)) < 11 := hO.2.1 _ (by decide)
  refine k_aald hx hb hK hO (by decide) rfl rfl (show vp_in 0 6 from by unfold vp_in; decide) dX1_dropOldest_18 ?_
  refine lv_topr (b := L (aG (xun (X 11 1)))) rfl ?_
  refine lv_astore_n (lv' := [(2, .ref (L (aG (xun (X 11 1))))), (1, .int 1), (0, .ref (L 1))]) hx hb dX1_dropOldest_19 rfl hl_1 (by decide) rfl (fun ls_4 hl_4 => ?_)
  clear hl_1
  refine lv_aload_n hx hb dX1_dropOldest_20 rfl (lv_at hl_4 2 rfl) ?_
  refine k_get (k := 0) (v := .ref (L 2)) hx hb hts in_X1_dropOldest_X1 hown hK hO (by decide) rfl rfl (by decide) lk_X1_dropOldest_f11 rfl dX1_dropOldest_21 ?_
  refine lv_iload_n hx hb dX1_dropOldest_24 rfl (lv_at hl_4 1 rfl) ?_
  refine lv_iconst (v := 1) hx hb dX1_dropOldest_25 (by decide) ?_
  refine lv_isub hx hb dX1_dropOldest_26 ?_
  refine lv_tope (z := 0) (by decide) ?_
  refine lv_aload_n hx hb dX1_dropOldest_27 rfl (lv_at hl_4 2 rfl) ?_
  refine k_get (k := 0) (v := .ref (L 2)) hx hb hts in_X1_dropOldest_X1 hown hK hO (by decide) rfl rfl (by decide) lk_X1_dropOldest_f11 rfl dX1_dropOldest_28 ?_
  refine lv_iload_n hx hb dX1_dropOldest_31 rfl (lv_at hl_4 1 rfl) ?_
  have hg_5 : xun (X 11 (1 + 1)) < 11 := hO.2.1 _ (by decide)
  refine k_aald hx hb hK hO (by decide) rfl rfl (show vp_in 1 6 from by unfold vp_in; decide) dX1_dropOldest_32 ?_
  refine lv_topr (b := L (aG (xun (X 11 2)))) rfl ?_
  refine k_aast hx hb hK hL hA hO hg_5 (show vp_in 0 6 from by unfold vp_in; decide) dX1_dropOldest_33 (fun H_7 locs_7 hO_7 => ?_)
  replace hf := zl_some hf
  obtain ⟨X_6, hX_6, hf⟩ := hf
  have hQ_7 := zo_eq hX_6 hO_7
  clear hO_7 hO
  refine lv_aload_n hx hb dX1_dropOldest_34 rfl (lv_at hl_4 2 rfl) ?_
  refine k_get (k := 0) (v := .ref (L 2)) hx hb hts in_X1_dropOldest_X1 hown hK hQ_7 (by decide) rfl rfl (by decide) lk_X1_dropOldest_f11 rfl dX1_dropOldest_35 ?_
  refine lv_iload_n hx hb dX1_dropOldest_38 rfl (lv_at hl_4 1 rfl) ?_
  refine lv_aload_n hx hb dX1_dropOldest_39 rfl (lv_at hl_4 0 rfl) ?_
  refine k_aast hx hb hK hL hA hQ_7 hg_3 (show vp_in 1 6 from by unfold vp_in; decide) dX1_dropOldest_40 (fun H_9 locs_9 hO_9 => ?_)
  replace hf := zl_some hf
  obtain ⟨X_8, hX_8, hf⟩ := hf
  have hQ_9 := zo_eq hX_8 hO_9
  clear hO_9 hQ_7
  refine lv_iinc (v := 2) (lv' := [(1, .int 2), (2, .ref (L (aG (xun (X 11 1))))), (0, .ref (L 1))]) hx hb dX1_dropOldest_41 hl_4 (k := 1) rfl (by decide) (by decide) rfl (fun ls_10 hl_10 => ?_)
  clear hl_4
  refine lv_goto (tgt := 2) hx hb dX1_dropOldest_44 (by decide) ?_
  refine lv_iload_n hx hb dX1_dropOldest_2 rfl (lv_at hl_10 0 rfl) ?_
  refine lv_aload_n hx hb dX1_dropOldest_3 rfl (lv_at hl_10 2 rfl) ?_
  refine k_get (k := 0) (v := .ref (L 2)) hx hb hts in_X1_dropOldest_X1 hown hK hQ_9 (by decide) rfl rfl (by decide) lk_X1_dropOldest_f11 rfl dX1_dropOldest_4 ?_
  refine k_alen (v := 6) (t := 4) hx hb hK hQ_9 (by decide) rfl rfl rfl dX1_dropOldest_7 ?_
  refine lv_icmp_ge (tgt := 47) hx hb dX1_dropOldest_8 (by decide) (fun c_11 => absurd c_11 (by decide)) (fun _ => ?_)
  refine lv_aload_n hx hb dX1_dropOldest_11 rfl (lv_at hl_10 2 rfl) ?_
  refine k_get (k := 0) (v := .ref (L 2)) hx hb hts in_X1_dropOldest_X1 hown hK hQ_9 (by decide) rfl rfl (by decide) lk_X1_dropOldest_f11 rfl dX1_dropOldest_12 ?_
  refine lv_iload_n hx hb dX1_dropOldest_15 rfl (lv_at hl_10 0 rfl) ?_
  refine lv_iconst (v := 1) hx hb dX1_dropOldest_16 (by decide) ?_
  refine lv_isub hx hb dX1_dropOldest_17 ?_
  refine lv_tope (z := 1) (by decide) ?_
  have hg_12 : xun (X_8 11 (1 + 1)) < 11 := hQ_9.2.1 _ (by decide)
  refine k_aald hx hb hK hQ_9 (by decide) rfl rfl (show vp_in 1 6 from by unfold vp_in; decide) dX1_dropOldest_18 ?_
  refine lv_topr (b := L (aG (xun (X_8 11 2)))) rfl ?_
  refine lv_astore_n (lv' := [(2, .ref (L (aG (xun (X_8 11 2))))), (1, .int 2), (0, .ref (L 1))]) hx hb dX1_dropOldest_19 rfl hl_10 (by decide) rfl (fun ls_13 hl_13 => ?_)
  clear hl_10
  refine lv_aload_n hx hb dX1_dropOldest_20 rfl (lv_at hl_13 2 rfl) ?_
  refine k_get (k := 0) (v := .ref (L 2)) hx hb hts in_X1_dropOldest_X1 hown hK hQ_9 (by decide) rfl rfl (by decide) lk_X1_dropOldest_f11 rfl dX1_dropOldest_21 ?_
  refine lv_iload_n hx hb dX1_dropOldest_24 rfl (lv_at hl_13 1 rfl) ?_
  refine lv_iconst (v := 1) hx hb dX1_dropOldest_25 (by decide) ?_
  refine lv_isub hx hb dX1_dropOldest_26 ?_
  refine lv_tope (z := 1) (by decide) ?_
  refine lv_aload_n hx hb dX1_dropOldest_27 rfl (lv_at hl_13 2 rfl) ?_
  refine k_get (k := 0) (v := .ref (L 2)) hx hb hts in_X1_dropOldest_X1 hown hK hQ_9 (by decide) rfl rfl (by decide) lk_X1_dropOldest_f11 rfl dX1_dropOldest_28 ?_
  refine lv_iload_n hx hb dX1_dropOldest_31 rfl (lv_at hl_13 1 rfl) ?_
  have hg_14 : xun (X_8 11 (2 + 1)) < 11 := hQ_9.2.1 _ (by decide)
  refine k_aald hx hb hK hQ_9 (by decide) rfl rfl (show vp_in 2 6 from by unfold vp_in; decide) dX1_dropOldest_32 ?_
  refine lv_topr (b := L (aG (xun (X_8 11 3)))) rfl ?_
  refine k_aast hx hb hK hL hA hQ_9 hg_14 (show vp_in 1 6 from by unfold vp_in; decide) dX1_dropOldest_33 (fun H_16 locs_16 hO_16 => ?_)
  replace hf := zl_some hf
  obtain ⟨X_15, hX_15, hf⟩ := hf
  have hQ_16 := zo_eq hX_15 hO_16
  clear hO_16 hQ_9
  refine lv_aload_n hx hb dX1_dropOldest_34 rfl (lv_at hl_13 2 rfl) ?_
  refine k_get (k := 0) (v := .ref (L 2)) hx hb hts in_X1_dropOldest_X1 hown hK hQ_16 (by decide) rfl rfl (by decide) lk_X1_dropOldest_f11 rfl dX1_dropOldest_35 ?_
  refine lv_iload_n hx hb dX1_dropOldest_38 rfl (lv_at hl_13 1 rfl) ?_
  refine lv_aload_n hx hb dX1_dropOldest_39 rfl (lv_at hl_13 0 rfl) ?_
  refine k_aast hx hb hK hL hA hQ_16 hg_12 (show vp_in 2 6 from by unfold vp_in; decide) dX1_dropOldest_40 (fun H_18 locs_18 hO_18 => ?_)
  replace hf := zl_some hf
  obtain ⟨X_17, hX_17, hf⟩ := hf
  have hQ_18 := zo_eq hX_17 hO_18
  clear hO_18 hQ_16
  refine lv_iinc (v := 3) (lv' := [(1, .int 3), (2, .ref (L (aG (xun (X_8 11 2))))), (0, .ref (L 1))]) hx hb dX1_dropOldest_41 hl_13 (k := 1) rfl (by decide) (by decide) rfl (fun ls_19 hl_19 => ?_)
  clear hl_13
  refine lv_goto (tgt := 2) hx hb dX1_dropOldest_44 (by decide) ?_
  refine lv_iload_n hx hb dX1_dropOldest_2 rfl (lv_at hl_19 0 rfl) ?_
  refine lv_aload_n hx hb dX1_dropOldest_3 rfl (lv_at hl_19 2 rfl) ?_
  refine k_get (k := 0) (v := .ref (L 2)) hx hb hts in_X1_dropOldest_X1 hown hK hQ_18 (by decide) rfl rfl (by decide) lk_X1_dropOldest_f11 rfl dX1_dropOldest_4 ?_
  refine k_alen (v := 6) (t := 4) hx hb hK hQ_18 (by decide) rfl rfl rfl dX1_dropOldest_7 ?_
  refine lv_icmp_ge (tgt := 47) hx hb dX1_dropOldest_8 (by decide) (fun c_20 => absurd c_20 (by decide)) (fun _ => ?_)
  refine lv_aload_n hx hb dX1_dropOldest_11 rfl (lv_at hl_19 2 rfl) ?_
  refine k_get (k := 0) (v := .ref (L 2)) hx hb hts in_X1_dropOldest_X1 hown hK hQ_18 (by decide) rfl rfl (by decide) lk_X1_dropOldest_f11 rfl dX1_dropOldest_12 ?_
  refine lv_iload_n hx hb dX1_dropOldest_15 rfl (lv_at hl_19 0 rfl) ?_
  refine lv_iconst (v := 1) hx hb dX1_dropOldest_16 (by decide) ?_
  refine lv_isub hx hb dX1_dropOldest_17 ?_
  refine lv_tope (z := 2) (by decide) ?_
  have hg_21 : xun (X_17 11 (2 + 1)) < 11 := hQ_18.2.1 _ (by decide)
  refine k_aald hx hb hK hQ_18 (by decide) rfl rfl (show vp_in 2 6 from by unfold vp_in; decide) dX1_dropOldest_18 ?_
  refine lv_topr (b := L (aG (xun (X_17 11 3)))) rfl ?_
  refine lv_astore_n (lv' := [(2, .ref (L (aG (xun (X_17 11 3))))), (1, .int 3), (0, .ref (L 1))]) hx hb dX1_dropOldest_19 rfl hl_19 (by decide) rfl (fun ls_22 hl_22 => ?_)
  clear hl_19
  refine lv_aload_n hx hb dX1_dropOldest_20 rfl (lv_at hl_22 2 rfl) ?_
  refine k_get (k := 0) (v := .ref (L 2)) hx hb hts in_X1_dropOldest_X1 hown hK hQ_18 (by decide) rfl rfl (by decide) lk_X1_dropOldest_f11 rfl dX1_dropOldest_21 ?_
  refine lv_iload_n hx hb dX1_dropOldest_24 rfl (lv_at hl_22 1 rfl) ?_
  refine lv_iconst (v := 1) hx hb dX1_dropOldest_25 (by decide) ?_
  refine lv_isub hx hb dX1_dropOldest_26 ?_
  refine lv_tope (z := 2) (by decide) ?_
  refine lv_aload_n hx hb dX1_dropOldest_27 rfl (lv_at hl_22 2 rfl) ?_
  refine k_get (k := 0) (v := .ref (L 2)) hx hb hts in_X1_dropOldest_X1 hown hK hQ_18 (by decide) rfl rfl (by decide) lk_X1_dropOldest_f11 rfl dX1_dropOldest_28 ?_
  refine lv_iload_n hx hb dX1_dropOldest_31 rfl (lv_at hl_22 1 rfl) ?_
  have hg_23 : xun (X_17 11 (3 + 1)) < 11 := hQ_18.2.1 _ (by decide)
  refine k_aald hx hb hK hQ_18 (by decide) rfl rfl (show vp_in 3 6 from by unfold vp_in; decide) dX1_dropOldest_32 ?_
  refine lv_topr (b := L (aG (xun (X_17 11 4)))) rfl ?_
  refine k_aast hx hb hK hL hA hQ_18 hg_23 (show vp_in 2 6 from by unfold vp_in; decide) dX1_dropOldest_33 (fun H_25 locs_25 hO_25 => ?_)
  replace hf := zl_some hf
  obtain ⟨X_24, hX_24, hf⟩ := hf
  have hQ_25 := zo_eq hX_24 hO_25
  clear hO_25 hQ_18
  refine lv_aload_n hx hb dX1_dropOldest_34 rfl (lv_at hl_22 2 rfl) ?_
  refine k_get (k := 0) (v := .ref (L 2)) hx hb hts in_X1_dropOldest_X1 hown hK hQ_25 (by decide) rfl rfl (by decide) lk_X1_dropOldest_f11 rfl dX1_dropOldest_35 ?_
  refine lv_iload_n hx hb dX1_dropOldest_38 rfl (lv_at hl_22 1 rfl) ?_
  refine lv_aload_n hx hb dX1_dropOldest_39 rfl (lv_at hl_22 0 rfl) ?_
  refine k_aast hx hb hK hL hA hQ_25 hg_21 (show vp_in 3 6 from by unfold vp_in; decide) dX1_dropOldest_40 (fun H_27 locs_27 hO_27 => ?_)
  replace hf := zl_some hf
  obtain ⟨X_26, hX_26, hf⟩ := hf
  have hQ_27 := zo_eq hX_26 hO_27
  clear hO_27 hQ_25
  refine lv_iinc (v := 4) (lv' := [(1, .int 4), (2, .ref (L (aG (xun (X_17 11 3))))), (0, .ref (L 1))]) hx hb dX1_dropOldest_41 hl_22 (k := 1) rfl (by decide) (by decide) rfl (fun ls_28 hl_28 => ?_)
  clear hl_22
  refine lv_goto (tgt := 2) hx hb dX1_dropOldest_44 (by decide) ?_
  refine lv_iload_n hx hb dX1_dropOldest_2 rfl (lv_at hl_28 0 rfl) ?_
  refine lv_aload_n hx hb dX1_dropOldest_3 rfl (lv_at hl_28 2 rfl) ?_
  refine k_get (k := 0) (v := .ref (L 2)) hx hb hts in_X1_dropOldest_X1 hown hK hQ_27 (by decide) rfl rfl (by decide) lk_X1_dropOldest_f11 rfl dX1_dropOldest_4 ?_
  refine k_alen (v := 6) (t := 4) hx hb hK hQ_27 (by decide) rfl rfl rfl dX1_dropOldest_7 ?_
  refine lv_icmp_ge (tgt := 47) hx hb dX1_dropOldest_8 (by decide) (fun c_29 => absurd c_29 (by decide)) (fun _ => ?_)
  refine lv_aload_n hx hb dX1_dropOldest_11 rfl (lv_at hl_28 2 rfl) ?_
  refine k_get (k := 0) (v := .ref (L 2)) hx hb hts in_X1_dropOldest_X1 hown hK hQ_27 (by decide) rfl rfl (by decide) lk_X1_dropOldest_f11 rfl dX1_dropOldest_12 ?_
  refine lv_iload_n hx hb dX1_dropOldest_15 rfl (lv_at hl_28 0 rfl) ?_
  refine lv_iconst (v := 1) hx hb dX1_dropOldest_16 (by decide) ?_
  refine lv_isub hx hb dX1_dropOldest_17 ?_
  refine lv_tope (z := 3) (by decide) ?_
  have hg_30 : xun (X_26 11 (3 + 1)) < 11 := hQ_27.2.1 _ (by decide)
  refine k_aald hx hb hK hQ_27 (by decide) rfl rfl (show vp_in 3 6 from by unfold vp_in; decide) dX1_dropOldest_18 ?_
  refine lv_topr (b := L (aG (xun (X_26 11 4)))) rfl ?_
  refine lv_astore_n (lv' := [(2, .ref (L (aG (xun (X_26 11 4))))), (1, .int 4), (0, .ref (L 1))]) hx hb dX1_dropOldest_19 rfl hl_28 (by decide) rfl (fun ls_31 hl_31 => ?_)
  clear hl_28
  refine lv_aload_n hx hb dX1_dropOldest_20 rfl (lv_at hl_31 2 rfl) ?_
  refine k_get (k := 0) (v := .ref (L 2)) hx hb hts in_X1_dropOldest_X1 hown hK hQ_27 (by decide) rfl rfl (by decide) lk_X1_dropOldest_f11 rfl dX1_dropOldest_21 ?_
  refine lv_iload_n hx hb dX1_dropOldest_24 rfl (lv_at hl_31 1 rfl) ?_
  refine lv_iconst (v := 1) hx hb dX1_dropOldest_25 (by decide) ?_
  refine lv_isub hx hb dX1_dropOldest_26 ?_
  refine lv_tope (z := 3) (by decide) ?_
  refine lv_aload_n hx hb dX1_dropOldest_27 rfl (lv_at hl_31 2 rfl) ?_
  refine k_get (k := 0) (v := .ref (L 2)) hx hb hts in_X1_dropOldest_X1 hown hK hQ_27 (by decide) rfl rfl (by decide) lk_X1_dropOldest_f11 rfl dX1_dropOldest_28 ?_
  refine lv_iload_n hx hb dX1_dropOldest_31 rfl (lv_at hl_31 1 rfl) ?_
  have hg_32 : xun (X_26 11 (4 + 1)) < 11 := hQ_27.2.1 _ (by decide)
  refine k_aald hx hb hK hQ_27 (by decide) rfl rfl (show vp_in 4 6 from by unfold vp_in; decide) dX1_dropOldest_32 ?_
  refine lv_topr (b := L (aG (xun (X_26 11 5)))) rfl ?_
  refine k_aast hx hb hK hL hA hQ_27 hg_32 (show vp_in 3 6 from by unfold vp_in; decide) dX1_dropOldest_33 (fun H_34 locs_34 hO_34 => ?_)
  replace hf := zl_some hf
  obtain ⟨X_33, hX_33, hf⟩ := hf
  have hQ_34 := zo_eq hX_33 hO_34
  clear hO_34 hQ_27
  refine lv_aload_n hx hb dX1_dropOldest_34 rfl (lv_at hl_31 2 rfl) ?_
  refine k_get (k := 0) (v := .ref (L 2)) hx hb hts in_X1_dropOldest_X1 hown hK hQ_34 (by decide) rfl rfl (by decide) lk_X1_dropOldest_f11 rfl dX1_dropOldest_35 ?_
  refine lv_iload_n hx hb dX1_dropOldest_38 rfl (lv_at hl_31 1 rfl) ?_
  refine lv_aload_n hx hb dX1_dropOldest_39 rfl (lv_at hl_31 0 rfl) ?_
  refine k_aast hx hb hK hL hA hQ_34 hg_30 (show vp_in 4 6 from by unfold vp_in; decide) dX1_dropOldest_40 (fun H_36 locs_36 hO_36 => ?_)
  replace hf := zl_some hf
  obtain ⟨X_35, hX_35, hf⟩ := hf
  have hQ_36 := zo_eq hX_35 hO_36
  clear hO_36 hQ_34
  refine lv_iinc (v := 5) (lv' := [(1, .int 5), (2, .ref (L (aG (xun (X_26 11 4))))), (0, .ref (L 1))]) hx hb dX1_dropOldest_41 hl_31 (k := 1) rfl (by decide) (by decide) rfl (fun ls_37 hl_37 => ?_)
  clear hl_31
  refine lv_goto (tgt := 2) hx hb dX1_dropOldest_44 (by decide) ?_
  refine lv_iload_n hx hb dX1_dropOldest_2 rfl (lv_at hl_37 0 rfl) ?_
  refine lv_aload_n hx hb dX1_dropOldest_3 rfl (lv_at hl_37 2 rfl) ?_
  refine k_get (k := 0) (v := .ref (L 2)) hx hb hts in_X1_dropOldest_X1 hown hK hQ_36 (by decide) rfl rfl (by decide) lk_X1_dropOldest_f11 rfl dX1_dropOldest_4 ?_
  refine k_alen (v := 6) (t := 4) hx hb hK hQ_36 (by decide) rfl rfl rfl dX1_dropOldest_7 ?_
  refine lv_icmp_ge (tgt := 47) hx hb dX1_dropOldest_8 (by decide) (fun c_38 => absurd c_38 (by decide)) (fun _ => ?_)
  refine lv_aload_n hx hb dX1_dropOldest_11 rfl (lv_at hl_37 2 rfl) ?_
  refine k_get (k := 0) (v := .ref (L 2)) hx hb hts in_X1_dropOldest_X1 hown hK hQ_36 (by decide) rfl rfl (by decide) lk_X1_dropOldest_f11 rfl dX1_dropOldest_12 ?_
  refine lv_iload_n hx hb dX1_dropOldest_15 rfl (lv_at hl_37 0 rfl) ?_
  refine lv_iconst (v := 1) hx hb dX1_dropOldest_16 (by decide) ?_
  refine lv_isub hx hb dX1_dropOldest_17 ?_
  refine lv_tope (z := 4) (by decide) ?_
  have hg_39 : xun (X_35 11 (4 + 1)) < 11 := hQ_36.2.1 _ (by decide)
  refine k_aald hx hb hK hQ_36 (by decide) rfl rfl (show vp_in 4 6 from by unfold vp_in; decide) dX1_dropOldest_18 ?_
  refine lv_topr (b := L (aG (xun (X_35 11 5)))) rfl ?_
  refine lv_astore_n (lv' := [(2, .ref (L (aG (xun (X_35 11 5))))), (1, .int 5), (0, .ref (L 1))]) hx hb dX1_dropOldest_19 rfl hl_37 (by decide) rfl (fun ls_40 hl_40 => ?_)
  clear hl_37
  refine lv_aload_n hx hb dX1_dropOldest_20 rfl (lv_at hl_40 2 rfl) ?_
  refine k_get (k := 0) (v := .ref (L 2)) hx hb hts in_X1_dropOldest_X1 hown hK hQ_36 (by decide) rfl rfl (by decide) lk_X1_dropOldest_f11 rfl dX1_dropOldest_21 ?_
  refine lv_iload_n hx hb dX1_dropOldest_24 rfl (lv_at hl_40 1 rfl) ?_
  refine lv_iconst (v := 1) hx hb dX1_dropOldest_25 (by decide) ?_
  refine lv_isub hx hb dX1_dropOldest_26 ?_
  refine lv_tope (z := 4) (by decide) ?_
  refine lv_aload_n hx hb dX1_dropOldest_27 rfl (lv_at hl_40 2 rfl) ?_
  refine k_get (k := 0) (v := .ref (L 2)) hx hb hts in_X1_dropOldest_X1 hown hK hQ_36 (by decide) rfl rfl (by decide) lk_X1_dropOldest_f11 rfl dX1_dropOldest_28 ?_
  refine lv_iload_n hx hb dX1_dropOldest_31 rfl (lv_at hl_40 1 rfl) ?_
  have hg_41 : xun (X_35 11 (5 + 1)) < 11 := hQ_36.2.1 _ (by decide)
  refine k_aald hx hb hK hQ_36 (by decide) rfl rfl (show vp_in 5 6 from by unfold vp_in; decide) dX1_dropOldest_32 ?_
  refine lv_topr (b := L (aG (xun (X_35 11 6)))) rfl ?_
  refine k_aast hx hb hK hL hA hQ_36 hg_41 (show vp_in 4 6 from by unfold vp_in; decide) dX1_dropOldest_33 (fun H_43 locs_43 hO_43 => ?_)
  replace hf := zl_some hf
  obtain ⟨X_42, hX_42, hf⟩ := hf
  have hQ_43 := zo_eq hX_42 hO_43
  clear hO_43 hQ_36
  refine lv_aload_n hx hb dX1_dropOldest_34 rfl (lv_at hl_40 2 rfl) ?_
  refine k_get (k := 0) (v := .ref (L 2)) hx hb hts in_X1_dropOldest_X1 hown hK hQ_43 (by decide) rfl rfl (by decide) lk_X1_dropOldest_f11 rfl dX1_dropOldest_35 ?_
  refine lv_iload_n hx hb dX1_dropOldest_38 rfl (lv_at hl_40 1 rfl) ?_
  refine lv_aload_n hx hb dX1_dropOldest_39 rfl (lv_at hl_40 0 rfl) ?_
  refine k_aast hx hb hK hL hA hQ_43 hg_39 (show vp_in 5 6 from by unfold vp_in; decide) dX1_dropOldest_40 (fun H_45 locs_45 hO_45 => ?_)
  replace hf := zl_some hf
  obtain ⟨X_44, hX_44, hf⟩ := hf
  have hQ_45 := zo_eq hX_44 hO_45
  clear hO_45 hQ_43
  refine lv_iinc (v := 6) (lv' := [(1, .int 6), (2, .ref (L (aG (xun (X_35 11 5))))), (0, .ref (L 1))]) hx hb dX1_dropOldest_41 hl_40 (k := 1) rfl (by decide) (by decide) rfl (fun ls_46 hl_46 => ?_)
  clear hl_40
  refine lv_goto (tgt := 2) hx hb dX1_dropOldest_44 (by decide) ?_
  refine lv_iload_n hx hb dX1_dropOldest_2 rfl (lv_at hl_46 0 rfl) ?_
  refine lv_aload_n hx hb dX1_dropOldest_3 rfl (lv_at hl_46 2 rfl) ?_
  refine k_get (k := 0) (v := .ref (L 2)) hx hb hts in_X1_dropOldest_X1 hown hK hQ_45 (by decide) rfl rfl (by decide) lk_X1_dropOldest_f11 rfl dX1_dropOldest_4 ?_
  refine k_alen (v := 6) (t := 4) hx hb hK hQ_45 (by decide) rfl rfl rfl dX1_dropOldest_7 ?_
  refine lv_icmp_ge (tgt := 47) hx hb dX1_dropOldest_8 (by decide) (fun _ => ?_) (fun c_47 => absurd (by decide) c_47)
  refine lv_aload_n hx hb dX1_dropOldest_47 rfl (lv_at hl_46 2 rfl) ?_
  refine lv_dup hx hb dX1_dropOldest_48 rfl ?_
  refine k_get (k := 1) (v := .int (X_44 11 0)) hx hb hts in_X1_dropOldest_X1 hown hK hQ_45 (by decide) rfl rfl (by decide) lk_X1_dropOldest_f18 rfl dX1_dropOldest_49 ?_
  refine lv_iconst (v := 1) hx hb dX1_dropOldest_52 (by decide) ?_
  refine lv_isub hx hb dX1_dropOldest_53 ?_
  refine k_put (ty := .int) (k := 1) (r := 11) (k' := 0) hx hb tyX1 tyX1_ok nmX1 hts in_X1_dropOldest_X1 hown hK  hL hA hQ_45 (by decide) rfl (by omega) (fun Y => rfl) (by simp [xup]) rfl (by decide) lk_X1_dropOldest_f18 rfl (by decide +kernel) rfl rfl (Nat.le_of_ble_eq_true rfl) dX1_dropOldest_54 (fun H_49 locs_49 hO_49 => ?_)
  replace hf := zl_some hf
  obtain ⟨X_48, hX_48, hf⟩ := hf
  have hQ_49 := zo_eq hX_48 hO_49
  clear hO_49 hQ_45
  obtain rfl := Option.some.inj hf
  exact e_v hx hb hr hK hN hQ_49 hlocks dX1_dropOldest_57
theorem in_X1_add_X1 : ∀ w ∈ u_ws RX1 TX1 2, w ∈ wsX1_add := by decide +kernel
theorem lk_X1_add_eX0_copyFrom : Cond.selects RX0 yX0_copyFrom yX0_copyFrom ∈ wsX1_add := by decide +kernel
theorem lk_X1_add_f11 : Cond.fieldLink RX1 11 "PoisonPiles$History" "states" "[LPoisonPiles$Game;" ∈ wsX1_add := by decide +kernel
theorem lk_X1_add_f18 : Cond.fieldLink RX1 18 "PoisonPiles$History" "size" "I" ∈ wsX1_add := by decide +kernel
theorem lk_X1_add_iX0 : Cond.initialized RX0 ∈ wsX1_add := by decide +kernel
theorem lk_X1_add_mX0_copyFrom : Cond.instanceMethod yX0_copyFrom ∈ wsX1_add := by decide +kernel
def fX1_add  (g : Nat) (X : XM) : Option XM := if (X 11 0) < 6 then if (X 11 0) < 0 then some X else if 6 ≤ (X 11 0) then some X else zd (X 11 0) 6 (zv (fX0_copyFrom (xun (X 11 ((Int32.toNatClampNeg (X 11 0)) + 1))) g X) (fun X_6 => zl (xup X_6 11 0 ((X_6 11 0) + 1)) (fun X_8 => some X_8))) else zv (fX1_dropOldest X) (fun X_10 => if (X_10 11 0) < 0 then some X_10 else if 6 ≤ (X_10 11 0) then some X_10 else zd (X_10 11 0) 6 (zv (fX0_copyFrom (xun (X_10 11 ((Int32.toNatClampNeg (X_10 11 0)) + 1))) g X_10) (fun X_16 => zl (xup X_16 11 0 ((X_16 11 0) + 1)) (fun X_18 => some X_18))))
set_option maxHeartbeats 4000000 in
set_option maxRecDepth 100000 in
theorem mX1_add (l : Launch) (D : va_G) (L : Nat → Nat) (ac : Nat → ClassId) (hL : LL L) (X : XM) (g : Nat) (hg : g < 11) (X0 : XM) (hf : fX1_add g X = some X0) : Cv l yX1_add wsX1_add ({ frames := 2, cells := 0, slots := 0, locals := 43 }) D L ac X [.ref (L 1), .ref (L (aG g))] X0 := by
  refine Met.ofK (cc := cX1_add) (maxL := 2) (ret := none) (lv := [(0, .ref (L 1)), (1, .ref (L (aG g)))]) (by decide +kernel) rfl (Nat.le_of_ble_eq_true rfl) rfl ?_
  intro p e s m below meth c F hO ls hl
  obtain ⟨hx, hb, hr, hts, hown, hlocks, hml, hK, hN⟩ := id F
  have hA : ∀ q, fr L q → fr L q := fun q h => h
  unfold fX1_add at hf
  refine lv_aload_n hx hb dX1_add_0 rfl (lv_at hl 0 rfl) ?_
  refine k_get (k := 1) (v := .int (X 11 0)) hx hb hts in_X1_add_X1 hown hK hO (by decide) rfl rfl (by decide) lk_X1_add_f18 rfl dX1_add_1 ?_
  refine lv_aload_n hx hb dX1_add_4 rfl (lv_at hl 0 rfl) ?_
  refine k_get (k := 0) (v := .ref (L 2)) hx hb hts in_X1_add_X1 hown hK hO (by decide) rfl rfl (by decide) lk_X1_add_f11 rfl dX1_add_5 ?_
  refine k_alen (v := 6) (t := 4) hx hb hK hO (by decide) rfl rfl rfl dX1_add_8 ?_
  refine lv_icmp_lt (tgt := 16) hx hb dX1_add_9 (by decide) (fun c_1 => ?_) (fun c_1 => ?_)
  · rw [if_pos c_1] at hf
    refine lv_aload_n hx hb dX1_add_16 rfl (lv_at hl 0 rfl) ?_
    refine k_get (k := 1) (v := .int (X 11 0)) hx hb hts in_X1_add_X1 hown hK hO (by decide) rfl rfl (by decide) lk_X1_add_f18 rfl dX1_add_17 ?_
    refine lv_if_lt (tgt := 58) hx hb dX1_add_20 (by decide) (fun c_2 => ?_) (fun c_2 => ?_)
    · rw [if_pos c_2] at hf
      obtain rfl := Option.some.inj hf
      exact e_v hx hb hr hK hN hO hlocks dX1_add_58
    · rw [if_neg c_2] at hf
      refine lv_aload_n hx hb dX1_add_23 rfl (lv_at hl 0 rfl) ?_
      refine k_get (k := 1) (v := .int (X 11 0)) hx hb hts in_X1_add_X1 hown hK hO (by decide) rfl rfl (by decide) lk_X1_add_f18 rfl dX1_add_24 ?_
      refine lv_aload_n hx hb dX1_add_27 rfl (lv_at hl 0 rfl) ?_
      refine k_get (k := 0) (v := .ref (L 2)) hx hb hts in_X1_add_X1 hown hK hO (by decide) rfl rfl (by decide) lk_X1_add_f11 rfl dX1_add_28 ?_
      refine k_alen (v := 6) (t := 4) hx hb hK hO (by decide) rfl rfl rfl dX1_add_31 ?_
      refine lv_icmp_ge (tgt := 58) hx hb dX1_add_32 (by decide) (fun c_3 => ?_) (fun c_3 => ?_)
      · rw [if_pos c_3] at hf
        obtain rfl := Option.some.inj hf
        exact e_v hx hb hr hK hN hO hlocks dX1_add_58
      · rw [if_neg c_3] at hf
        refine lv_aload_n hx hb dX1_add_35 rfl (lv_at hl 0 rfl) ?_
        refine k_get (k := 0) (v := .ref (L 2)) hx hb hts in_X1_add_X1 hown hK hO (by decide) rfl rfl (by decide) lk_X1_add_f11 rfl dX1_add_36 ?_
        refine lv_aload_n hx hb dX1_add_39 rfl (lv_at hl 0 rfl) ?_
        refine k_get (k := 1) (v := .int (X 11 0)) hx hb hts in_X1_add_X1 hown hK hO (by decide) rfl rfl (by decide) lk_X1_add_f18 rfl dX1_add_40 ?_
        replace hf := zd_some hf
        obtain ⟨hi_4, hf⟩ := hf
        have hg_5 : xun (X 11 ((Int32.toNatClampNeg (X 11 0)) + 1)) < 11 := hO.2.1 _ (vp_lt hi_4)
        refine k_aald hx hb hK hO (by decide) rfl rfl hi_4 dX1_add_43 ?_
        refine lv_topr (b := L (aG (xun (X 11 ((Int32.toNatClampNeg (X 11 0)) + 1))))) rfl ?_
        refine lv_aload_n hx hb dX1_add_44 rfl (lv_at hl 1 rfl) ?_
        replace hf := zv_some hf
        obtain ⟨X_6, hc_6, hf⟩ := hf
        refine k_av (va_runVN (As := [.ref (L (aG g))]) (rest := []) ⟨hx, hb, hml, hown, hts⟩ (mX0_copyFrom l D L ac hL _ (xun (X 11 ((Int32.toNatClampNeg (X 11 0)) + 1))) hg_5 g hg _ hc_6) ⟨va_cnB 1 hts gX1_add_X0_copyFrom_n25 rfl rfl rfl (hN _ nx_method_X1_25) (hts _ lk_X1_add_iX0) (by decide +kernel) ⟨Nat.le_of_ble_eq_true rfl, Nat.le_of_ble_eq_true rfl⟩, hts _ lk_X1_add_mX0_copyFrom, hts _ lk_X1_add_eX0_copyFrom⟩ (k_pv (j := (aG (xun (X 11 ((Int32.toNatClampNeg (X 11 0)) + 1))))) hK hN hO (aG_lt hg_5) (cn_G (xun (X 11 ((Int32.toNatClampNeg (X 11 0)) + 1)))) rfl _) rfl rfl hl.1 rfl (lv_room (Nat.le_of_ble_eq_true rfl)) dX1_add_45 ⟨Nat.le_of_ble_eq_true rfl, Nat.le_of_ble_eq_true rfl⟩) hA hO (fun H_7 locs_7 hO_7 => ?_)
        clear hO
        refine lv_aload_n hx hb dX1_add_48 rfl (lv_at hl 0 rfl) ?_
        refine lv_dup hx hb dX1_add_49 rfl ?_
        refine k_get (k := 1) (v := .int (X_6 11 0)) hx hb hts in_X1_add_X1 hown hK hO_7 (by decide) rfl rfl (by decide) lk_X1_add_f18 rfl dX1_add_50 ?_
        refine lv_iconst (v := 1) hx hb dX1_add_53 (by decide) ?_
        refine lv_iadd hx hb dX1_add_54 ?_
        refine k_put (ty := .int) (k := 1) (r := 11) (k' := 0) hx hb tyX1 tyX1_ok nmX1 hts in_X1_add_X1 hown hK  hL hA hO_7 (by decide) rfl (by omega) (fun Y => rfl) (by simp [xup]) rfl (by decide) lk_X1_add_f18 rfl (by decide +kernel) rfl rfl (Nat.le_of_ble_eq_true rfl) dX1_add_55 (fun H_9 locs_9 hO_9 => ?_)
        replace hf := zl_some hf
        obtain ⟨X_8, hX_8, hf⟩ := hf
        have hQ_9 := zo_eq hX_8 hO_9
        clear hO_9 hO_7
        obtain rfl := Option.some.inj hf
        exact e_v hx hb hr hK hN hQ_9 hlocks dX1_add_58
  · rw [if_neg c_1] at hf
    refine lv_aload_n hx hb dX1_add_12 rfl (lv_at hl 0 rfl) ?_
    replace hf := zv_some hf
    obtain ⟨X_10, hc_10, hf⟩ := hf
    refine k_av (va_runV (As := []) (rest := []) ⟨hx, hb, hml, hown, hts⟩ (mX1_dropOldest l D L ac hL _  _ hc_10) (cwV 0 hts gX1_add_X1_dropOldest rfl rfl rfl (by decide +kernel) ⟨Nat.le_of_ble_eq_true rfl, Nat.le_of_ble_eq_true rfl⟩) (k_pv (j := 1) hK hN hO (by decide) rfl rfl _) rfl rfl hl.1 rfl (lv_room (Nat.le_of_ble_eq_true rfl)) dX1_add_13 ⟨Nat.le_of_ble_eq_true rfl, Nat.le_of_ble_eq_true rfl⟩) hA hO (fun H_11 locs_11 hO_11 => ?_)
    clear hO
    refine lv_aload_n hx hb dX1_add_16 rfl (lv_at hl 0 rfl) ?_
    refine k_get (k := 1) (v := .int (X_10 11 0)) hx hb hts in_X1_add_X1 hown hK hO_11 (by decide) rfl rfl (by decide) lk_X1_add_f18 rfl dX1_add_17 ?_
    refine lv_if_lt (tgt := 58) hx hb dX1_add_20 (by decide) (fun c_12 => ?_) (fun c_12 => ?_)
    · rw [if_pos c_12] at hf
      obtain rfl := Option.some.inj hf
      exact e_v hx hb hr hK hN hO_11 hlocks dX1_add_58
    · rw [if_neg c_12] at hf
      refine lv_aload_n hx hb dX1_add_23 rfl (lv_at hl 0 rfl) ?_
      refine k_get (k := 1) (v := .int (X_10 11 0)) hx hb hts in_X1_add_X1 hown hK hO_11 (by decide) rfl rfl (by decide) lk_X1_add_f18 rfl dX1_add_24 ?_
      refine lv_aload_n hx hb dX1_add_27 rfl (lv_at hl 0 rfl) ?_
      refine k_get (k := 0) (v := .ref (L 2)) hx hb hts in_X1_add_X1 hown hK hO_11 (by decide) rfl rfl (by decide) lk_X1_add_f11 rfl dX1_add_28 ?_
      refine k_alen (v := 6) (t := 4) hx hb hK hO_11 (by decide) rfl rfl rfl dX1_add_31 ?_
      refine lv_icmp_ge (tgt := 58) hx hb dX1_add_32 (by decide) (fun c_13 => ?_) (fun c_13 => ?_)
      · rw [if_pos c_13] at hf
        obtain rfl := Option.some.inj hf
        exact e_v hx hb hr hK hN hO_11 hlocks dX1_add_58
      · rw [if_neg c_13] at hf
        refine lv_aload_n hx hb dX1_add_35 rfl (lv_at hl 0 rfl) ?_
        refine k_get (k := 0) (v := .ref (L 2)) hx hb hts in_X1_add_X1 hown hK hO_11 (by decide) rfl rfl (by decide) lk_X1_add_f11 rfl dX1_add_36 ?_
        refine lv_aload_n hx hb dX1_add_39 rfl (lv_at hl 0 rfl) ?_
        refine k_get (k := 1) (v := .int (X_10 11 0)) hx hb hts in_X1_add_X1 hown hK hO_11 (by decide) rfl rfl (by decide) lk_X1_add_f18 rfl dX1_add_40 ?_
        replace hf := zd_some hf
        obtain ⟨hi_14, hf⟩ := hf
        have hg_15 : xun (X_10 11 ((Int32.toNatClampNeg (X_10 11 0)) + 1)) < 11 := hO_11.2.1 _ (vp_lt hi_14)
        refine k_aald hx hb hK hO_11 (by decide) rfl rfl hi_14 dX1_add_43 ?_
        refine lv_topr (b := L (aG (xun (X_10 11 ((Int32.toNatClampNeg (X_10 11 0)) + 1))))) rfl ?_
        refine lv_aload_n hx hb dX1_add_44 rfl (lv_at hl 1 rfl) ?_
        replace hf := zv_some hf
        obtain ⟨X_16, hc_16, hf⟩ := hf
        refine k_av (va_runVN (As := [.ref (L (aG g))]) (rest := []) ⟨hx, hb, hml, hown, hts⟩ (mX0_copyFrom l D L ac hL _ (xun (X_10 11 ((Int32.toNatClampNeg (X_10 11 0)) + 1))) hg_15 g hg _ hc_16) ⟨va_cnB 1 hts gX1_add_X0_copyFrom_n25 rfl rfl rfl (hN _ nx_method_X1_25) (hts _ lk_X1_add_iX0) (by decide +kernel) ⟨Nat.le_of_ble_eq_true rfl, Nat.le_of_ble_eq_true rfl⟩, hts _ lk_X1_add_mX0_copyFrom, hts _ lk_X1_add_eX0_copyFrom⟩ (k_pv (j := (aG (xun (X_10 11 ((Int32.toNatClampNeg (X_10 11 0)) + 1))))) hK hN hO_11 (aG_lt hg_15) (cn_G (xun (X_10 11 ((Int32.toNatClampNeg (X_10 11 0)) + 1)))) rfl _) rfl rfl hl.1 rfl (lv_room (Nat.le_of_ble_eq_true rfl)) dX1_add_45 ⟨Nat.le_of_ble_eq_true rfl, Nat.le_of_ble_eq_true rfl⟩) hA hO_11 (fun H_17 locs_17 hO_17 => ?_)
        clear hO_11
        refine lv_aload_n hx hb dX1_add_48 rfl (lv_at hl 0 rfl) ?_
        refine lv_dup hx hb dX1_add_49 rfl ?_
        refine k_get (k := 1) (v := .int (X_16 11 0)) hx hb hts in_X1_add_X1 hown hK hO_17 (by decide) rfl rfl (by decide) lk_X1_add_f18 rfl dX1_add_50 ?_
        refine lv_iconst (v := 1) hx hb dX1_add_53 (by decide) ?_
        refine lv_iadd hx hb dX1_add_54 ?_
        refine k_put (ty := .int) (k := 1) (r := 11) (k' := 0) hx hb tyX1 tyX1_ok nmX1 hts in_X1_add_X1 hown hK  hL hA hO_17 (by decide) rfl (by omega) (fun Y => rfl) (by simp [xup]) rfl (by decide) lk_X1_add_f18 rfl (by decide +kernel) rfl rfl (Nat.le_of_ble_eq_true rfl) dX1_add_55 (fun H_19 locs_19 hO_19 => ?_)
        replace hf := zl_some hf
        obtain ⟨X_18, hX_18, hf⟩ := hf
        have hQ_19 := zo_eq hX_18 hO_19
        clear hO_19 hO_17
        obtain rfl := Option.some.inj hf
        exact e_v hx hb hr hK hN hQ_19 hlocks dX1_add_58
theorem in_X1_takeBack_X1 : ∀ w ∈ u_ws RX1 TX1 2, w ∈ wsX1_takeBack := by decide +kernel
theorem lk_X1_takeBack_eX0_copyFrom : Cond.selects RX0 yX0_copyFrom yX0_copyFrom ∈ wsX1_takeBack := by decide +kernel
theorem lk_X1_takeBack_f11 : Cond.fieldLink RX1 11 "PoisonPiles$History" "states" "[LPoisonPiles$Game;" ∈ wsX1_takeBack := by decide +kernel
theorem lk_X1_takeBack_f18 : Cond.fieldLink RX1 18 "PoisonPiles$History" "size" "I" ∈ wsX1_takeBack := by decide +kernel
theorem lk_X1_takeBack_iX0 : Cond.initialized RX0 ∈ wsX1_takeBack := by decide +kernel
theorem lk_X1_takeBack_mX0_copyFrom : Cond.instanceMethod yX0_copyFrom ∈ wsX1_takeBack := by decide +kernel
def fX1_takeBack  (g : Nat) (X : XM) : Option (Int32 × XM) := if (X 11 0) < 1 then some (0, X) else if (X 11 0) ≤ 6 then zl (xup X 11 0 ((X 11 0) - 1)) (fun X_3 => zd (X_3 11 0) 6 (zv (fX0_copyFrom g (xun (X_3 11 ((Int32.toNatClampNeg (X_3 11 0)) + 1))) X_3) (fun X_7 => some (1, X_7)))) else some (0, X)
set_option maxHeartbeats 4000000 in
set_option maxRecDepth 100000 in
theorem mX1_takeBack (l : Launch) (D : va_G) (L : Nat → Nat) (ac : Nat → ClassId) (hL : LL L) (X : XM) (g : Nat) (hg : g < 11) (r0 : Int32) (X0 : XM) (hf : fX1_takeBack g X = some (r0, X0)) : Ci l yX1_takeBack wsX1_takeBack ({ frames := 2, cells := 0, slots := 0, locals := 43 }) D L ac X [.ref (L 1), .ref (L (aG g))] r0 X0 := by
  refine Met.ofK (cc := cX1_takeBack) (maxL := 2) (ret := (some .boolean)) (lv := [(0, .ref (L 1)), (1, .ref (L (aG g)))]) (by decide +kernel) rfl (Nat.le_of_ble_eq_true rfl) rfl ?_
  intro p e s m below meth c F hO ls hl
  obtain ⟨hx, hb, hr, hts, hown, hlocks, hml, hK, hN⟩ := id F
  have hA : ∀ q, fr L q → fr L q := fun q h => h
  unfold fX1_takeBack at hf
  refine lv_aload_n hx hb dX1_takeBack_0 rfl (lv_at hl 0 rfl) ?_
  refine k_get (k := 1) (v := .int (X 11 0)) hx hb hts in_X1_takeBack_X1 hown hK hO (by decide) rfl rfl (by decide) lk_X1_takeBack_f18 rfl dX1_takeBack_1 ?_
  refine lv_iconst (v := 1) hx hb dX1_takeBack_4 (by decide) ?_
  refine lv_icmp_lt (tgt := 20) hx hb dX1_takeBack_5 (by decide) (fun c_1 => ?_) (fun c_1 => ?_)
  · rw [if_pos c_1] at hf
    refine lv_iconst (v := 0) hx hb dX1_takeBack_20 (by decide) ?_
    obtain ⟨rfl, rfl⟩ := Prod.mk.inj (Option.some.inj hf)
    exact e_n hx hb hr (bo_n (by decide)) hK hN hO hlocks dX1_takeBack_21
  · rw [if_neg c_1] at hf
    refine lv_aload_n hx hb dX1_takeBack_8 rfl (lv_at hl 0 rfl) ?_
    refine k_get (k := 1) (v := .int (X 11 0)) hx hb hts in_X1_takeBack_X1 hown hK hO (by decide) rfl rfl (by decide) lk_X1_takeBack_f18 rfl dX1_takeBack_9 ?_
    refine lv_aload_n hx hb dX1_takeBack_12 rfl (lv_at hl 0 rfl) ?_
    refine k_get (k := 0) (v := .ref (L 2)) hx hb hts in_X1_takeBack_X1 hown hK hO (by decide) rfl rfl (by decide) lk_X1_takeBack_f11 rfl dX1_takeBack_13 ?_
    refine k_alen (v := 6) (t := 4) hx hb hK hO (by decide) rfl rfl rfl dX1_takeBack_16 ?_
    refine lv_icmp_le (tgt := 22) hx hb dX1_takeBack_17 (by decide) (fun c_2 => ?_) (fun c_2 => ?_)
    · rw [if_pos c_2] at hf
      refine lv_aload_n hx hb dX1_takeBack_22 rfl (lv_at hl 0 rfl) ?_
      refine lv_dup hx hb dX1_takeBack_23 rfl ?_
      refine k_get (k := 1) (v := .int (X 11 0)) hx hb hts in_X1_takeBack_X1 hown hK hO (by decide) rfl rfl (by decide) lk_X1_takeBack_f18 rfl dX1_takeBack_24 ?_
      refine lv_iconst (v := 1) hx hb dX1_takeBack_27 (by decide) ?_
      refine lv_isub hx hb dX1_takeBack_28 ?_
      refine k_put (ty := .int) (k := 1) (r := 11) (k' := 0) hx hb tyX1 tyX1_ok nmX1 hts in_X1_takeBack_X1 hown hK  hL hA hO (by decide) rfl (by omega) (fun Y => rfl) (by simp [xup]) rfl (by decide) lk_X1_takeBack_f18 rfl (by decide +kernel) rfl rfl (Nat.le_of_ble_eq_true rfl) dX1_takeBack_29 (fun H_4 locs_4 hO_4 => ?_)
      replace hf := zl_some hf
      obtain ⟨X_3, hX_3, hf⟩ := hf
      have hQ_4 := zo_eq hX_3 hO_4
      clear hO_4 hO
      refine lv_aload_n hx hb dX1_takeBack_32 rfl (lv_at hl 1 rfl) ?_
      refine lv_aload_n hx hb dX1_takeBack_33 rfl (lv_at hl 0 rfl) ?_
      refine k_get (k := 0) (v := .ref (L 2)) hx hb hts in_X1_takeBack_X1 hown hK hQ_4 (by decide) rfl rfl (by decide) lk_X1_takeBack_f11 rfl dX1_takeBack_34 ?_
      refine lv_aload_n hx hb dX1_takeBack_37 rfl (lv_at hl 0 rfl) ?_
      refine k_get (k := 1) (v := .int (X_3 11 0)) hx hb hts in_X1_takeBack_X1 hown hK hQ_4 (by decide) rfl rfl (by decide) lk_X1_takeBack_f18 rfl dX1_takeBack_38 ?_
      replace hf := zd_some hf
      obtain ⟨hi_5, hf⟩ := hf
      have hg_6 : xun (X_3 11 ((Int32.toNatClampNeg (X_3 11 0)) + 1)) < 11 := hQ_4.2.1 _ (vp_lt hi_5)
      refine k_aald hx hb hK hQ_4 (by decide) rfl rfl hi_5 dX1_takeBack_41 ?_
      refine lv_topr (b := L (aG (xun (X_3 11 ((Int32.toNatClampNeg (X_3 11 0)) + 1))))) rfl ?_
      replace hf := zv_some hf
      obtain ⟨X_7, hc_7, hf⟩ := hf
      refine k_av (va_runVN (As := [.ref (L (aG (xun (X_3 11 ((Int32.toNatClampNeg (X_3 11 0)) + 1)))))]) (rest := []) ⟨hx, hb, hml, hown, hts⟩ (mX0_copyFrom l D L ac hL _ g hg (xun (X_3 11 ((Int32.toNatClampNeg (X_3 11 0)) + 1))) hg_6 _ hc_7) ⟨va_cnB 1 hts gX1_takeBack_X0_copyFrom_n25 rfl rfl rfl (hN _ nx_method_X1_25) (hts _ lk_X1_takeBack_iX0) (by decide +kernel) ⟨Nat.le_of_ble_eq_true rfl, Nat.le_of_ble_eq_true rfl⟩, hts _ lk_X1_takeBack_mX0_copyFrom, hts _ lk_X1_takeBack_eX0_copyFrom⟩ (k_pv (j := (aG g)) hK hN hQ_4 (aG_lt hg) (cn_G g) rfl _) rfl rfl hl.1 rfl (lv_room (Nat.le_of_ble_eq_true rfl)) dX1_takeBack_42 ⟨Nat.le_of_ble_eq_true rfl, Nat.le_of_ble_eq_true rfl⟩) hA hQ_4 (fun H_8 locs_8 hO_8 => ?_)
      clear hQ_4
      refine lv_iconst (v := 1) hx hb dX1_takeBack_45 (by decide) ?_
      obtain ⟨rfl, rfl⟩ := Prod.mk.inj (Option.some.inj hf)
      exact e_n hx hb hr (bo_n (by decide)) hK hN hO_8 hlocks dX1_takeBack_46
    · rw [if_neg c_2] at hf
      refine lv_iconst (v := 0) hx hb dX1_takeBack_20 (by decide) ?_
      obtain ⟨rfl, rfl⟩ := Prod.mk.inj (Option.some.inj hf)
      exact e_n hx hb hr (bo_n (by decide)) hK hN hO hlocks dX1_takeBack_21
theorem lk_X2_codeIn_c19 : Cond.constantLong RX2 19 (255) ∈ wsX2_codeIn := by decide +kernel
def fX2_codeIn  (a1 : Int64) (a2 : Int32) (X : XM) : Option (Int32 × XM) := some (Int64.toInt32 ((o_lus a1 (8 * a2)) &&& (255 : Int64)), X)
set_option maxHeartbeats 4000000 in
set_option maxRecDepth 100000 in
theorem mX2_codeIn (l : Launch) (D : va_G) (L : Nat → Nat) (ac : Nat → ClassId) (hL : LL L) (X : XM) (a1 : Int64) (a2 : Int32) (r0 : Int32) (X0 : XM) (hf : fX2_codeIn a1 a2 X = some (r0, X0)) : Ci l yX2_codeIn wsX2_codeIn ({ frames := 0, cells := 0, slots := 0, locals := 0 }) D L ac X [.long a1, .int a2] r0 X0 := by
  refine Met.ofK (cc := cX2_codeIn) (maxL := 3) (ret := (some .int)) (lv := [(0, .long a1), (2, .int a2)]) (by decide +kernel) rfl (Nat.le_of_ble_eq_true rfl) rfl ?_
  intro p e s m below meth c F hO ls hl
  obtain ⟨hx, hb, hr, hts, hown, hlocks, hml, hK, hN⟩ := id F
  have hA : ∀ q, fr L q → fr L q := fun q h => h
  unfold fX2_codeIn at hf
  refine lv_lload_n hx hb dX2_codeIn_0 rfl (lv_at hl 0 rfl) ?_
  refine lv_bipush (v := 8) hx hb dX2_codeIn_1 (by decide) ?_
  refine lv_iload_n hx hb dX2_codeIn_3 rfl (lv_at hl 1 rfl) ?_
  refine lv_imul hx hb dX2_codeIn_4 ?_
  refine lv_lushr hx hb dX2_codeIn_5 rfl ?_
  refine lv_ldc2 (v := 255) hx hb hown (hts _ lk_X2_codeIn_c19) dX2_codeIn_6 ?_
  refine lv_land hx hb dX2_codeIn_9 ?_
  refine lv_l2i hx hb dX2_codeIn_10 rfl ?_
  obtain ⟨rfl, rfl⟩ := Prod.mk.inj (Option.some.inj hf)
  exact e_i hx hb hr hK hN hO hlocks dX2_codeIn_11
def fX2_charactersIn_2   : Nat → Int64 → Int32 → XM → Option (Int32 × XM)
  | 0, _, _, _ => none
  | n + 1, x0, x2, X => if 8 ≤ x2 then if x2 = 8 then some (8, X) else if (lg_cmp (o_lus x0 (8 * x2)) (0 : Int64)) = 0 then some (x2, X) else some (0, X) else zi (fX2_codeIn x0 x2 X) (fun r_11 X_10 => if r_11 = 0 then if x2 = 8 then some (8, X_10) else if (lg_cmp (o_lus x0 (8 * x2)) (0 : Int64)) = 0 then some (x2, X_10) else some (0, X_10) else zi (fX2_codeIn x0 x2 X_10) (fun r_23 X_22 => if r_23 < 33 then some (0, X_22) else if r_23 ≤ 126 then fX2_charactersIn_2 n x0 (x2 + 1) X_22 else some (0, X_22)))
set_option maxHeartbeats 4000000 in
set_option maxRecDepth 100000 in
theorem wX2_charactersIn_2 {p : Program} {l : Launch} {e : Env} {s : State} {m : MethodId} {args : Array Value} {below : List Frame} {meth : Method} {c : Code} {D : va_G} {L : Nat → Nat} {ac : Nat → ClassId} {r0 : Int32} {X0 : XM} (hL : LL L) (F : Fx p s m args meth c cX2_charactersIn 4 (some .int) wsX2_charactersIn yX2_charactersIn.cls D ac) : ∀ (n : Nat) (x0 : Int64) (x2 : Int32) (X : XM) (H : Heap) (locs : List Loc) (ls : Array Slot), Oh D L ac X (fr L) s.heap H locs → lv_has ls 4 [(0, .long x0), (2, .int x2)] → fX2_charactersIn_2 n x0 x2 X = some (r0, X0) → W p l e (headSpec wsX2_charactersIn ({ frames := 1, cells := 0, slots := 0, locals := 22 })).room s m args below meth c H locs 0 0 (MQ below (va_Qi (fun (r : Int32) (Y : XM) => r = r0 ∧ Y = X0) (fun (Y : XM) t => St D L ac Y t) (fr L)) args s 0 0 (fr L)) (F0 m 2 ls []) := by
  obtain ⟨hx, hb, hr, hts, hown, hlocks, hml, hK, hN⟩ := id F
  have hA : ∀ q, fr L q → fr L q := fun q h => h
  intro n
  induction n with
  | zero => intro x0 x2 X H locs ls hO hl hf; simp [fX2_charactersIn_2] at hf
  | succ n ih =>
    intro x0 x2 X H locs ls hO hl hf
    rw [fX2_charactersIn_2] at hf
    refine lv_iload_n hx hb dX2_charactersIn_2 rfl (lv_at hl 1 rfl) ?_
    refine lv_bipush (v := 8) hx hb dX2_charactersIn_3 (by decide) ?_
    refine lv_icmp_ge (tgt := 42) hx hb dX2_charactersIn_5 (by decide) (fun c_1 => ?_) (fun c_1 => ?_)
    · rw [if_pos c_1] at hf
      refine lv_iload_n hx hb dX2_charactersIn_42 rfl (lv_at hl 1 rfl) ?_
      refine lv_bipush (v := 8) hx hb dX2_charactersIn_43 (by decide) ?_
      refine lv_icmp_eq (tgt := 59) hx hb dX2_charactersIn_45 (by decide) (fun c_2 => ?_) (fun c_2 => ?_)
      · rw [if_pos c_2] at hf
        subst c_2
        refine lv_iconst (v := 1) hx hb dX2_charactersIn_59 (by decide) ?_
        refine lv_goto (tgt := 64) hx hb dX2_charactersIn_60 (by decide) ?_
        refine lv_istore_n (lv' := [(3, .int 1), (0, .long x0), (2, .int 8)]) hx hb dX2_charactersIn_64 rfl hl (by decide) rfl (fun ls_3 hl_3 => ?_)
        clear hl
        refine lv_iload_n hx hb dX2_charactersIn_65 rfl (lv_at hl_3 0 rfl) ?_
        refine lv_if_eq (tgt := 73) hx hb dX2_charactersIn_66 (by decide) (fun c_4 => absurd c_4 (by decide)) (fun _ => ?_)
        refine lv_iload_n hx hb dX2_charactersIn_69 rfl (lv_at hl_3 2 rfl) ?_
        refine lv_goto (tgt := 74) hx hb dX2_charactersIn_70 (by decide) ?_
        obtain ⟨rfl, rfl⟩ := Prod.mk.inj (Option.some.inj hf)
        exact e_i hx hb hr hK hN hO hlocks dX2_charactersIn_74
      · rw [if_neg c_2] at hf
        refine lv_lload_n hx hb dX2_charactersIn_48 rfl (lv_at hl 0 rfl) ?_
        refine lv_bipush (v := 8) hx hb dX2_charactersIn_49 (by decide) ?_
        refine lv_iload_n hx hb dX2_charactersIn_51 rfl (lv_at hl 1 rfl) ?_
        refine lv_imul hx hb dX2_charactersIn_52 ?_
        refine lv_lushr hx hb dX2_charactersIn_53 rfl ?_
        refine lv_lconst (v := 0) hx hb dX2_charactersIn_54 (by decide) ?_
        refine W.lcmp hx hb dX2_charactersIn_55 ?_
        refine lv_if_ne (tgt := 63) hx hb dX2_charactersIn_56 (by decide) (fun c_5 => ?_) (fun c_5 => ?_)
        · rw [if_neg c_5] at hf
          refine lv_iconst (v := 0) hx hb dX2_charactersIn_63 (by decide) ?_
          refine lv_istore_n (lv' := [(3, .int 0), (0, .long x0), (2, .int x2)]) hx hb dX2_charactersIn_64 rfl hl (by decide) rfl (fun ls_6 hl_6 => ?_)
          clear hl
          refine lv_iload_n hx hb dX2_charactersIn_65 rfl (lv_at hl_6 0 rfl) ?_
          refine lv_if_eq (tgt := 73) hx hb dX2_charactersIn_66 (by decide) (fun _ => ?_) (fun c_7 => absurd (by decide) c_7)
          refine lv_iconst (v := 0) hx hb dX2_charactersIn_73 (by decide) ?_
          obtain ⟨rfl, rfl⟩ := Prod.mk.inj (Option.some.inj hf)
          exact e_i hx hb hr hK hN hO hlocks dX2_charactersIn_74
        · rw [if_pos c_5] at hf
          refine lv_iconst (v := 1) hx hb dX2_charactersIn_59 (by decide) ?_
          refine lv_goto (tgt := 64) hx hb dX2_charactersIn_60 (by decide) ?_
          refine lv_istore_n (lv' := [(3, .int 1), (0, .long x0), (2, .int x2)]) hx hb dX2_charactersIn_64 rfl hl (by decide) rfl (fun ls_8 hl_8 => ?_)
          clear hl
          refine lv_iload_n hx hb dX2_charactersIn_65 rfl (lv_at hl_8 0 rfl) ?_
          refine lv_if_eq (tgt := 73) hx hb dX2_charactersIn_66 (by decide) (fun c_9 => absurd c_9 (by decide)) (fun _ => ?_)
          refine lv_iload_n hx hb dX2_charactersIn_69 rfl (lv_at hl_8 2 rfl) ?_
          refine lv_goto (tgt := 74) hx hb dX2_charactersIn_70 (by decide) ?_
          obtain ⟨rfl, rfl⟩ := Prod.mk.inj (Option.some.inj hf)
          exact e_i hx hb hr hK hN hO hlocks dX2_charactersIn_74
    · rw [if_neg c_1] at hf
      refine lv_lload_n hx hb dX2_charactersIn_8 rfl (lv_at hl 0 rfl) ?_
      refine lv_iload_n hx hb dX2_charactersIn_9 rfl (lv_at hl 1 rfl) ?_
      replace hf := zi_some hf
      obtain ⟨r_11, X_10, hc_10, hf⟩ := hf
      refine k_ai (va_runS (As := [.long x0, .int x2]) (rest := []) ⟨hx, hb, hml, hown, hts⟩ (mX2_codeIn l D L ac hL _ x0 x2 _ _ hc_10) (va_cwS 2 hts gX2_charactersIn_X2_codeIn rfl rfl rfl (by decide +kernel) ⟨Nat.le_of_ble_eq_true rfl, Nat.le_of_ble_eq_true rfl⟩) (k_ps hK hN hO _) rfl rfl hl.1 rfl (lv_room (Nat.le_of_ble_eq_true rfl)) dX2_charactersIn_10 ⟨Nat.le_of_ble_eq_true rfl, Nat.le_of_ble_eq_true rfl⟩) hA hO (fun H_12 locs_12 hO_12 => ?_)
      clear hO
      refine lv_if_eq (tgt := 42) hx hb dX2_charactersIn_13 (by decide) (fun c_13 => ?_) (fun c_13 => ?_)
      · rw [if_pos c_13] at hf
        subst c_13
        refine lv_iload_n hx hb dX2_charactersIn_42 rfl (lv_at hl 1 rfl) ?_
        refine lv_bipush (v := 8) hx hb dX2_charactersIn_43 (by decide) ?_
        refine lv_icmp_eq (tgt := 59) hx hb dX2_charactersIn_45 (by decide) (fun c_14 => ?_) (fun c_14 => ?_)
        · rw [if_pos c_14] at hf
          subst c_14
          refine lv_iconst (v := 1) hx hb dX2_charactersIn_59 (by decide) ?_
          refine lv_goto (tgt := 64) hx hb dX2_charactersIn_60 (by decide) ?_
          refine lv_istore_n (lv' := [(3, .int 1), (0, .long x0), (2, .int 8)]) hx hb dX2_charactersIn_64 rfl hl (by decide) rfl (fun ls_15 hl_15 => ?_)
          clear hl
          refine lv_iload_n hx hb dX2_charactersIn_65 rfl (lv_at hl_15 0 rfl) ?_
          refine lv_if_eq (tgt := 73) hx hb dX2_charactersIn_66 (by decide) (fun c_16 => absurd c_16 (by decide)) (fun _ => ?_)
          refine lv_iload_n hx hb dX2_charactersIn_69 rfl (lv_at hl_15 2 rfl) ?_
          refine lv_goto (tgt := 74) hx hb dX2_charactersIn_70 (by decide) ?_
          obtain ⟨rfl, rfl⟩ := Prod.mk.inj (Option.some.inj hf)
          exact e_i hx hb hr hK hN hO_12 hlocks dX2_charactersIn_74
        · rw [if_neg c_14] at hf
          refine lv_lload_n hx hb dX2_charactersIn_48 rfl (lv_at hl 0 rfl) ?_
          refine lv_bipush (v := 8) hx hb dX2_charactersIn_49 (by decide) ?_
          refine lv_iload_n hx hb dX2_charactersIn_51 rfl (lv_at hl 1 rfl) ?_
          refine lv_imul hx hb dX2_charactersIn_52 ?_
          refine lv_lushr hx hb dX2_charactersIn_53 rfl ?_
          refine lv_lconst (v := 0) hx hb dX2_charactersIn_54 (by decide) ?_
          refine W.lcmp hx hb dX2_charactersIn_55 ?_
          refine lv_if_ne (tgt := 63) hx hb dX2_charactersIn_56 (by decide) (fun c_17 => ?_) (fun c_17 => ?_)
          · rw [if_neg c_17] at hf
            refine lv_iconst (v := 0) hx hb dX2_charactersIn_63 (by decide) ?_
            refine lv_istore_n (lv' := [(3, .int 0), (0, .long x0), (2, .int x2)]) hx hb dX2_charactersIn_64 rfl hl (by decide) rfl (fun ls_18 hl_18 => ?_)
            clear hl
            refine lv_iload_n hx hb dX2_charactersIn_65 rfl (lv_at hl_18 0 rfl) ?_
            refine lv_if_eq (tgt := 73) hx hb dX2_charactersIn_66 (by decide) (fun _ => ?_) (fun c_19 => absurd (by decide) c_19)
            refine lv_iconst (v := 0) hx hb dX2_charactersIn_73 (by decide) ?_
            obtain ⟨rfl, rfl⟩ := Prod.mk.inj (Option.some.inj hf)
            exact e_i hx hb hr hK hN hO_12 hlocks dX2_charactersIn_74
          · rw [if_pos c_17] at hf
            refine lv_iconst (v := 1) hx hb dX2_charactersIn_59 (by decide) ?_
            refine lv_goto (tgt := 64) hx hb dX2_charactersIn_60 (by decide) ?_
            refine lv_istore_n (lv' := [(3, .int 1), (0, .long x0), (2, .int x2)]) hx hb dX2_charactersIn_64 rfl hl (by decide) rfl (fun ls_20 hl_20 => ?_)
            clear hl
            refine lv_iload_n hx hb dX2_charactersIn_65 rfl (lv_at hl_20 0 rfl) ?_
            refine lv_if_eq (tgt := 73) hx hb dX2_charactersIn_66 (by decide) (fun c_21 => absurd c_21 (by decide)) (fun _ => ?_)
            refine lv_iload_n hx hb dX2_charactersIn_69 rfl (lv_at hl_20 2 rfl) ?_
            refine lv_goto (tgt := 74) hx hb dX2_charactersIn_70 (by decide) ?_
            obtain ⟨rfl, rfl⟩ := Prod.mk.inj (Option.some.inj hf)
            exact e_i hx hb hr hK hN hO_12 hlocks dX2_charactersIn_74
      · rw [if_neg c_13] at hf
        refine lv_lload_n hx hb dX2_charactersIn_16 rfl (lv_at hl 0 rfl) ?_
        refine lv_iload_n hx hb dX2_charactersIn_17 rfl (lv_at hl 1 rfl) ?_
        replace hf := zi_some hf
        obtain ⟨r_23, X_22, hc_22, hf⟩ := hf
        refine k_ai (va_runS (As := [.long x0, .int x2]) (rest := []) ⟨hx, hb, hml, hown, hts⟩ (mX2_codeIn l D L ac hL _ x0 x2 _ _ hc_22) (va_cwS 2 hts gX2_charactersIn_X2_codeIn rfl rfl rfl (by decide +kernel) ⟨Nat.le_of_ble_eq_true rfl, Nat.le_of_ble_eq_true rfl⟩) (k_ps hK hN hO_12 _) rfl rfl hl.1 rfl (lv_room (Nat.le_of_ble_eq_true rfl)) dX2_charactersIn_18 ⟨Nat.le_of_ble_eq_true rfl, Nat.le_of_ble_eq_true rfl⟩) hA hO_12 (fun H_24 locs_24 hO_24 => ?_)
        clear hO_12
        refine lv_istore_n (lv' := [(3, .int r_23), (0, .long x0), (2, .int x2)]) hx hb dX2_charactersIn_21 rfl hl (by decide) rfl (fun ls_25 hl_25 => ?_)
        clear hl
        refine lv_iload_n hx hb dX2_charactersIn_22 rfl (lv_at hl_25 0 rfl) ?_
        refine lv_bipush (v := 33) hx hb dX2_charactersIn_23 (by decide) ?_
        refine lv_icmp_lt (tgt := 34) hx hb dX2_charactersIn_25 (by decide) (fun c_26 => ?_) (fun c_26 => ?_)
        · rw [if_pos c_26] at hf
          refine lv_iconst (v := 0) hx hb dX2_charactersIn_34 (by decide) ?_
          obtain ⟨rfl, rfl⟩ := Prod.mk.inj (Option.some.inj hf)
          exact e_i hx hb hr hK hN hO_24 hlocks dX2_charactersIn_35
        · rw [if_neg c_26] at hf
          refine lv_iload_n hx hb dX2_charactersIn_28 rfl (lv_at hl_25 0 rfl) ?_
          refine lv_bipush (v := 126) hx hb dX2_charactersIn_29 (by decide) ?_
          refine lv_icmp_le (tgt := 36) hx hb dX2_charactersIn_31 (by decide) (fun c_27 => ?_) (fun c_27 => ?_)
          · rw [if_pos c_27] at hf
            refine lv_iinc (v := x2 + 1) (lv' := [(2, .int (x2 + 1)), (3, .int r_23), (0, .long x0)]) hx hb dX2_charactersIn_36 hl_25 (k := 2) rfl rfl (by decide) rfl (fun ls_28 hl_28 => ?_)
            clear hl_25
            refine lv_goto (tgt := 2) hx hb dX2_charactersIn_39 (by decide) ?_
            exact ih _ _ _  _ _ _ hO_24 (lv_sub hl_28 [2, 0] rfl) hf
          · rw [if_neg c_27] at hf
            refine lv_iconst (v := 0) hx hb dX2_charactersIn_34 (by decide) ?_
            obtain ⟨rfl, rfl⟩ := Prod.mk.inj (Option.some.inj hf)
            exact e_i hx hb hr hK hN hO_24 hlocks dX2_charactersIn_35
def fX2_charactersIn  (a1 : Int64) (X : XM) : Option (Int32 × XM) := fX2_charactersIn_2 fuel a1 0 X
set_option maxHeartbeats 4000000 in
set_option maxRecDepth 100000 in
theorem mX2_charactersIn (l : Launch) (D : va_G) (L : Nat → Nat) (ac : Nat → ClassId) (hL : LL L) (X : XM) (a1 : Int64) (r0 : Int32) (X0 : XM) (hf : fX2_charactersIn a1 X = some (r0, X0)) : Ci l yX2_charactersIn wsX2_charactersIn ({ frames := 1, cells := 0, slots := 0, locals := 22 }) D L ac X [.long a1] r0 X0 := by
  refine Met.ofK (cc := cX2_charactersIn) (maxL := 4) (ret := (some .int)) (lv := [(0, .long a1)]) (by decide +kernel) rfl (Nat.le_of_ble_eq_true rfl) rfl ?_
  intro p e s m below meth c F hO ls hl
  obtain ⟨hx, hb, hr, hts, hown, hlocks, hml, hK, hN⟩ := id F
  have hA : ∀ q, fr L q → fr L q := fun q h => h
  unfold fX2_charactersIn at hf
  refine lv_iconst (v := 0) hx hb dX2_charactersIn_0 (by decide) ?_
  refine lv_istore_n (lv' := [(2, .int 0), (0, .long a1)]) hx hb dX2_charactersIn_1 rfl hl (by decide) rfl (fun ls_29 hl_29 => ?_)
  clear hl
  exact wX2_charactersIn_2 hL F  fuel _ _ _  _ _ _ hO (lv_sub hl_29 [1, 0] rfl) hf
theorem in_X2_append_X2 : ∀ w ∈ u_ws RX2 TX2 2, w ∈ wsX2_append := by decide +kernel
theorem lk_X2_append_f21 : Cond.fieldLink RX2 21 "PoisonPiles$Pad" "length" "I" ∈ wsX2_append := by decide +kernel
theorem lk_X2_append_f9 : Cond.fieldLink RX2 9 "PoisonPiles$Pad" "characters" "[C" ∈ wsX2_append := by decide +kernel
def fX2_append_5   : Nat → Int64 → Int32 → Int32 → XM → Option XM
  | 0, _, _, _, _ => none
  | n + 1, x1, x3, x4, X => if x4 < 0 then some X else if (X 20 0) < 0 then fX2_append_5 n x1 x3 (x4 + (-1)) X else if 80 ≤ (X 20 0) then fX2_append_5 n x1 x3 (x4 + (-1)) X else zi (fX2_codeIn x1 x4 X) (fun r_7 X_6 => zd (X 20 0) 80 (zl (xup X_6 21 (Int32.toNatClampNeg (X 20 0)) (vp_nar .char ((r_7.toUInt32 % 65536).toInt32))) (fun X_10 => zl (xup X_10 20 0 ((X_10 20 0) + 1)) (fun X_12 => fX2_append_5 n x1 x3 (x4 + (-1)) X_12))))
set_option maxHeartbeats 4000000 in
set_option maxRecDepth 100000 in
theorem wX2_append_5 {p : Program} {l : Launch} {e : Env} {s : State} {m : MethodId} {args : Array Value} {below : List Frame} {meth : Method} {c : Code} {D : va_G} {L : Nat → Nat} {ac : Nat → ClassId} {X0 : XM} (hL : LL L) (F : Fx p s m args meth c cX2_append 5 none wsX2_append yX2_append.cls D ac) : ∀ (n : Nat) (x1 : Int64) (x3 : Int32) (x4 : Int32) (X : XM) (H : Heap) (locs : List Loc) (ls : Array Slot), Oh D L ac X (fr L) s.heap H locs → lv_has ls 5 [(0, .ref (L 13)), (1, .long x1), (3, .int x3), (4, .int x4)] → fX2_append_5 n x1 x3 x4 X = some X0 → W p l e (headSpec wsX2_append ({ frames := 1, cells := 0, slots := 0, locals := 22 })).room s m args below meth c H locs 0 0 (MQ below (va_Qv (fun (Y : XM) => Y = X0) (fun (Y : XM) t => St D L ac Y t) (fr L)) args s 0 0 (fr L)) (F0 m 5 ls []) := by
  obtain ⟨hx, hb, hr, hts, hown, hlocks, hml, hK, hN⟩ := id F
  have hA : ∀ q, fr L q → fr L q := fun q h => h
  intro n
  induction n with
  | zero => intro x1 x3 x4 X H locs ls hO hl hf; simp [fX2_append_5] at hf
  | succ n ih =>
    intro x1 x3 x4 X H locs ls hO hl hf
    rw [fX2_append_5] at hf
    refine lv_iload hx hb dX2_append_5 (lv_at hl 3 rfl) ?_
    refine lv_if_lt (tgt := 61) hx hb dX2_append_7 (by decide) (fun c_1 => ?_) (fun c_1 => ?_)
    · rw [if_pos c_1] at hf
      obtain rfl := Option.some.inj hf
      exact e_v hx hb hr hK hN hO hlocks dX2_append_61
    · rw [if_neg c_1] at hf
      refine lv_aload_n hx hb dX2_append_10 rfl (lv_at hl 0 rfl) ?_
      refine k_get (k := 1) (v := .int (X 20 0)) hx hb hts in_X2_append_X2 hown hK hO (by decide) rfl rfl (by decide) lk_X2_append_f21 rfl dX2_append_11 ?_
      refine lv_if_lt (tgt := 55) hx hb dX2_append_14 (by decide) (fun c_2 => ?_) (fun c_2 => ?_)
      · rw [if_pos c_2] at hf
        refine lv_iinc (v := x4 + (-1)) (lv' := [(4, .int (x4 + (-1))), (0, .ref (L 13)), (1, .long x1), (3, .int x3)]) hx hb dX2_append_55 hl (k := 3) rfl rfl (by decide) rfl (fun ls_3 hl_3 => ?_)
        clear hl
        refine lv_goto (tgt := 5) hx hb dX2_append_58 (by decide) ?_
        exact ih _ _ _ _  _ _ _ hO (lv_sub hl_3 [1, 2, 3, 0] rfl) hf
      · rw [if_neg c_2] at hf
        refine lv_aload_n hx hb dX2_append_17 rfl (lv_at hl 0 rfl) ?_
        refine k_get (k := 1) (v := .int (X 20 0)) hx hb hts in_X2_append_X2 hown hK hO (by decide) rfl rfl (by decide) lk_X2_append_f21 rfl dX2_append_18 ?_
        refine lv_aload_n hx hb dX2_append_21 rfl (lv_at hl 0 rfl) ?_
        refine k_get (k := 0) (v := .ref (L 14)) hx hb hts in_X2_append_X2 hown hK hO (by decide) rfl rfl (by decide) lk_X2_append_f9 rfl dX2_append_22 ?_
        refine k_alen (v := 80) (t := 1) hx hb hK hO (by decide) rfl rfl rfl dX2_append_25 ?_
        refine lv_icmp_ge (tgt := 55) hx hb dX2_append_26 (by decide) (fun c_4 => ?_) (fun c_4 => ?_)
        · rw [if_pos c_4] at hf
          refine lv_iinc (v := x4 + (-1)) (lv' := [(4, .int (x4 + (-1))), (0, .ref (L 13)), (1, .long x1), (3, .int x3)]) hx hb dX2_append_55 hl (k := 3) rfl rfl (by decide) rfl (fun ls_5 hl_5 => ?_)
          clear hl
          refine lv_goto (tgt := 5) hx hb dX2_append_58 (by decide) ?_
          exact ih _ _ _ _  _ _ _ hO (lv_sub hl_5 [1, 2, 3, 0] rfl) hf
        · rw [if_neg c_4] at hf
          refine lv_aload_n hx hb dX2_append_29 rfl (lv_at hl 0 rfl) ?_
          refine k_get (k := 0) (v := .ref (L 14)) hx hb hts in_X2_append_X2 hown hK hO (by decide) rfl rfl (by decide) lk_X2_append_f9 rfl dX2_append_30 ?_
          refine lv_aload_n hx hb dX2_append_33 rfl (lv_at hl 0 rfl) ?_
          refine k_get (k := 1) (v := .int (X 20 0)) hx hb hts in_X2_append_X2 hown hK hO (by decide) rfl rfl (by decide) lk_X2_append_f21 rfl dX2_append_34 ?_
          refine lv_lload_n hx hb dX2_append_37 rfl (lv_at hl 1 rfl) ?_
          refine lv_iload hx hb dX2_append_38 (lv_at hl 3 rfl) ?_
          replace hf := zi_some hf
          obtain ⟨r_7, X_6, hc_6, hf⟩ := hf
          refine k_ai (va_runS (As := [.long x1, .int x4]) (rest := [.int (X 20 0), .ref (L 14)]) ⟨hx, hb, hml, hown, hts⟩ (mX2_codeIn l D L ac hL _ x1 x4 _ _ hc_6) (va_cwS 2 hts gX2_append_X2_codeIn rfl rfl rfl (by decide +kernel) ⟨Nat.le_of_ble_eq_true rfl, Nat.le_of_ble_eq_true rfl⟩) (k_ps hK hN hO _) rfl rfl hl.1 rfl (lv_room (Nat.le_of_ble_eq_true rfl)) dX2_append_40 ⟨Nat.le_of_ble_eq_true rfl, Nat.le_of_ble_eq_true rfl⟩) hA hO (fun H_8 locs_8 hO_8 => ?_)
          clear hO
          refine lv_i2c hx hb dX2_append_43 rfl ?_
          replace hf := zd_some hf
          obtain ⟨hi_9, hf⟩ := hf
          refine k_cast hx hb hK hL hA hO_8 (by decide) (by decide) rfl (fun _ => rfl) hi_9 dX2_append_44 (fun H_11 locs_11 hO_11 => ?_)
          replace hf := zl_some hf
          obtain ⟨X_10, hX_10, hf⟩ := hf
          have hQ_11 := zo_eq hX_10 hO_11
          clear hO_11 hO_8
          refine lv_aload_n hx hb dX2_append_45 rfl (lv_at hl 0 rfl) ?_
          refine lv_dup hx hb dX2_append_46 rfl ?_
          refine k_get (k := 1) (v := .int (X_10 20 0)) hx hb hts in_X2_append_X2 hown hK hQ_11 (by decide) rfl rfl (by decide) lk_X2_append_f21 rfl dX2_append_47 ?_
          refine lv_iconst (v := 1) hx hb dX2_append_50 (by decide) ?_
          refine lv_iadd hx hb dX2_append_51 ?_
          refine k_put (ty := .int) (k := 1) (r := 20) (k' := 0) hx hb tyX2 tyX2_ok nmX2 hts in_X2_append_X2 hown hK  hL hA hQ_11 (by decide) rfl (by omega) (fun Y => rfl) (by simp [xup]) rfl (by decide) lk_X2_append_f21 rfl (by decide +kernel) rfl rfl (Nat.le_of_ble_eq_true rfl) dX2_append_52 (fun H_13 locs_13 hO_13 => ?_)
          replace hf := zl_some hf
          obtain ⟨X_12, hX_12, hf⟩ := hf
          have hQ_13 := zo_eq hX_12 hO_13
          clear hO_13 hQ_11
          refine lv_iinc (v := x4 + (-1)) (lv' := [(4, .int (x4 + (-1))), (0, .ref (L 13)), (1, .long x1), (3, .int x3)]) hx hb dX2_append_55 hl (k := 3) rfl rfl (by decide) rfl (fun ls_14 hl_14 => ?_)
          clear hl
          refine lv_goto (tgt := 5) hx hb dX2_append_58 (by decide) ?_
          exact ih _ _ _ _  _ _ _ hQ_13 (lv_sub hl_14 [1, 2, 3, 0] rfl) hf
def fX2_append  (a1 : Int64) (a2 : Int32) (X : XM) : Option XM := zl (a2 - 1) (fun v_15 => fX2_append_5 fuel a1 a2 v_15 X)
set_option maxHeartbeats 4000000 in
set_option maxRecDepth 100000 in
theorem mX2_append (l : Launch) (D : va_G) (L : Nat → Nat) (ac : Nat → ClassId) (hL : LL L) (X : XM) (a1 : Int64) (a2 : Int32) (X0 : XM) (hf : fX2_append a1 a2 X = some X0) : Cv l yX2_append wsX2_append ({ frames := 1, cells := 0, slots := 0, locals := 22 }) D L ac X [.ref (L 13), .long a1, .int a2] X0 := by
  refine Met.ofK (cc := cX2_append) (maxL := 5) (ret := none) (lv := [(0, .ref (L 13)), (1, .long a1), (3, .int a2)]) (by decide +kernel) rfl (Nat.le_of_ble_eq_true rfl) rfl ?_
  intro p e s m below meth c F hO ls hl
  obtain ⟨hx, hb, hr, hts, hown, hlocks, hml, hK, hN⟩ := id F
  have hA : ∀ q, fr L q → fr L q := fun q h => h
  unfold fX2_append at hf
  refine lv_iload_n hx hb dX2_append_0 rfl (lv_at hl 2 rfl) ?_
  refine lv_iconst (v := 1) hx hb dX2_append_1 (by decide) ?_
  refine lv_isub hx hb dX2_append_2 ?_
  replace hf := zl_some hf
  obtain ⟨v_15, hv_15, hf⟩ := hf
  refine lv_tope hv_15 ?_
  refine lv_istore (lv' := [(4, .int v_15), (0, .ref (L 13)), (1, .long a1), (3, .int a2)]) hx hb dX2_append_3 hl (by decide) rfl (fun ls_16 hl_16 => ?_)
  clear hl
  exact wX2_append_5 hL F  fuel _ _ _ _  _ _ _ hO (lv_sub hl_16 [1, 2, 3, 0] rfl) hf
theorem in_X2_at_X2 : ∀ w ∈ u_ws RX2 TX2 2, w ∈ wsX2_at := by decide +kernel
theorem lk_X2_at_f21 : Cond.fieldLink RX2 21 "PoisonPiles$Pad" "length" "I" ∈ wsX2_at := by decide +kernel
theorem lk_X2_at_f9 : Cond.fieldLink RX2 9 "PoisonPiles$Pad" "characters" "[C" ∈ wsX2_at := by decide +kernel
def fX2_at  (a1 : Int32) (X : XM) : Option (Int32 × XM) := if a1 < 0 then some (59, X) else if (X 20 0) ≤ a1 then some (59, X) else if a1 < 80 then zd a1 80 (zc (X 21 (Int32.toNatClampNeg a1)) (some (X 21 (Int32.toNatClampNeg a1), X))) else some (59, X)
set_option maxHeartbeats 4000000 in
set_option maxRecDepth 100000 in
theorem mX2_at (l : Launch) (D : va_G) (L : Nat → Nat) (ac : Nat → ClassId) (hL : LL L) (X : XM) (a1 : Int32) (r0 : Int32) (X0 : XM) (hf : fX2_at a1 X = some (r0, X0)) : Ci l yX2_at wsX2_at ({ frames := 0, cells := 0, slots := 0, locals := 0 }) D L ac X [.ref (L 13), .int a1] r0 X0 := by
  refine Met.ofK (cc := cX2_at) (maxL := 2) (ret := (some .char)) (lv := [(0, .ref (L 13)), (1, .int a1)]) (by decide +kernel) rfl (Nat.le_of_ble_eq_true rfl) rfl ?_
  intro p e s m below meth c F hO ls hl
  obtain ⟨hx, hb, hr, hts, hown, hlocks, hml, hK, hN⟩ := id F
  have hA : ∀ q, fr L q → fr L q := fun q h => h
  unfold fX2_at at hf
  refine lv_iload_n hx hb dX2_at_0 rfl (lv_at hl 1 rfl) ?_
  refine lv_if_lt (tgt := 21) hx hb dX2_at_1 (by decide) (fun c_1 => ?_) (fun c_1 => ?_)
  · rw [if_pos c_1] at hf
    refine lv_bipush (v := 59) hx hb dX2_at_21 (by decide) ?_
    obtain ⟨rfl, rfl⟩ := Prod.mk.inj (Option.some.inj hf)
    exact e_n hx hb hr (by decide +kernel) hK hN hO hlocks dX2_at_23
  · rw [if_neg c_1] at hf
    refine lv_iload_n hx hb dX2_at_4 rfl (lv_at hl 1 rfl) ?_
    refine lv_aload_n hx hb dX2_at_5 rfl (lv_at hl 0 rfl) ?_
    refine k_get (k := 1) (v := .int (X 20 0)) hx hb hts in_X2_at_X2 hown hK hO (by decide) rfl rfl (by decide) lk_X2_at_f21 rfl dX2_at_6 ?_
    refine lv_icmp_ge (tgt := 21) hx hb dX2_at_9 (by decide) (fun c_2 => ?_) (fun c_2 => ?_)
    · rw [if_pos c_2] at hf
      refine lv_bipush (v := 59) hx hb dX2_at_21 (by decide) ?_
      obtain ⟨rfl, rfl⟩ := Prod.mk.inj (Option.some.inj hf)
      exact e_n hx hb hr (by decide +kernel) hK hN hO hlocks dX2_at_23
    · rw [if_neg c_2] at hf
      refine lv_iload_n hx hb dX2_at_12 rfl (lv_at hl 1 rfl) ?_
      refine lv_aload_n hx hb dX2_at_13 rfl (lv_at hl 0 rfl) ?_
      refine k_get (k := 0) (v := .ref (L 14)) hx hb hts in_X2_at_X2 hown hK hO (by decide) rfl rfl (by decide) lk_X2_at_f9 rfl dX2_at_14 ?_
      refine k_alen (v := 80) (t := 1) hx hb hK hO (by decide) rfl rfl rfl dX2_at_17 ?_
      refine lv_icmp_lt (tgt := 24) hx hb dX2_at_18 (by decide) (fun c_3 => ?_) (fun c_3 => ?_)
      · rw [if_pos c_3] at hf
        refine lv_aload_n hx hb dX2_at_24 rfl (lv_at hl 0 rfl) ?_
        refine k_get (k := 0) (v := .ref (L 14)) hx hb hts in_X2_at_X2 hown hK hO (by decide) rfl rfl (by decide) lk_X2_at_f9 rfl dX2_at_25 ?_
        refine lv_iload_n hx hb dX2_at_28 rfl (lv_at hl 1 rfl) ?_
        replace hf := zd_some hf
        obtain ⟨hi_4, hf⟩ := hf
        refine k_cald hx hb hK hO (by decide) (fun _ => rfl) hi_4 dX2_at_29 ?_
        replace hf := zc_some hf
        obtain ⟨hb_5, hf⟩ := hf
        obtain ⟨rfl, rfl⟩ := Prod.mk.inj (Option.some.inj hf)
        exact e_n hx hb hr (zc_n hb_5) hK hN hO hlocks dX2_at_30
      · rw [if_neg c_3] at hf
        refine lv_bipush (v := 59) hx hb dX2_at_21 (by decide) ?_
        obtain ⟨rfl, rfl⟩ := Prod.mk.inj (Option.some.inj hf)
        exact e_n hx hb hr (by decide +kernel) hK hN hO hlocks dX2_at_23
def fX2_digitAt  (a1 : Int32) (X : XM) : Option (Int32 × XM) := zi (fX2_at a1 X) (fun r_2 X_1 => some (r_2 - 48, X_1))
set_option maxHeartbeats 4000000 in
set_option maxRecDepth 100000 in
theorem mX2_digitAt (l : Launch) (D : va_G) (L : Nat → Nat) (ac : Nat → ClassId) (hL : LL L) (X : XM) (a1 : Int32) (r0 : Int32) (X0 : XM) (hf : fX2_digitAt a1 X = some (r0, X0)) : Ci l yX2_digitAt wsX2_digitAt ({ frames := 1, cells := 0, slots := 0, locals := 21 }) D L ac X [.ref (L 13), .int a1] r0 X0 := by
  refine Met.ofK (cc := cX2_digitAt) (maxL := 2) (ret := (some .int)) (lv := [(0, .ref (L 13)), (1, .int a1)]) (by decide +kernel) rfl (Nat.le_of_ble_eq_true rfl) rfl ?_
  intro p e s m below meth c F hO ls hl
  obtain ⟨hx, hb, hr, hts, hown, hlocks, hml, hK, hN⟩ := id F
  have hA : ∀ q, fr L q → fr L q := fun q h => h
  unfold fX2_digitAt at hf
  refine lv_aload_n hx hb dX2_digitAt_0 rfl (lv_at hl 0 rfl) ?_
  refine lv_iload_n hx hb dX2_digitAt_1 rfl (lv_at hl 1 rfl) ?_
  replace hf := zi_some hf
  obtain ⟨r_2, X_1, hc_1, hf⟩ := hf
  refine k_ai (va_runV (As := [.int a1]) (rest := []) ⟨hx, hb, hml, hown, hts⟩ (mX2_at l D L ac hL _ a1 _ _ hc_1) (cwV 1 hts gX2_digitAt_X2_at rfl rfl rfl (by decide +kernel) ⟨Nat.le_of_ble_eq_true rfl, Nat.le_of_ble_eq_true rfl⟩) (k_pv (j := 13) hK hN hO (by decide) rfl rfl _) rfl rfl hl.1 rfl (lv_room (Nat.le_of_ble_eq_true rfl)) dX2_digitAt_2 ⟨Nat.le_of_ble_eq_true rfl, Nat.le_of_ble_eq_true rfl⟩) hA hO (fun H_3 locs_3 hO_3 => ?_)
  clear hO
  refine lv_bipush (v := 48) hx hb dX2_digitAt_5 (by decide) ?_
  refine lv_isub hx hb dX2_digitAt_7 ?_
  obtain ⟨rfl, rfl⟩ := Prod.mk.inj (Option.some.inj hf)
  exact e_i hx hb hr hK hN hO_3 hlocks dX2_digitAt_8
def fX2_orderBeginsAt  (a1 : Int32) (X : XM) : Option (Int32 × XM) := if a1 = 0 then some (1, X) else zi (fX2_at (a1 - 1) X) (fun r_3 X_2 => if r_3 = 59 then some (1, X_2) else some (0, X_2))
set_option maxHeartbeats 4000000 in
set_option maxRecDepth 100000 in
theorem mX2_orderBeginsAt (l : Launch) (D : va_G) (L : Nat → Nat) (ac : Nat → ClassId) (hL : LL L) (X : XM) (a1 : Int32) (r0 : Int32) (X0 : XM) (hf : fX2_orderBeginsAt a1 X = some (r0, X0)) : Ci l yX2_orderBeginsAt wsX2_orderBeginsAt ({ frames := 1, cells := 0, slots := 0, locals := 21 }) D L ac X [.ref (L 13), .int a1] r0 X0 := by
  refine Met.ofK (cc := cX2_orderBeginsAt) (maxL := 2) (ret := (some .boolean)) (lv := [(0, .ref (L 13)), (1, .int a1)]) (by decide +kernel) rfl (Nat.le_of_ble_eq_true rfl) rfl ?_
  intro p e s m below meth c F hO ls hl
  obtain ⟨hx, hb, hr, hts, hown, hlocks, hml, hK, hN⟩ := id F
  have hA : ∀ q, fr L q → fr L q := fun q h => h
  unfold fX2_orderBeginsAt at hf
  refine lv_iload_n hx hb dX2_orderBeginsAt_0 rfl (lv_at hl 1 rfl) ?_
  refine lv_if_eq (tgt := 16) hx hb dX2_orderBeginsAt_1 (by decide) (fun c_1 => ?_) (fun c_1 => ?_)
  · rw [if_pos c_1] at hf
    subst c_1
    refine lv_iconst (v := 1) hx hb dX2_orderBeginsAt_16 (by decide) ?_
    refine lv_goto (tgt := 21) hx hb dX2_orderBeginsAt_17 (by decide) ?_
    obtain ⟨rfl, rfl⟩ := Prod.mk.inj (Option.some.inj hf)
    exact e_n hx hb hr (bo_n (by decide)) hK hN hO hlocks dX2_orderBeginsAt_21
  · rw [if_neg c_1] at hf
    refine lv_aload_n hx hb dX2_orderBeginsAt_4 rfl (lv_at hl 0 rfl) ?_
    refine lv_iload_n hx hb dX2_orderBeginsAt_5 rfl (lv_at hl 1 rfl) ?_
    refine lv_iconst (v := 1) hx hb dX2_orderBeginsAt_6 (by decide) ?_
    refine lv_isub hx hb dX2_orderBeginsAt_7 ?_
    replace hf := zi_some hf
    obtain ⟨r_3, X_2, hc_2, hf⟩ := hf
    refine k_ai (va_runV (As := [.int (a1 - 1)]) (rest := []) ⟨hx, hb, hml, hown, hts⟩ (mX2_at l D L ac hL _ (a1 - 1) _ _ hc_2) (cwV 1 hts gX2_orderBeginsAt_X2_at rfl rfl rfl (by decide +kernel) ⟨Nat.le_of_ble_eq_true rfl, Nat.le_of_ble_eq_true rfl⟩) (k_pv (j := 13) hK hN hO (by decide) rfl rfl _) rfl rfl hl.1 rfl (lv_room (Nat.le_of_ble_eq_true rfl)) dX2_orderBeginsAt_8 ⟨Nat.le_of_ble_eq_true rfl, Nat.le_of_ble_eq_true rfl⟩) hA hO (fun H_4 locs_4 hO_4 => ?_)
    clear hO
    refine lv_bipush (v := 59) hx hb dX2_orderBeginsAt_11 (by decide) ?_
    refine lv_icmp_ne (tgt := 20) hx hb dX2_orderBeginsAt_13 (by decide) (fun c_5 => ?_) (fun c_5 => ?_)
    · rw [if_neg c_5] at hf
      refine lv_iconst (v := 0) hx hb dX2_orderBeginsAt_20 (by decide) ?_
      obtain ⟨rfl, rfl⟩ := Prod.mk.inj (Option.some.inj hf)
      exact e_n hx hb hr (bo_n (by decide)) hK hN hO_4 hlocks dX2_orderBeginsAt_21
    · rw [if_pos c_5] at hf
      subst c_5
      refine lv_iconst (v := 1) hx hb dX2_orderBeginsAt_16 (by decide) ?_
      refine lv_goto (tgt := 21) hx hb dX2_orderBeginsAt_17 (by decide) ?_
      obtain ⟨rfl, rfl⟩ := Prod.mk.inj (Option.some.inj hf)
      exact e_n hx hb hr (bo_n (by decide)) hK hN hO_4 hlocks dX2_orderBeginsAt_21
def fX2_behindDigit  (a1 : Int32) (a2 : Int32) (X : XM) : Option (Int32 × XM) := if a1 < 48 then some (0, X) else if 57 < a1 then some (0, X) else some (a2, X)
set_option maxHeartbeats 4000000 in
set_option maxRecDepth 100000 in
theorem mX2_behindDigit (l : Launch) (D : va_G) (L : Nat → Nat) (ac : Nat → ClassId) (hL : LL L) (X : XM) (a1 : Int32) (a2 : Int32) (r0 : Int32) (X0 : XM) (hf : fX2_behindDigit a1 a2 X = some (r0, X0)) : Ci l yX2_behindDigit wsX2_behindDigit ({ frames := 0, cells := 0, slots := 0, locals := 0 }) D L ac X [.int a1, .int a2] r0 X0 := by
  refine Met.ofK (cc := cX2_behindDigit) (maxL := 2) (ret := (some .int)) (lv := [(0, .int a1), (1, .int a2)]) (by decide +kernel) rfl (Nat.le_of_ble_eq_true rfl) rfl ?_
  intro p e s m below meth c F hO ls hl
  obtain ⟨hx, hb, hr, hts, hown, hlocks, hml, hK, hN⟩ := id F
  have hA : ∀ q, fr L q → fr L q := fun q h => h
  unfold fX2_behindDigit at hf
  refine lv_iload_n hx hb dX2_behindDigit_0 rfl (lv_at hl 0 rfl) ?_
  refine lv_bipush (v := 48) hx hb dX2_behindDigit_1 (by decide) ?_
  refine lv_icmp_lt (tgt := 16) hx hb dX2_behindDigit_3 (by decide) (fun c_1 => ?_) (fun c_1 => ?_)
  · rw [if_pos c_1] at hf
    refine lv_iconst (v := 0) hx hb dX2_behindDigit_16 (by decide) ?_
    obtain ⟨rfl, rfl⟩ := Prod.mk.inj (Option.some.inj hf)
    exact e_i hx hb hr hK hN hO hlocks dX2_behindDigit_17
  · rw [if_neg c_1] at hf
    refine lv_iload_n hx hb dX2_behindDigit_6 rfl (lv_at hl 0 rfl) ?_
    refine lv_bipush (v := 57) hx hb dX2_behindDigit_7 (by decide) ?_
    refine lv_icmp_gt (tgt := 16) hx hb dX2_behindDigit_9 (by decide) (fun c_2 => ?_) (fun c_2 => ?_)
    · rw [if_pos c_2] at hf
      refine lv_iconst (v := 0) hx hb dX2_behindDigit_16 (by decide) ?_
      obtain ⟨rfl, rfl⟩ := Prod.mk.inj (Option.some.inj hf)
      exact e_i hx hb hr hK hN hO hlocks dX2_behindDigit_17
    · rw [if_neg c_2] at hf
      refine lv_iload_n hx hb dX2_behindDigit_12 rfl (lv_at hl 1 rfl) ?_
      refine lv_goto (tgt := 17) hx hb dX2_behindDigit_13 (by decide) ?_
      obtain ⟨rfl, rfl⟩ := Prod.mk.inj (Option.some.inj hf)
      exact e_i hx hb hr hK hN hO hlocks dX2_behindDigit_17
def fX2_placeBehindPile  (a1 : Int32) (X : XM) : Option (Int32 × XM) := if a1 = 33 then some (10, X) else if a1 = 59 then some (1, X) else some (0, X)
set_option maxHeartbeats 4000000 in
set_option maxRecDepth 100000 in
theorem mX2_placeBehindPile (l : Launch) (D : va_G) (L : Nat → Nat) (ac : Nat → ClassId) (hL : LL L) (X : XM) (a1 : Int32) (r0 : Int32) (X0 : XM) (hf : fX2_placeBehindPile a1 X = some (r0, X0)) : Ci l yX2_placeBehindPile wsX2_placeBehindPile ({ frames := 0, cells := 0, slots := 0, locals := 0 }) D L ac X [.int a1] r0 X0 := by
  refine Met.ofK (cc := cX2_placeBehindPile) (maxL := 1) (ret := (some .int)) (lv := [(0, .int a1)]) (by decide +kernel) rfl (Nat.le_of_ble_eq_true rfl) rfl ?_
  intro p e s m below meth c F hO ls hl
  obtain ⟨hx, hb, hr, hts, hown, hlocks, hml, hK, hN⟩ := id F
  have hA : ∀ q, fr L q → fr L q := fun q h => h
  unfold fX2_placeBehindPile at hf
  refine lv_iload_n hx hb dX2_placeBehindPile_0 rfl (lv_at hl 0 rfl) ?_
  refine lv_bipush (v := 33) hx hb dX2_placeBehindPile_1 (by decide) ?_
  refine lv_icmp_ne (tgt := 9) hx hb dX2_placeBehindPile_3 (by decide) (fun c_1 => ?_) (fun c_1 => ?_)
  · rw [if_neg c_1] at hf
    refine lv_iload_n hx hb dX2_placeBehindPile_9 rfl (lv_at hl 0 rfl) ?_
    refine lv_bipush (v := 59) hx hb dX2_placeBehindPile_10 (by decide) ?_
    refine lv_icmp_ne (tgt := 19) hx hb dX2_placeBehindPile_12 (by decide) (fun c_2 => ?_) (fun c_2 => ?_)
    · rw [if_neg c_2] at hf
      refine lv_iconst (v := 0) hx hb dX2_placeBehindPile_19 (by decide) ?_
      obtain ⟨rfl, rfl⟩ := Prod.mk.inj (Option.some.inj hf)
      exact e_i hx hb hr hK hN hO hlocks dX2_placeBehindPile_20
    · rw [if_pos c_2] at hf
      subst c_2
      refine lv_iconst (v := 1) hx hb dX2_placeBehindPile_15 (by decide) ?_
      refine lv_goto (tgt := 20) hx hb dX2_placeBehindPile_16 (by decide) ?_
      obtain ⟨rfl, rfl⟩ := Prod.mk.inj (Option.some.inj hf)
      exact e_i hx hb hr hK hN hO hlocks dX2_placeBehindPile_20
  · rw [if_pos c_1] at hf
    subst c_1
    refine lv_bipush (v := 10) hx hb dX2_placeBehindPile_6 (by decide) ?_
    obtain ⟨rfl, rfl⟩ := Prod.mk.inj (Option.some.inj hf)
    exact e_i hx hb hr hK hN hO hlocks dX2_placeBehindPile_8
def fX2_placeBehindSign  (a1 : Int32) (X : XM) : Option (Int32 × XM) := if a1 = 43 then some (2, X) else if a1 = 45 then some (6, X) else if a1 = 114 then some (8, X) else if a1 = 112 then some (10, X) else if a1 = 109 then some (10, X) else some (0, X)
set_option maxHeartbeats 4000000 in
set_option maxRecDepth 100000 in
theorem mX2_placeBehindSign (l : Launch) (D : va_G) (L : Nat → Nat) (ac : Nat → ClassId) (hL : LL L) (X : XM) (a1 : Int32) (r0 : Int32) (X0 : XM) (hf : fX2_placeBehindSign a1 X = some (r0, X0)) : Ci l yX2_placeBehindSign wsX2_placeBehindSign ({ frames := 0, cells := 0, slots := 0, locals := 0 }) D L ac X [.int a1] r0 X0 := by
  refine Met.ofK (cc := cX2_placeBehindSign) (maxL := 1) (ret := (some .int)) (lv := [(0, .int a1)]) (by decide +kernel) rfl (Nat.le_of_ble_eq_true rfl) rfl ?_
  intro p e s m below meth c F hO ls hl
  obtain ⟨hx, hb, hr, hts, hown, hlocks, hml, hK, hN⟩ := id F
  have hA : ∀ q, fr L q → fr L q := fun q h => h
  unfold fX2_placeBehindSign at hf
  refine lv_iload_n hx hb dX2_placeBehindSign_0 rfl (lv_at hl 0 rfl) ?_
  refine lv_bipush (v := 43) hx hb dX2_placeBehindSign_1 (by decide) ?_
  refine lv_icmp_ne (tgt := 8) hx hb dX2_placeBehindSign_3 (by decide) (fun c_1 => ?_) (fun c_1 => ?_)
  · rw [if_neg c_1] at hf
    refine lv_iload_n hx hb dX2_placeBehindSign_8 rfl (lv_at hl 0 rfl) ?_
    refine lv_bipush (v := 45) hx hb dX2_placeBehindSign_9 (by decide) ?_
    refine lv_icmp_ne (tgt := 17) hx hb dX2_placeBehindSign_11 (by decide) (fun c_2 => ?_) (fun c_2 => ?_)
    · rw [if_neg c_2] at hf
      refine lv_iload_n hx hb dX2_placeBehindSign_17 rfl (lv_at hl 0 rfl) ?_
      refine lv_bipush (v := 114) hx hb dX2_placeBehindSign_18 (by decide) ?_
      refine lv_icmp_ne (tgt := 26) hx hb dX2_placeBehindSign_20 (by decide) (fun c_3 => ?_) (fun c_3 => ?_)
      · rw [if_neg c_3] at hf
        refine lv_iload_n hx hb dX2_placeBehindSign_26 rfl (lv_at hl 0 rfl) ?_
        refine lv_bipush (v := 112) hx hb dX2_placeBehindSign_27 (by decide) ?_
        refine lv_icmp_eq (tgt := 38) hx hb dX2_placeBehindSign_29 (by decide) (fun c_4 => ?_) (fun c_4 => ?_)
        · rw [if_pos c_4] at hf
          subst c_4
          refine lv_bipush (v := 10) hx hb dX2_placeBehindSign_38 (by decide) ?_
          refine lv_goto (tgt := 44) hx hb dX2_placeBehindSign_40 (by decide) ?_
          obtain ⟨rfl, rfl⟩ := Prod.mk.inj (Option.some.inj hf)
          exact e_i hx hb hr hK hN hO hlocks dX2_placeBehindSign_44
        · rw [if_neg c_4] at hf
          refine lv_iload_n hx hb dX2_placeBehindSign_32 rfl (lv_at hl 0 rfl) ?_
          refine lv_bipush (v := 109) hx hb dX2_placeBehindSign_33 (by decide) ?_
          refine lv_icmp_ne (tgt := 43) hx hb dX2_placeBehindSign_35 (by decide) (fun c_5 => ?_) (fun c_5 => ?_)
          · rw [if_neg c_5] at hf
            refine lv_iconst (v := 0) hx hb dX2_placeBehindSign_43 (by decide) ?_
            obtain ⟨rfl, rfl⟩ := Prod.mk.inj (Option.some.inj hf)
            exact e_i hx hb hr hK hN hO hlocks dX2_placeBehindSign_44
          · rw [if_pos c_5] at hf
            subst c_5
            refine lv_bipush (v := 10) hx hb dX2_placeBehindSign_38 (by decide) ?_
            refine lv_goto (tgt := 44) hx hb dX2_placeBehindSign_40 (by decide) ?_
            obtain ⟨rfl, rfl⟩ := Prod.mk.inj (Option.some.inj hf)
            exact e_i hx hb hr hK hN hO hlocks dX2_placeBehindSign_44
      · rw [if_pos c_3] at hf
        subst c_3
        refine lv_bipush (v := 8) hx hb dX2_placeBehindSign_23 (by decide) ?_
        obtain ⟨rfl, rfl⟩ := Prod.mk.inj (Option.some.inj hf)
        exact e_i hx hb hr hK hN hO hlocks dX2_placeBehindSign_25
    · rw [if_pos c_2] at hf
      subst c_2
      refine lv_bipush (v := 6) hx hb dX2_placeBehindSign_14 (by decide) ?_
      obtain ⟨rfl, rfl⟩ := Prod.mk.inj (Option.some.inj hf)
      exact e_i hx hb hr hK hN hO hlocks dX2_placeBehindSign_16
  · rw [if_pos c_1] at hf
    subst c_1
    refine lv_iconst (v := 2) hx hb dX2_placeBehindSign_6 (by decide) ?_
    obtain ⟨rfl, rfl⟩ := Prod.mk.inj (Option.some.inj hf)
    exact e_i hx hb hr hK hN hO hlocks dX2_placeBehindSign_7
def fX2_placeBehind  (a1 : Int32) (a2 : Int32) (X : XM) : Option (Int32 × XM) := if a1 = 1 then zi (fX2_placeBehindSign a2 X) (fun r_3 X_2 => some (r_3, X_2)) else (if a1 = 2 then zi (fX2_behindDigit a2 3 X) (fun r_7 X_6 => some (r_7, X_6)) else (if a1 = 3 then if a2 = 119 then some (4, X) else zi (fX2_placeBehindPile a2 X) (fun r_12 X_11 => some (r_12, X_11)) else (if a1 = 4 then zi (fX2_behindDigit a2 5 X) (fun r_16 X_15 => some (r_16, X_15)) else (if a1 = 5 then zi (fX2_placeBehindPile a2 X) (fun r_20 X_19 => some (r_20, X_19)) else (if a1 = 6 then zi (fX2_behindDigit a2 7 X) (fun r_24 X_23 => some (r_24, X_23)) else (if a1 = 7 then if a2 = 46 then some (9, X) else some (0, X) else (if a1 = 8 then zi (fX2_behindDigit a2 9 X) (fun r_30 X_29 => some (r_30, X_29)) else (if a1 = 9 then zi (fX2_behindDigit a2 10 X) (fun r_34 X_33 => some (r_34, X_33)) else (if a1 = 10 then if a2 = 59 then some (1, X) else some (0, X) else (some (0, X)))))))))))
set_option maxHeartbeats 4000000 in
set_option maxRecDepth 100000 in
theorem mX2_placeBehind (l : Launch) (D : va_G) (L : Nat → Nat) (ac : Nat → ClassId) (hL : LL L) (X : XM) (a1 : Int32) (a2 : Int32) (r0 : Int32) (X0 : XM) (hf : fX2_placeBehind a1 a2 X = some (r0, X0)) : Ci l yX2_placeBehind wsX2_placeBehind ({ frames := 1, cells := 0, slots := 0, locals := 21 }) D L ac X [.int a1, .int a2] r0 X0 := by
  refine Met.ofK (cc := cX2_placeBehind) (maxL := 2) (ret := (some .int)) (lv := [(0, .int a1), (1, .int a2)]) (by decide +kernel) rfl (Nat.le_of_ble_eq_true rfl) rfl ?_
  intro p e s m below meth c F hO ls hl
  obtain ⟨hx, hb, hr, hts, hown, hlocks, hml, hK, hN⟩ := id F
  have hA : ∀ q, fr L q → fr L q := fun q h => h
  unfold fX2_placeBehind at hf
  refine lv_iload_n hx hb dX2_placeBehind_0 rfl (lv_at hl 0 rfl) ?_
  by_cases c_1 : a1 = 1
  · rw [if_pos c_1] at hf
    refine k_tabIn (tgt := 56) (off := 55) hx hb c_1 dX2_placeBehind_1 (by decide) (by decide) rfl (by decide) ?_
    subst c_1
    refine lv_iload_n hx hb dX2_placeBehind_56 rfl (lv_at hl 1 rfl) ?_
    replace hf := zi_some hf
    obtain ⟨r_3, X_2, hc_2, hf⟩ := hf
    refine k_ai (va_runS (As := [.int a2]) (rest := []) ⟨hx, hb, hml, hown, hts⟩ (mX2_placeBehindSign l D L ac hL _ a2 _ _ hc_2) (va_cwS 1 hts gX2_placeBehind_X2_placeBehindSign rfl rfl rfl (by decide +kernel) ⟨Nat.le_of_ble_eq_true rfl, Nat.le_of_ble_eq_true rfl⟩) (k_ps hK hN hO _) rfl rfl hl.1 rfl (lv_room (Nat.le_of_ble_eq_true rfl)) dX2_placeBehind_57 ⟨Nat.le_of_ble_eq_true rfl, Nat.le_of_ble_eq_true rfl⟩) hA hO (fun H_4 locs_4 hO_4 => ?_)
    clear hO
    obtain ⟨rfl, rfl⟩ := Prod.mk.inj (Option.some.inj hf)
    exact e_i hx hb hr hK hN hO_4 hlocks dX2_placeBehind_60
  · rw [if_neg c_1] at hf
    by_cases c_5 : a1 = 2
    · rw [if_pos c_5] at hf
      refine k_tabIn (tgt := 61) (off := 60) hx hb c_5 dX2_placeBehind_1 (by decide) (by decide) rfl (by decide) ?_
      subst c_5
      refine lv_iload_n hx hb dX2_placeBehind_61 rfl (lv_at hl 1 rfl) ?_
      refine lv_iconst (v := 3) hx hb dX2_placeBehind_62 (by decide) ?_
      replace hf := zi_some hf
      obtain ⟨r_7, X_6, hc_6, hf⟩ := hf
      refine k_ai (va_runS (As := [.int a2, .int 3]) (rest := []) ⟨hx, hb, hml, hown, hts⟩ (mX2_behindDigit l D L ac hL _ a2 3 _ _ hc_6) (va_cwS 2 hts gX2_placeBehind_X2_behindDigit rfl rfl rfl (by decide +kernel) ⟨Nat.le_of_ble_eq_true rfl, Nat.le_of_ble_eq_true rfl⟩) (k_ps hK hN hO _) rfl rfl hl.1 rfl (lv_room (Nat.le_of_ble_eq_true rfl)) dX2_placeBehind_63 ⟨Nat.le_of_ble_eq_true rfl, Nat.le_of_ble_eq_true rfl⟩) hA hO (fun H_8 locs_8 hO_8 => ?_)
      clear hO
      obtain ⟨rfl, rfl⟩ := Prod.mk.inj (Option.some.inj hf)
      exact e_i hx hb hr hK hN hO_8 hlocks dX2_placeBehind_66
    · rw [if_neg c_5] at hf
      by_cases c_9 : a1 = 3
      · rw [if_pos c_9] at hf
        refine k_tabIn (tgt := 67) (off := 66) hx hb c_9 dX2_placeBehind_1 (by decide) (by decide) rfl (by decide) ?_
        subst c_9
        refine lv_iload_n hx hb dX2_placeBehind_67 rfl (lv_at hl 1 rfl) ?_
        refine lv_bipush (v := 119) hx hb dX2_placeBehind_68 (by decide) ?_
        refine lv_icmp_ne (tgt := 77) hx hb dX2_placeBehind_70 (by decide) (fun c_10 => ?_) (fun c_10 => ?_)
        · rw [if_neg c_10] at hf
          refine lv_iload_n hx hb dX2_placeBehind_77 rfl (lv_at hl 1 rfl) ?_
          replace hf := zi_some hf
          obtain ⟨r_12, X_11, hc_11, hf⟩ := hf
          refine k_ai (va_runS (As := [.int a2]) (rest := []) ⟨hx, hb, hml, hown, hts⟩ (mX2_placeBehindPile l D L ac hL _ a2 _ _ hc_11) (va_cwS 1 hts gX2_placeBehind_X2_placeBehindPile rfl rfl rfl (by decide +kernel) ⟨Nat.le_of_ble_eq_true rfl, Nat.le_of_ble_eq_true rfl⟩) (k_ps hK hN hO _) rfl rfl hl.1 rfl (lv_room (Nat.le_of_ble_eq_true rfl)) dX2_placeBehind_78 ⟨Nat.le_of_ble_eq_true rfl, Nat.le_of_ble_eq_true rfl⟩) hA hO (fun H_13 locs_13 hO_13 => ?_)
          clear hO
          obtain ⟨rfl, rfl⟩ := Prod.mk.inj (Option.some.inj hf)
          exact e_i hx hb hr hK hN hO_13 hlocks dX2_placeBehind_81
        · rw [if_pos c_10] at hf
          subst c_10
          refine lv_iconst (v := 4) hx hb dX2_placeBehind_73 (by decide) ?_
          refine lv_goto (tgt := 81) hx hb dX2_placeBehind_74 (by decide) ?_
          obtain ⟨rfl, rfl⟩ := Prod.mk.inj (Option.some.inj hf)
          exact e_i hx hb hr hK hN hO hlocks dX2_placeBehind_81
      · rw [if_neg c_9] at hf
        by_cases c_14 : a1 = 4
        · rw [if_pos c_14] at hf
          refine k_tabIn (tgt := 82) (off := 81) hx hb c_14 dX2_placeBehind_1 (by decide) (by decide) rfl (by decide) ?_
          subst c_14
          refine lv_iload_n hx hb dX2_placeBehind_82 rfl (lv_at hl 1 rfl) ?_
          refine lv_iconst (v := 5) hx hb dX2_placeBehind_83 (by decide) ?_
          replace hf := zi_some hf
          obtain ⟨r_16, X_15, hc_15, hf⟩ := hf
          refine k_ai (va_runS (As := [.int a2, .int 5]) (rest := []) ⟨hx, hb, hml, hown, hts⟩ (mX2_behindDigit l D L ac hL _ a2 5 _ _ hc_15) (va_cwS 2 hts gX2_placeBehind_X2_behindDigit rfl rfl rfl (by decide +kernel) ⟨Nat.le_of_ble_eq_true rfl, Nat.le_of_ble_eq_true rfl⟩) (k_ps hK hN hO _) rfl rfl hl.1 rfl (lv_room (Nat.le_of_ble_eq_true rfl)) dX2_placeBehind_84 ⟨Nat.le_of_ble_eq_true rfl, Nat.le_of_ble_eq_true rfl⟩) hA hO (fun H_17 locs_17 hO_17 => ?_)
          clear hO
          obtain ⟨rfl, rfl⟩ := Prod.mk.inj (Option.some.inj hf)
          exact e_i hx hb hr hK hN hO_17 hlocks dX2_placeBehind_87
        · rw [if_neg c_14] at hf
          by_cases c_18 : a1 = 5
          · rw [if_pos c_18] at hf
            refine k_tabIn (tgt := 88) (off := 87) hx hb c_18 dX2_placeBehind_1 (by decide) (by decide) rfl (by decide) ?_
            subst c_18
            refine lv_iload_n hx hb dX2_placeBehind_88 rfl (lv_at hl 1 rfl) ?_
            replace hf := zi_some hf
            obtain ⟨r_20, X_19, hc_19, hf⟩ := hf
            refine k_ai (va_runS (As := [.int a2]) (rest := []) ⟨hx, hb, hml, hown, hts⟩ (mX2_placeBehindPile l D L ac hL _ a2 _ _ hc_19) (va_cwS 1 hts gX2_placeBehind_X2_placeBehindPile rfl rfl rfl (by decide +kernel) ⟨Nat.le_of_ble_eq_true rfl, Nat.le_of_ble_eq_true rfl⟩) (k_ps hK hN hO _) rfl rfl hl.1 rfl (lv_room (Nat.le_of_ble_eq_true rfl)) dX2_placeBehind_89 ⟨Nat.le_of_ble_eq_true rfl, Nat.le_of_ble_eq_true rfl⟩) hA hO (fun H_21 locs_21 hO_21 => ?_)
            clear hO
            obtain ⟨rfl, rfl⟩ := Prod.mk.inj (Option.some.inj hf)
            exact e_i hx hb hr hK hN hO_21 hlocks dX2_placeBehind_92
          · rw [if_neg c_18] at hf
            by_cases c_22 : a1 = 6
            · rw [if_pos c_22] at hf
              refine k_tabIn (tgt := 93) (off := 92) hx hb c_22 dX2_placeBehind_1 (by decide) (by decide) rfl (by decide) ?_
              subst c_22
              refine lv_iload_n hx hb dX2_placeBehind_93 rfl (lv_at hl 1 rfl) ?_
              refine lv_bipush (v := 7) hx hb dX2_placeBehind_94 (by decide) ?_
              replace hf := zi_some hf
              obtain ⟨r_24, X_23, hc_23, hf⟩ := hf
              refine k_ai (va_runS (As := [.int a2, .int 7]) (rest := []) ⟨hx, hb, hml, hown, hts⟩ (mX2_behindDigit l D L ac hL _ a2 7 _ _ hc_23) (va_cwS 2 hts gX2_placeBehind_X2_behindDigit rfl rfl rfl (by decide +kernel) ⟨Nat.le_of_ble_eq_true rfl, Nat.le_of_ble_eq_true rfl⟩) (k_ps hK hN hO _) rfl rfl hl.1 rfl (lv_room (Nat.le_of_ble_eq_true rfl)) dX2_placeBehind_96 ⟨Nat.le_of_ble_eq_true rfl, Nat.le_of_ble_eq_true rfl⟩) hA hO (fun H_25 locs_25 hO_25 => ?_)
              clear hO
              obtain ⟨rfl, rfl⟩ := Prod.mk.inj (Option.some.inj hf)
              exact e_i hx hb hr hK hN hO_25 hlocks dX2_placeBehind_99
            · rw [if_neg c_22] at hf
              by_cases c_26 : a1 = 7
              · rw [if_pos c_26] at hf
                refine k_tabIn (tgt := 100) (off := 99) hx hb c_26 dX2_placeBehind_1 (by decide) (by decide) rfl (by decide) ?_
                subst c_26
                refine lv_iload_n hx hb dX2_placeBehind_100 rfl (lv_at hl 1 rfl) ?_
                refine lv_bipush (v := 46) hx hb dX2_placeBehind_101 (by decide) ?_
                refine lv_icmp_ne (tgt := 111) hx hb dX2_placeBehind_103 (by decide) (fun c_27 => ?_) (fun c_27 => ?_)
                · rw [if_neg c_27] at hf
                  refine lv_iconst (v := 0) hx hb dX2_placeBehind_111 (by decide) ?_
                  obtain ⟨rfl, rfl⟩ := Prod.mk.inj (Option.some.inj hf)
                  exact e_i hx hb hr hK hN hO hlocks dX2_placeBehind_112
                · rw [if_pos c_27] at hf
                  subst c_27
                  refine lv_bipush (v := 9) hx hb dX2_placeBehind_106 (by decide) ?_
                  refine lv_goto (tgt := 112) hx hb dX2_placeBehind_108 (by decide) ?_
                  obtain ⟨rfl, rfl⟩ := Prod.mk.inj (Option.some.inj hf)
                  exact e_i hx hb hr hK hN hO hlocks dX2_placeBehind_112
              · rw [if_neg c_26] at hf
                by_cases c_28 : a1 = 8
                · rw [if_pos c_28] at hf
                  refine k_tabIn (tgt := 113) (off := 112) hx hb c_28 dX2_placeBehind_1 (by decide) (by decide) rfl (by decide) ?_
                  subst c_28
                  refine lv_iload_n hx hb dX2_placeBehind_113 rfl (lv_at hl 1 rfl) ?_
                  refine lv_bipush (v := 9) hx hb dX2_placeBehind_114 (by decide) ?_
                  replace hf := zi_some hf
                  obtain ⟨r_30, X_29, hc_29, hf⟩ := hf
                  refine k_ai (va_runS (As := [.int a2, .int 9]) (rest := []) ⟨hx, hb, hml, hown, hts⟩ (mX2_behindDigit l D L ac hL _ a2 9 _ _ hc_29) (va_cwS 2 hts gX2_placeBehind_X2_behindDigit rfl rfl rfl (by decide +kernel) ⟨Nat.le_of_ble_eq_true rfl, Nat.le_of_ble_eq_true rfl⟩) (k_ps hK hN hO _) rfl rfl hl.1 rfl (lv_room (Nat.le_of_ble_eq_true rfl)) dX2_placeBehind_116 ⟨Nat.le_of_ble_eq_true rfl, Nat.le_of_ble_eq_true rfl⟩) hA hO (fun H_31 locs_31 hO_31 => ?_)
                  clear hO
                  obtain ⟨rfl, rfl⟩ := Prod.mk.inj (Option.some.inj hf)
                  exact e_i hx hb hr hK hN hO_31 hlocks dX2_placeBehind_119
                · rw [if_neg c_28] at hf
                  by_cases c_32 : a1 = 9
                  · rw [if_pos c_32] at hf
                    refine k_tabIn (tgt := 120) (off := 119) hx hb c_32 dX2_placeBehind_1 (by decide) (by decide) rfl (by decide) ?_
                    subst c_32
                    refine lv_iload_n hx hb dX2_placeBehind_120 rfl (lv_at hl 1 rfl) ?_
                    refine lv_bipush (v := 10) hx hb dX2_placeBehind_121 (by decide) ?_
                    replace hf := zi_some hf
                    obtain ⟨r_34, X_33, hc_33, hf⟩ := hf
                    refine k_ai (va_runS (As := [.int a2, .int 10]) (rest := []) ⟨hx, hb, hml, hown, hts⟩ (mX2_behindDigit l D L ac hL _ a2 10 _ _ hc_33) (va_cwS 2 hts gX2_placeBehind_X2_behindDigit rfl rfl rfl (by decide +kernel) ⟨Nat.le_of_ble_eq_true rfl, Nat.le_of_ble_eq_true rfl⟩) (k_ps hK hN hO _) rfl rfl hl.1 rfl (lv_room (Nat.le_of_ble_eq_true rfl)) dX2_placeBehind_123 ⟨Nat.le_of_ble_eq_true rfl, Nat.le_of_ble_eq_true rfl⟩) hA hO (fun H_35 locs_35 hO_35 => ?_)
                    clear hO
                    obtain ⟨rfl, rfl⟩ := Prod.mk.inj (Option.some.inj hf)
                    exact e_i hx hb hr hK hN hO_35 hlocks dX2_placeBehind_126
                  · rw [if_neg c_32] at hf
                    by_cases c_36 : a1 = 10
                    · rw [if_pos c_36] at hf
                      refine k_tabIn (tgt := 127) (off := 126) hx hb c_36 dX2_placeBehind_1 (by decide) (by decide) rfl (by decide) ?_
                      subst c_36
                      refine lv_iload_n hx hb dX2_placeBehind_127 rfl (lv_at hl 1 rfl) ?_
                      refine lv_bipush (v := 59) hx hb dX2_placeBehind_128 (by decide) ?_
                      refine lv_icmp_ne (tgt := 137) hx hb dX2_placeBehind_130 (by decide) (fun c_37 => ?_) (fun c_37 => ?_)
                      · rw [if_neg c_37] at hf
                        refine lv_iconst (v := 0) hx hb dX2_placeBehind_137 (by decide) ?_
                        obtain ⟨rfl, rfl⟩ := Prod.mk.inj (Option.some.inj hf)
                        exact e_i hx hb hr hK hN hO hlocks dX2_placeBehind_138
                      · rw [if_pos c_37] at hf
                        subst c_37
                        refine lv_iconst (v := 1) hx hb dX2_placeBehind_133 (by decide) ?_
                        refine lv_goto (tgt := 138) hx hb dX2_placeBehind_134 (by decide) ?_
                        obtain ⟨rfl, rfl⟩ := Prod.mk.inj (Option.some.inj hf)
                        exact e_i hx hb hr hK hN hO hlocks dX2_placeBehind_138
                    · rw [if_neg c_36] at hf
                      refine lv_tableOut (tgt := 139) hx hb dX2_placeBehind_1 (tb_out 10 (by decide) (fun k hk => ?_)) (by decide) ?_
                      · match k, hk with
                        | 0, _ => exact c_1
                        | 1, _ => exact c_5
                        | 2, _ => exact c_9
                        | 3, _ => exact c_14
                        | 4, _ => exact c_18
                        | 5, _ => exact c_22
                        | 6, _ => exact c_26
                        | 7, _ => exact c_28
                        | 8, _ => exact c_32
                        | 9, _ => exact c_36
                        | n + 10, hk => exact absurd hk (by omega)
                      refine lv_iconst (v := 0) hx hb dX2_placeBehind_139 (by decide) ?_
                      obtain ⟨rfl, rfl⟩ := Prod.mk.inj (Option.some.inj hf)
                      exact e_i hx hb hr hK hN hO hlocks dX2_placeBehind_140
theorem in_X2_faultIndex_X2 : ∀ w ∈ u_ws RX2 TX2 2, w ∈ wsX2_faultIndex := by decide +kernel
theorem lk_X2_faultIndex_f21 : Cond.fieldLink RX2 21 "PoisonPiles$Pad" "length" "I" ∈ wsX2_faultIndex := by decide +kernel
def fX2_faultIndex_4   : Nat → Int32 → Int32 → XM → Option (Int32 × XM)
  | 0, _, _, _ => none
  | n + 1, x1, x2, X => if (X 20 0) ≤ x2 then if x1 = 10 then some ((-6), X) else if x1 = 3 then some ((-6), X) else if x1 = 5 then some ((-6), X) else some (X 20 0, X) else zi (fX2_at x2 X) (fun r_14 X_13 => zi (fX2_placeBehind x1 r_14 X_13) (fun r_17 X_16 => if r_17 = 0 then some (x2, X_16) else fX2_faultIndex_4 n r_17 (x2 + 1) X_16))
set_option maxHeartbeats 4000000 in
set_option maxRecDepth 100000 in
theorem wX2_faultIndex_4 {p : Program} {l : Launch} {e : Env} {s : State} {m : MethodId} {args : Array Value} {below : List Frame} {meth : Method} {c : Code} {D : va_G} {L : Nat → Nat} {ac : Nat → ClassId} {r0 : Int32} {X0 : XM} (hL : LL L) (F : Fx p s m args meth c cX2_faultIndex 3 (some .int) wsX2_faultIndex yX2_faultIndex.cls D ac) : ∀ (n : Nat) (x1 : Int32) (x2 : Int32) (X : XM) (H : Heap) (locs : List Loc) (ls : Array Slot), Oh D L ac X (fr L) s.heap H locs → lv_has ls 3 [(0, .ref (L 13)), (1, .int x1), (2, .int x2)] → fX2_faultIndex_4 n x1 x2 X = some (r0, X0) → W p l e (headSpec wsX2_faultIndex ({ frames := 2, cells := 0, slots := 0, locals := 42 })).room s m args below meth c H locs 0 0 (MQ below (va_Qi (fun (r : Int32) (Y : XM) => r = r0 ∧ Y = X0) (fun (Y : XM) t => St D L ac Y t) (fr L)) args s 0 0 (fr L)) (F0 m 4 ls []) := by
  obtain ⟨hx, hb, hr, hts, hown, hlocks, hml, hK, hN⟩ := id F
  have hA : ∀ q, fr L q → fr L q := fun q h => h
  intro n
  induction n with
  | zero => intro x1 x2 X H locs ls hO hl hf; simp [fX2_faultIndex_4] at hf
  | succ n ih =>
    intro x1 x2 X H locs ls hO hl hf
    rw [fX2_faultIndex_4] at hf
    refine lv_iload_n hx hb dX2_faultIndex_4 rfl (lv_at hl 2 rfl) ?_
    refine lv_aload_n hx hb dX2_faultIndex_5 rfl (lv_at hl 0 rfl) ?_
    refine k_get (k := 1) (v := .int (X 20 0)) hx hb hts in_X2_faultIndex_X2 hown hK hO (by decide) rfl rfl (by decide) lk_X2_faultIndex_f21 rfl dX2_faultIndex_6 ?_
    refine lv_icmp_ge (tgt := 34) hx hb dX2_faultIndex_9 (by decide) (fun c_1 => ?_) (fun c_1 => ?_)
    · rw [if_pos c_1] at hf
      refine lv_iload_n hx hb dX2_faultIndex_34 rfl (lv_at hl 1 rfl) ?_
      refine lv_bipush (v := 10) hx hb dX2_faultIndex_35 (by decide) ?_
      refine lv_icmp_eq (tgt := 50) hx hb dX2_faultIndex_37 (by decide) (fun c_2 => ?_) (fun c_2 => ?_)
      · rw [if_pos c_2] at hf
        subst c_2
        refine lv_iconst (v := 1) hx hb dX2_faultIndex_50 (by decide) ?_
        refine lv_goto (tgt := 55) hx hb dX2_faultIndex_51 (by decide) ?_
        refine lv_istore_n (lv' := [(2, .int 1), (0, .ref (L 13)), (1, .int 10)]) hx hb dX2_faultIndex_55 rfl hl (by decide) rfl (fun ls_3 hl_3 => ?_)
        clear hl
        refine lv_iload_n hx hb dX2_faultIndex_56 rfl (lv_at hl_3 0 rfl) ?_
        refine lv_if_eq (tgt := 65) hx hb dX2_faultIndex_57 (by decide) (fun c_4 => absurd c_4 (by decide)) (fun _ => ?_)
        refine lv_bipush (v := (-6)) hx hb dX2_faultIndex_60 (by decide) ?_
        refine lv_goto (tgt := 69) hx hb dX2_faultIndex_62 (by decide) ?_
        obtain ⟨rfl, rfl⟩ := Prod.mk.inj (Option.some.inj hf)
        exact e_i hx hb hr hK hN hO hlocks dX2_faultIndex_69
      · rw [if_neg c_2] at hf
        refine lv_iload_n hx hb dX2_faultIndex_40 rfl (lv_at hl 1 rfl) ?_
        refine lv_iconst (v := 3) hx hb dX2_faultIndex_41 (by decide) ?_
        refine lv_icmp_eq (tgt := 50) hx hb dX2_faultIndex_42 (by decide) (fun c_5 => ?_) (fun c_5 => ?_)
        · rw [if_pos c_5] at hf
          subst c_5
          refine lv_iconst (v := 1) hx hb dX2_faultIndex_50 (by decide) ?_
          refine lv_goto (tgt := 55) hx hb dX2_faultIndex_51 (by decide) ?_
          refine lv_istore_n (lv' := [(2, .int 1), (0, .ref (L 13)), (1, .int 3)]) hx hb dX2_faultIndex_55 rfl hl (by decide) rfl (fun ls_6 hl_6 => ?_)
          clear hl
          refine lv_iload_n hx hb dX2_faultIndex_56 rfl (lv_at hl_6 0 rfl) ?_
          refine lv_if_eq (tgt := 65) hx hb dX2_faultIndex_57 (by decide) (fun c_7 => absurd c_7 (by decide)) (fun _ => ?_)
          refine lv_bipush (v := (-6)) hx hb dX2_faultIndex_60 (by decide) ?_
          refine lv_goto (tgt := 69) hx hb dX2_faultIndex_62 (by decide) ?_
          obtain ⟨rfl, rfl⟩ := Prod.mk.inj (Option.some.inj hf)
          exact e_i hx hb hr hK hN hO hlocks dX2_faultIndex_69
        · rw [if_neg c_5] at hf
          refine lv_iload_n hx hb dX2_faultIndex_45 rfl (lv_at hl 1 rfl) ?_
          refine lv_iconst (v := 5) hx hb dX2_faultIndex_46 (by decide) ?_
          refine lv_icmp_ne (tgt := 54) hx hb dX2_faultIndex_47 (by decide) (fun c_8 => ?_) (fun c_8 => ?_)
          · rw [if_neg c_8] at hf
            refine lv_iconst (v := 0) hx hb dX2_faultIndex_54 (by decide) ?_
            refine lv_istore_n (lv' := [(2, .int 0), (0, .ref (L 13)), (1, .int x1)]) hx hb dX2_faultIndex_55 rfl hl (by decide) rfl (fun ls_9 hl_9 => ?_)
            clear hl
            refine lv_iload_n hx hb dX2_faultIndex_56 rfl (lv_at hl_9 0 rfl) ?_
            refine lv_if_eq (tgt := 65) hx hb dX2_faultIndex_57 (by decide) (fun _ => ?_) (fun c_10 => absurd (by decide) c_10)
            refine lv_aload_n hx hb dX2_faultIndex_65 rfl (lv_at hl_9 1 rfl) ?_
            refine k_get (k := 1) (v := .int (X 20 0)) hx hb hts in_X2_faultIndex_X2 hown hK hO (by decide) rfl rfl (by decide) lk_X2_faultIndex_f21 rfl dX2_faultIndex_66 ?_
            obtain ⟨rfl, rfl⟩ := Prod.mk.inj (Option.some.inj hf)
            exact e_i hx hb hr hK hN hO hlocks dX2_faultIndex_69
          · rw [if_pos c_8] at hf
            subst c_8
            refine lv_iconst (v := 1) hx hb dX2_faultIndex_50 (by decide) ?_
            refine lv_goto (tgt := 55) hx hb dX2_faultIndex_51 (by decide) ?_
            refine lv_istore_n (lv' := [(2, .int 1), (0, .ref (L 13)), (1, .int 5)]) hx hb dX2_faultIndex_55 rfl hl (by decide) rfl (fun ls_11 hl_11 => ?_)
            clear hl
            refine lv_iload_n hx hb dX2_faultIndex_56 rfl (lv_at hl_11 0 rfl) ?_
            refine lv_if_eq (tgt := 65) hx hb dX2_faultIndex_57 (by decide) (fun c_12 => absurd c_12 (by decide)) (fun _ => ?_)
            refine lv_bipush (v := (-6)) hx hb dX2_faultIndex_60 (by decide) ?_
            refine lv_goto (tgt := 69) hx hb dX2_faultIndex_62 (by decide) ?_
            obtain ⟨rfl, rfl⟩ := Prod.mk.inj (Option.some.inj hf)
            exact e_i hx hb hr hK hN hO hlocks dX2_faultIndex_69
    · rw [if_neg c_1] at hf
      refine lv_iload_n hx hb dX2_faultIndex_12 rfl (lv_at hl 1 rfl) ?_
      refine lv_aload_n hx hb dX2_faultIndex_13 rfl (lv_at hl 0 rfl) ?_
      refine lv_iload_n hx hb dX2_faultIndex_14 rfl (lv_at hl 2 rfl) ?_
      replace hf := zi_some hf
      obtain ⟨r_14, X_13, hc_13, hf⟩ := hf
      refine k_ai (va_runV (As := [.int x2]) (rest := [.int x1]) ⟨hx, hb, hml, hown, hts⟩ (mX2_at l D L ac hL _ x2 _ _ hc_13) (cwV 1 hts gX2_faultIndex_X2_at rfl rfl rfl (by decide +kernel) ⟨Nat.le_of_ble_eq_true rfl, Nat.le_of_ble_eq_true rfl⟩) (k_pv (j := 13) hK hN hO (by decide) rfl rfl _) rfl rfl hl.1 rfl (lv_room (Nat.le_of_ble_eq_true rfl)) dX2_faultIndex_15 ⟨Nat.le_of_ble_eq_true rfl, Nat.le_of_ble_eq_true rfl⟩) hA hO (fun H_15 locs_15 hO_15 => ?_)
      clear hO
      replace hf := zi_some hf
      obtain ⟨r_17, X_16, hc_16, hf⟩ := hf
      refine k_ai (va_runS (As := [.int x1, .int r_14]) (rest := []) ⟨hx, hb, hml, hown, hts⟩ (mX2_placeBehind l D L ac hL _ x1 r_14 _ _ hc_16) (va_cwS 2 hts gX2_faultIndex_X2_placeBehind rfl rfl rfl (by decide +kernel) ⟨Nat.le_of_ble_eq_true rfl, Nat.le_of_ble_eq_true rfl⟩) (k_ps hK hN hO_15 _) rfl rfl hl.1 rfl (lv_room (Nat.le_of_ble_eq_true rfl)) dX2_faultIndex_18 ⟨Nat.le_of_ble_eq_true rfl, Nat.le_of_ble_eq_true rfl⟩) hA hO_15 (fun H_18 locs_18 hO_18 => ?_)
      clear hO_15
      refine lv_istore_n (lv' := [(1, .int r_17), (0, .ref (L 13)), (2, .int x2)]) hx hb dX2_faultIndex_21 rfl hl (by decide) rfl (fun ls_19 hl_19 => ?_)
      clear hl
      refine lv_iload_n hx hb dX2_faultIndex_22 rfl (lv_at hl_19 0 rfl) ?_
      refine lv_if_ne (tgt := 28) hx hb dX2_faultIndex_23 (by decide) (fun c_20 => ?_) (fun c_20 => ?_)
      · rw [if_neg c_20] at hf
        refine lv_iinc (v := x2 + 1) (lv' := [(2, .int (x2 + 1)), (1, .int r_17), (0, .ref (L 13))]) hx hb dX2_faultIndex_28 hl_19 (k := 2) rfl rfl (by decide) rfl (fun ls_21 hl_21 => ?_)
        clear hl_19
        refine lv_goto (tgt := 4) hx hb dX2_faultIndex_31 (by decide) ?_
        exact ih _ _ _  _ _ _ hO_18 (lv_sub hl_21 [2, 1, 0] rfl) hf
      · rw [if_pos c_20] at hf
        subst c_20
        refine lv_iload_n hx hb dX2_faultIndex_26 rfl (lv_at hl_19 2 rfl) ?_
        obtain ⟨rfl, rfl⟩ := Prod.mk.inj (Option.some.inj hf)
        exact e_i hx hb hr hK hN hO_18 hlocks dX2_faultIndex_27
def fX2_faultIndex   (X : XM) : Option (Int32 × XM) := fX2_faultIndex_4 fuel 1 0 X
set_option maxHeartbeats 4000000 in
set_option maxRecDepth 100000 in
theorem mX2_faultIndex (l : Launch) (D : va_G) (L : Nat → Nat) (ac : Nat → ClassId) (hL : LL L) (X : XM)  (r0 : Int32) (X0 : XM) (hf : fX2_faultIndex  X = some (r0, X0)) : Ci l yX2_faultIndex wsX2_faultIndex ({ frames := 2, cells := 0, slots := 0, locals := 42 }) D L ac X [.ref (L 13)] r0 X0 := by
  refine Met.ofK (cc := cX2_faultIndex) (maxL := 3) (ret := (some .int)) (lv := [(0, .ref (L 13))]) (by decide +kernel) rfl (Nat.le_of_ble_eq_true rfl) rfl ?_
  intro p e s m below meth c F hO ls hl
  obtain ⟨hx, hb, hr, hts, hown, hlocks, hml, hK, hN⟩ := id F
  have hA : ∀ q, fr L q → fr L q := fun q h => h
  unfold fX2_faultIndex at hf
  refine lv_iconst (v := 1) hx hb dX2_faultIndex_0 (by decide) ?_
  refine lv_istore_n (lv' := [(1, .int 1), (0, .ref (L 13))]) hx hb dX2_faultIndex_1 rfl hl (by decide) rfl (fun ls_22 hl_22 => ?_)
  clear hl
  refine lv_iconst (v := 0) hx hb dX2_faultIndex_2 (by decide) ?_
  refine lv_istore_n (lv' := [(2, .int 0), (1, .int 1), (0, .ref (L 13))]) hx hb dX2_faultIndex_3 rfl hl_22 (by decide) rfl (fun ls_23 hl_23 => ?_)
  clear hl_22
  exact wX2_faultIndex_4 hL F  fuel _ _ _  _ _ _ hO (lv_sub hl_23 [2, 1, 0] rfl) hf
theorem in_X5_nimbersBehind_X5 : ∀ w ∈ u_ws RX5 TX5 2, w ∈ wsX5_nimbersBehind := by decide +kernel
theorem lk_X5_nimbersBehind_f9 : Cond.fieldLink RX5 9 "PoisonPiles$Sizes" "nimbers" "[I" ∈ wsX5_nimbersBehind := by decide +kernel
theorem lk_X5_nimbersBehind_iX8 : Cond.initialized RX8 ∈ wsX5_nimbersBehind := by decide +kernel
theorem lk_X5_nimbersBehind_sX8_isIn : Cond.static yX8_isIn ∈ wsX5_nimbersBehind := by decide +kernel
def fX5_nimbersBehind_5   : Nat → Int32 → Int32 → Int32 → Int32 → XM → Option (Int32 × XM)
  | 0, _, _, _, _, _ => none
  | n + 1, x1, x2, x3, x4, X => if 5 < x4 then some (x3, X) else zl (x2 - x4) (fun v_2 => if v_2 < 0 then fX5_nimbersBehind_5 n x1 x2 x3 (x4 + 1) X else if 201 ≤ v_2 then fX5_nimbersBehind_5 n x1 x2 x3 (x4 + 1) X else zi (fX8_isIn x1 (x4 - 1) X) (fun r_9 X_8 => if r_9 = 0 then fX5_nimbersBehind_5 n x1 x2 x3 (x4 + 1) X_8 else zd v_2 201 (zl (x3 ||| (o_shl 1 (X_8 19 (Int32.toNatClampNeg v_2)))) (fun v_14 => fX5_nimbersBehind_5 n x1 x2 v_14 (x4 + 1) X_8))))
set_option maxHeartbeats 4000000 in
set_option maxRecDepth 100000 in
theorem wX5_nimbersBehind_5 {p : Program} {l : Launch} {e : Env} {s : State} {m : MethodId} {args : Array Value} {below : List Frame} {meth : Method} {c : Code} {D : va_G} {L : Nat → Nat} {ac : Nat → ClassId} {r0 : Int32} {X0 : XM} (hL : LL L) (F : Fx p s m args meth c cX5_nimbersBehind 6 (some .int) wsX5_nimbersBehind yX5_nimbersBehind.cls D ac) : ∀ (n : Nat) (x1 : Int32) (x2 : Int32) (x3 : Int32) (x4 : Int32) (X : XM) (H : Heap) (locs : List Loc) (ls : Array Slot), Oh D L ac X (fr L) s.heap H locs → lv_has ls 6 [(0, .ref (L 11)), (1, .int x1), (2, .int x2), (3, .int x3), (4, .int x4)] → fX5_nimbersBehind_5 n x1 x2 x3 x4 X = some (r0, X0) → W p l e (headSpec wsX5_nimbersBehind ({ frames := 1, cells := 0, slots := 0, locals := 21 })).room s m args below meth c H locs 0 0 (MQ below (va_Qi (fun (r : Int32) (Y : XM) => r = r0 ∧ Y = X0) (fun (Y : XM) t => St D L ac Y t) (fr L)) args s 0 0 (fr L)) (F0 m 5 ls []) := by
  obtain ⟨hx, hb, hr, hts, hown, hlocks, hml, hK, hN⟩ := id F
  have hA : ∀ q, fr L q → fr L q := fun q h => h
  intro n
  induction n with
  | zero => intro x1 x2 x3 x4 X H locs ls hO hl hf; simp [fX5_nimbersBehind_5] at hf
  | succ n ih =>
    intro x1 x2 x3 x4 X H locs ls hO hl hf
    rw [fX5_nimbersBehind_5] at hf
    refine lv_iload hx hb dX5_nimbersBehind_5 (lv_at hl 4 rfl) ?_
    refine lv_iconst (v := 5) hx hb dX5_nimbersBehind_7 (by decide) ?_
    refine lv_icmp_gt (tgt := 61) hx hb dX5_nimbersBehind_8 (by decide) (fun c_1 => ?_) (fun c_1 => ?_)
    · rw [if_pos c_1] at hf
      refine lv_iload_n hx hb dX5_nimbersBehind_61 rfl (lv_at hl 3 rfl) ?_
      obtain ⟨rfl, rfl⟩ := Prod.mk.inj (Option.some.inj hf)
      exact e_i hx hb hr hK hN hO hlocks dX5_nimbersBehind_62
    · rw [if_neg c_1] at hf
      refine lv_iload_n hx hb dX5_nimbersBehind_11 rfl (lv_at hl 2 rfl) ?_
      refine lv_iload hx hb dX5_nimbersBehind_12 (lv_at hl 4 rfl) ?_
      refine lv_isub hx hb dX5_nimbersBehind_14 ?_
      replace hf := zl_some hf
      obtain ⟨v_2, hv_2, hf⟩ := hf
      refine lv_tope hv_2 ?_
      refine lv_istore (lv' := [(5, .int v_2), (0, .ref (L 11)), (1, .int x1), (2, .int x2), (3, .int x3), (4, .int x4)]) hx hb dX5_nimbersBehind_15 hl (by decide) rfl (fun ls_3 hl_3 => ?_)
      clear hl
      refine lv_iload hx hb dX5_nimbersBehind_17 (lv_at hl_3 0 rfl) ?_
      refine lv_if_lt (tgt := 55) hx hb dX5_nimbersBehind_19 (by decide) (fun c_4 => ?_) (fun c_4 => ?_)
      · rw [if_pos c_4] at hf
        refine lv_iinc (v := x4 + 1) (lv' := [(4, .int (x4 + 1)), (5, .int v_2), (0, .ref (L 11)), (1, .int x1), (2, .int x2), (3, .int x3)]) hx hb dX5_nimbersBehind_55 hl_3 (k := 5) rfl rfl (by decide) rfl (fun ls_5 hl_5 => ?_)
        clear hl_3
        refine lv_goto (tgt := 5) hx hb dX5_nimbersBehind_58 (by decide) ?_
        exact ih _ _ _ _ _  _ _ _ hO (lv_sub hl_5 [2, 3, 4, 5, 0] rfl) hf
      · rw [if_neg c_4] at hf
        refine lv_iload hx hb dX5_nimbersBehind_22 (lv_at hl_3 0 rfl) ?_
        refine lv_aload_n hx hb dX5_nimbersBehind_24 rfl (lv_at hl_3 1 rfl) ?_
        refine k_get (k := 0) (v := .ref (L 12)) hx hb hts in_X5_nimbersBehind_X5 hown hK hO (by decide) rfl rfl (by decide) lk_X5_nimbersBehind_f9 rfl dX5_nimbersBehind_25 ?_
        refine k_alen (v := 201) (t := 0) hx hb hK hO (by decide) rfl rfl rfl dX5_nimbersBehind_28 ?_
        refine lv_icmp_ge (tgt := 55) hx hb dX5_nimbersBehind_29 (by decide) (fun c_6 => ?_) (fun c_6 => ?_)
        · rw [if_pos c_6] at hf
          refine lv_iinc (v := x4 + 1) (lv' := [(4, .int (x4 + 1)), (5, .int v_2), (0, .ref (L 11)), (1, .int x1), (2, .int x2), (3, .int x3)]) hx hb dX5_nimbersBehind_55 hl_3 (k := 5) rfl rfl (by decide) rfl (fun ls_7 hl_7 => ?_)
          clear hl_3
          refine lv_goto (tgt := 5) hx hb dX5_nimbersBehind_58 (by decide) ?_
          exact ih _ _ _ _ _  _ _ _ hO (lv_sub hl_7 [2, 3, 4, 5, 0] rfl) hf
        · rw [if_neg c_6] at hf
          refine lv_iload_n hx hb dX5_nimbersBehind_32 rfl (lv_at hl_3 2 rfl) ?_
          refine lv_iload hx hb dX5_nimbersBehind_33 (lv_at hl_3 5 rfl) ?_
          refine lv_iconst (v := 1) hx hb dX5_nimbersBehind_35 (by decide) ?_
          refine lv_isub hx hb dX5_nimbersBehind_36 ?_
          replace hf := zi_some hf
          obtain ⟨r_9, X_8, hc_8, hf⟩ := hf
          refine k_ai (va_runSN (As := [.int x1, .int (x4 - 1)]) (rest := []) ⟨hx, hb, hml, hown, hts⟩ (mX8_isIn l D L ac hL _ x1 (x4 - 1) _ _ hc_8) ⟨va_cnB 2 hts gX5_nimbersBehind_X8_isIn_n34 rfl rfl rfl (hN _ nx_method_X5_34) (hts _ lk_X5_nimbersBehind_iX8) (by decide +kernel) ⟨Nat.le_of_ble_eq_true rfl, Nat.le_of_ble_eq_true rfl⟩, hts _ lk_X5_nimbersBehind_sX8_isIn, trivial⟩ (k_ps hK hN hO _) rfl rfl hl_3.1 rfl (lv_room (Nat.le_of_ble_eq_true rfl)) dX5_nimbersBehind_37 ⟨Nat.le_of_ble_eq_true rfl, Nat.le_of_ble_eq_true rfl⟩) hA hO (fun H_10 locs_10 hO_10 => ?_)
          clear hO
          refine lv_if_eq (tgt := 55) hx hb dX5_nimbersBehind_40 (by decide) (fun c_11 => ?_) (fun c_11 => ?_)
          · rw [if_pos c_11] at hf
            subst c_11
            refine lv_iinc (v := x4 + 1) (lv' := [(4, .int (x4 + 1)), (5, .int v_2), (0, .ref (L 11)), (1, .int x1), (2, .int x2), (3, .int x3)]) hx hb dX5_nimbersBehind_55 hl_3 (k := 5) rfl rfl (by decide) rfl (fun ls_12 hl_12 => ?_)
            clear hl_3
            refine lv_goto (tgt := 5) hx hb dX5_nimbersBehind_58 (by decide) ?_
            exact ih _ _ _ _ _  _ _ _ hO_10 (lv_sub hl_12 [2, 3, 4, 5, 0] rfl) hf
          · rw [if_neg c_11] at hf
            refine lv_iload_n hx hb dX5_nimbersBehind_43 rfl (lv_at hl_3 4 rfl) ?_
            refine lv_iconst (v := 1) hx hb dX5_nimbersBehind_44 (by decide) ?_
            refine lv_aload_n hx hb dX5_nimbersBehind_45 rfl (lv_at hl_3 1 rfl) ?_
            refine k_get (k := 0) (v := .ref (L 12)) hx hb hts in_X5_nimbersBehind_X5 hown hK hO_10 (by decide) rfl rfl (by decide) lk_X5_nimbersBehind_f9 rfl dX5_nimbersBehind_46 ?_
            refine lv_iload hx hb dX5_nimbersBehind_49 (lv_at hl_3 0 rfl) ?_
            replace hf := zd_some hf
            obtain ⟨hi_13, hf⟩ := hf
            refine k_iald hx hb hK hO_10 (by decide) (fun _ => rfl) hi_13 dX5_nimbersBehind_51 ?_
            refine lv_ishl hx hb dX5_nimbersBehind_52 ?_
            refine lv_ior hx hb dX5_nimbersBehind_53 ?_
            replace hf := zl_some hf
            obtain ⟨v_14, hv_14, hf⟩ := hf
            refine lv_tope hv_14 ?_
            refine lv_istore_n (lv' := [(3, .int v_14), (5, .int v_2), (0, .ref (L 11)), (1, .int x1), (2, .int x2), (4, .int x4)]) hx hb dX5_nimbersBehind_54 rfl hl_3 (by decide) rfl (fun ls_15 hl_15 => ?_)
            clear hl_3
            refine lv_iinc (v := x4 + 1) (lv' := [(4, .int (x4 + 1)), (3, .int v_14), (5, .int v_2), (0, .ref (L 11)), (1, .int x1), (2, .int x2)]) hx hb dX5_nimbersBehind_55 hl_15 (k := 5) rfl rfl (by decide) rfl (fun ls_16 hl_16 => ?_)
            clear hl_15
            refine lv_goto (tgt := 5) hx hb dX5_nimbersBehind_58 (by decide) ?_
            exact ih _ _ _ _ _  _ _ _ hO_10 (lv_sub hl_16 [3, 4, 5, 1, 0] rfl) hf
def fX5_nimbersBehind  (a1 : Int32) (a2 : Int32) (X : XM) : Option (Int32 × XM) := fX5_nimbersBehind_5 fuel a1 a2 0 1 X
set_option maxHeartbeats 4000000 in
set_option maxRecDepth 100000 in
theorem mX5_nimbersBehind (l : Launch) (D : va_G) (L : Nat → Nat) (ac : Nat → ClassId) (hL : LL L) (X : XM) (a1 : Int32) (a2 : Int32) (r0 : Int32) (X0 : XM) (hf : fX5_nimbersBehind a1 a2 X = some (r0, X0)) : Ci l yX5_nimbersBehind wsX5_nimbersBehind ({ frames := 1, cells := 0, slots := 0, locals := 21 }) D L ac X [.ref (L 11), .int a1, .int a2] r0 X0 := by
  refine Met.ofK (cc := cX5_nimbersBehind) (maxL := 6) (ret := (some .int)) (lv := [(0, .ref (L 11)), (1, .int a1), (2, .int a2)]) (by decide +kernel) rfl (Nat.le_of_ble_eq_true rfl) rfl ?_
  intro p e s m below meth c F hO ls hl
  obtain ⟨hx, hb, hr, hts, hown, hlocks, hml, hK, hN⟩ := id F
  have hA : ∀ q, fr L q → fr L q := fun q h => h
  unfold fX5_nimbersBehind at hf
  refine lv_iconst (v := 0) hx hb dX5_nimbersBehind_0 (by decide) ?_
  refine lv_istore_n (lv' := [(3, .int 0), (0, .ref (L 11)), (1, .int a1), (2, .int a2)]) hx hb dX5_nimbersBehind_1 rfl hl (by decide) rfl (fun ls_17 hl_17 => ?_)
  clear hl
  refine lv_iconst (v := 1) hx hb dX5_nimbersBehind_2 (by decide) ?_
  refine lv_istore (lv' := [(4, .int 1), (3, .int 0), (0, .ref (L 11)), (1, .int a1), (2, .int a2)]) hx hb dX5_nimbersBehind_3 hl_17 (by decide) rfl (fun ls_18 hl_18 => ?_)
  clear hl_17
  exact wX5_nimbersBehind_5 hL F  fuel _ _ _ _ _  _ _ _ hO (lv_sub hl_18 [2, 3, 4, 1, 0] rfl) hf
theorem lk_X5_leastOutside_iX8 : Cond.initialized RX8 ∈ wsX5_leastOutside := by decide +kernel
theorem lk_X5_leastOutside_sX8_isIn : Cond.static yX8_isIn ∈ wsX5_leastOutside := by decide +kernel
def fX5_leastOutside_2   : Nat → Int32 → Int32 → XM → Option (Int32 × XM)
  | 0, _, _, _ => none
  | n + 1, x0, x1, X => if 5 ≤ x1 then some (x1, X) else zi (fX8_isIn x0 x1 X) (fun r_3 X_2 => if r_3 = 0 then some (x1, X_2) else fX5_leastOutside_2 n x0 (x1 + 1) X_2)
set_option maxHeartbeats 4000000 in
set_option maxRecDepth 100000 in
theorem wX5_leastOutside_2 {p : Program} {l : Launch} {e : Env} {s : State} {m : MethodId} {args : Array Value} {below : List Frame} {meth : Method} {c : Code} {D : va_G} {L : Nat → Nat} {ac : Nat → ClassId} {r0 : Int32} {X0 : XM} (hL : LL L) (F : Fx p s m args meth c cX5_leastOutside 2 (some .int) wsX5_leastOutside yX5_leastOutside.cls D ac) : ∀ (n : Nat) (x0 : Int32) (x1 : Int32) (X : XM) (H : Heap) (locs : List Loc) (ls : Array Slot), Oh D L ac X (fr L) s.heap H locs → lv_has ls 2 [(0, .int x0), (1, .int x1)] → fX5_leastOutside_2 n x0 x1 X = some (r0, X0) → W p l e (headSpec wsX5_leastOutside ({ frames := 1, cells := 0, slots := 0, locals := 21 })).room s m args below meth c H locs 0 0 (MQ below (va_Qi (fun (r : Int32) (Y : XM) => r = r0 ∧ Y = X0) (fun (Y : XM) t => St D L ac Y t) (fr L)) args s 0 0 (fr L)) (F0 m 2 ls []) := by
  obtain ⟨hx, hb, hr, hts, hown, hlocks, hml, hK, hN⟩ := id F
  have hA : ∀ q, fr L q → fr L q := fun q h => h
  intro n
  induction n with
  | zero => intro x0 x1 X H locs ls hO hl hf; simp [fX5_leastOutside_2] at hf
  | succ n ih =>
    intro x0 x1 X H locs ls hO hl hf
    rw [fX5_leastOutside_2] at hf
    refine lv_iload_n hx hb dX5_leastOutside_2 rfl (lv_at hl 1 rfl) ?_
    refine lv_iconst (v := 5) hx hb dX5_leastOutside_3 (by decide) ?_
    refine lv_icmp_ge (tgt := 21) hx hb dX5_leastOutside_4 (by decide) (fun c_1 => ?_) (fun c_1 => ?_)
    · rw [if_pos c_1] at hf
      refine lv_iload_n hx hb dX5_leastOutside_21 rfl (lv_at hl 1 rfl) ?_
      obtain ⟨rfl, rfl⟩ := Prod.mk.inj (Option.some.inj hf)
      exact e_i hx hb hr hK hN hO hlocks dX5_leastOutside_22
    · rw [if_neg c_1] at hf
      refine lv_iload_n hx hb dX5_leastOutside_7 rfl (lv_at hl 0 rfl) ?_
      refine lv_iload_n hx hb dX5_leastOutside_8 rfl (lv_at hl 1 rfl) ?_
      replace hf := zi_some hf
      obtain ⟨r_3, X_2, hc_2, hf⟩ := hf
      refine k_ai (va_runSN (As := [.int x0, .int x1]) (rest := []) ⟨hx, hb, hml, hown, hts⟩ (mX8_isIn l D L ac hL _ x0 x1 _ _ hc_2) ⟨va_cnB 2 hts gX5_leastOutside_X8_isIn_n34 rfl rfl rfl (hN _ nx_method_X5_34) (hts _ lk_X5_leastOutside_iX8) (by decide +kernel) ⟨Nat.le_of_ble_eq_true rfl, Nat.le_of_ble_eq_true rfl⟩, hts _ lk_X5_leastOutside_sX8_isIn, trivial⟩ (k_ps hK hN hO _) rfl rfl hl.1 rfl (lv_room (Nat.le_of_ble_eq_true rfl)) dX5_leastOutside_9 ⟨Nat.le_of_ble_eq_true rfl, Nat.le_of_ble_eq_true rfl⟩) hA hO (fun H_4 locs_4 hO_4 => ?_)
      clear hO
      refine lv_if_eq (tgt := 21) hx hb dX5_leastOutside_12 (by decide) (fun c_5 => ?_) (fun c_5 => ?_)
      · rw [if_pos c_5] at hf
        subst c_5
        refine lv_iload_n hx hb dX5_leastOutside_21 rfl (lv_at hl 1 rfl) ?_
        obtain ⟨rfl, rfl⟩ := Prod.mk.inj (Option.some.inj hf)
        exact e_i hx hb hr hK hN hO_4 hlocks dX5_leastOutside_22
      · rw [if_neg c_5] at hf
        refine lv_iinc (v := x1 + 1) (lv' := [(1, .int (x1 + 1)), (0, .int x0)]) hx hb dX5_leastOutside_15 hl (k := 1) rfl rfl (by decide) rfl (fun ls_6 hl_6 => ?_)
        clear hl
        refine lv_goto (tgt := 2) hx hb dX5_leastOutside_18 (by decide) ?_
        exact ih _ _ _  _ _ _ hO_4 (lv_sub hl_6 [1, 0] rfl) hf
def fX5_leastOutside  (a1 : Int32) (X : XM) : Option (Int32 × XM) := fX5_leastOutside_2 fuel a1 0 X
set_option maxHeartbeats 4000000 in
set_option maxRecDepth 100000 in
theorem mX5_leastOutside (l : Launch) (D : va_G) (L : Nat → Nat) (ac : Nat → ClassId) (hL : LL L) (X : XM) (a1 : Int32) (r0 : Int32) (X0 : XM) (hf : fX5_leastOutside a1 X = some (r0, X0)) : Ci l yX5_leastOutside wsX5_leastOutside ({ frames := 1, cells := 0, slots := 0, locals := 21 }) D L ac X [.int a1] r0 X0 := by
  refine Met.ofK (cc := cX5_leastOutside) (maxL := 2) (ret := (some .int)) (lv := [(0, .int a1)]) (by decide +kernel) rfl (Nat.le_of_ble_eq_true rfl) rfl ?_
  intro p e s m below meth c F hO ls hl
  obtain ⟨hx, hb, hr, hts, hown, hlocks, hml, hK, hN⟩ := id F
  have hA : ∀ q, fr L q → fr L q := fun q h => h
  unfold fX5_leastOutside at hf
  refine lv_iconst (v := 0) hx hb dX5_leastOutside_0 (by decide) ?_
  refine lv_istore_n (lv' := [(1, .int 0), (0, .int a1)]) hx hb dX5_leastOutside_1 rfl hl (by decide) rfl (fun ls_7 hl_7 => ?_)
  clear hl
  exact wX5_leastOutside_2 hL F  fuel _ _ _  _ _ _ hO (lv_sub hl_7 [1, 0] rfl) hf
theorem in_X5_learn_X5 : ∀ w ∈ u_ws RX5 TX5 2, w ∈ wsX5_learn := by decide +kernel
theorem lk_X5_learn_f23 : Cond.fieldLink RX5 23 "PoisonPiles$Sizes" "knownTakes" "I" ∈ wsX5_learn := by decide +kernel
theorem lk_X5_learn_f9 : Cond.fieldLink RX5 9 "PoisonPiles$Sizes" "nimbers" "[I" ∈ wsX5_learn := by decide +kernel
def fX5_learn_10   : Nat → Int32 → Int32 → XM → Option XM
  | 0, _, _, _ => none
  | n + 1, x1, x2, X => if 201 ≤ x2 then zl (xup X 18 0 x1) (fun X_2 => some X_2) else zi (fX5_nimbersBehind x1 x2 X) (fun r_5 X_4 => zi (fX5_leastOutside r_5 X_4) (fun r_8 X_7 => zd x2 201 (zl (xup X_7 19 (Int32.toNatClampNeg x2) r_8) (fun X_11 => fX5_learn_10 n x1 (x2 + 1) X_11))))
set_option maxHeartbeats 4000000 in
set_option maxRecDepth 100000 in
theorem wX5_learn_10 {p : Program} {l : Launch} {e : Env} {s : State} {m : MethodId} {args : Array Value} {below : List Frame} {meth : Method} {c : Code} {D : va_G} {L : Nat → Nat} {ac : Nat → ClassId} {X0 : XM} (hL : LL L) (F : Fx p s m args meth c cX5_learn 3 none wsX5_learn yX5_learn.cls D ac) : ∀ (n : Nat) (x1 : Int32) (x2 : Int32) (X : XM) (H : Heap) (locs : List Loc) (ls : Array Slot), Oh D L ac X (fr L) s.heap H locs → lv_has ls 3 [(0, .ref (L 11)), (1, .int x1), (2, .int x2)] → fX5_learn_10 n x1 x2 X = some X0 → W p l e (headSpec wsX5_learn ({ frames := 2, cells := 0, slots := 0, locals := 46 })).room s m args below meth c H locs 0 0 (MQ below (va_Qv (fun (Y : XM) => Y = X0) (fun (Y : XM) t => St D L ac Y t) (fr L)) args s 0 0 (fr L)) (F0 m 10 ls []) := by
  obtain ⟨hx, hb, hr, hts, hown, hlocks, hml, hK, hN⟩ := id F
  have hA : ∀ q, fr L q → fr L q := fun q h => h
  intro n
  induction n with
  | zero => intro x1 x2 X H locs ls hO hl hf; simp [fX5_learn_10] at hf
  | succ n ih =>
    intro x1 x2 X H locs ls hO hl hf
    rw [fX5_learn_10] at hf
    refine lv_iload_n hx hb dX5_learn_10 rfl (lv_at hl 2 rfl) ?_
    refine lv_aload_n hx hb dX5_learn_11 rfl (lv_at hl 0 rfl) ?_
    refine k_get (k := 0) (v := .ref (L 12)) hx hb hts in_X5_learn_X5 hown hK hO (by decide) rfl rfl (by decide) lk_X5_learn_f9 rfl dX5_learn_12 ?_
    refine k_alen (v := 201) (t := 0) hx hb hK hO (by decide) rfl rfl rfl dX5_learn_15 ?_
    refine lv_icmp_ge (tgt := 40) hx hb dX5_learn_16 (by decide) (fun c_1 => ?_) (fun c_1 => ?_)
    · rw [if_pos c_1] at hf
      refine lv_aload_n hx hb dX5_learn_40 rfl (lv_at hl 0 rfl) ?_
      refine lv_iload_n hx hb dX5_learn_41 rfl (lv_at hl 1 rfl) ?_
      refine k_put (ty := .int) (k := 1) (r := 18) (k' := 0) hx hb tyX5 tyX5_ok nmX5 hts in_X5_learn_X5 hown hK  hL hA hO (by decide) rfl (by omega) (fun Y => rfl) (by simp [xup]) rfl (by decide) lk_X5_learn_f23 rfl (by decide +kernel) rfl rfl (Nat.le_of_ble_eq_true rfl) dX5_learn_42 (fun H_3 locs_3 hO_3 => ?_)
      replace hf := zl_some hf
      obtain ⟨X_2, hX_2, hf⟩ := hf
      have hQ_3 := zo_eq hX_2 hO_3
      clear hO_3 hO
      obtain rfl := Option.some.inj hf
      exact e_v hx hb hr hK hN hQ_3 hlocks dX5_learn_45
    · rw [if_neg c_1] at hf
      refine lv_aload_n hx hb dX5_learn_19 rfl (lv_at hl 0 rfl) ?_
      refine k_get (k := 0) (v := .ref (L 12)) hx hb hts in_X5_learn_X5 hown hK hO (by decide) rfl rfl (by decide) lk_X5_learn_f9 rfl dX5_learn_20 ?_
      refine lv_iload_n hx hb dX5_learn_23 rfl (lv_at hl 2 rfl) ?_
      refine lv_aload_n hx hb dX5_learn_24 rfl (lv_at hl 0 rfl) ?_
      refine lv_iload_n hx hb dX5_learn_25 rfl (lv_at hl 1 rfl) ?_
      refine lv_iload_n hx hb dX5_learn_26 rfl (lv_at hl 2 rfl) ?_
      replace hf := zi_some hf
      obtain ⟨r_5, X_4, hc_4, hf⟩ := hf
      refine k_ai (va_runV (As := [.int x1, .int x2]) (rest := [.int x2, .ref (L 12)]) ⟨hx, hb, hml, hown, hts⟩ (mX5_nimbersBehind l D L ac hL _ x1 x2 _ _ hc_4) (cwV 2 hts gX5_learn_X5_nimbersBehind rfl rfl rfl (by decide +kernel) ⟨Nat.le_of_ble_eq_true rfl, Nat.le_of_ble_eq_true rfl⟩) (k_pv (j := 11) hK hN hO (by decide) rfl rfl _) rfl rfl hl.1 rfl (lv_room (Nat.le_of_ble_eq_true rfl)) dX5_learn_27 ⟨Nat.le_of_ble_eq_true rfl, Nat.le_of_ble_eq_true rfl⟩) hA hO (fun H_6 locs_6 hO_6 => ?_)
      clear hO
      replace hf := zi_some hf
      obtain ⟨r_8, X_7, hc_7, hf⟩ := hf
      refine k_ai (va_runS (As := [.int r_5]) (rest := [.int x2, .ref (L 12)]) ⟨hx, hb, hml, hown, hts⟩ (mX5_leastOutside l D L ac hL _ r_5 _ _ hc_7) (va_cwS 1 hts gX5_learn_X5_leastOutside rfl rfl rfl (by decide +kernel) ⟨Nat.le_of_ble_eq_true rfl, Nat.le_of_ble_eq_true rfl⟩) (k_ps hK hN hO_6 _) rfl rfl hl.1 rfl (lv_room (Nat.le_of_ble_eq_true rfl)) dX5_learn_30 ⟨Nat.le_of_ble_eq_true rfl, Nat.le_of_ble_eq_true rfl⟩) hA hO_6 (fun H_9 locs_9 hO_9 => ?_)
      clear hO_6
      replace hf := zd_some hf
      obtain ⟨hi_10, hf⟩ := hf
      refine k_iast hx hb hK hL hA hO_9 (by decide) (by decide) rfl (fun _ => rfl) hi_10 dX5_learn_33 (fun H_12 locs_12 hO_12 => ?_)
      replace hf := zl_some hf
      obtain ⟨X_11, hX_11, hf⟩ := hf
      have hQ_12 := zo_eq hX_11 hO_12
      clear hO_12 hO_9
      refine lv_iinc (v := x2 + 1) (lv' := [(2, .int (x2 + 1)), (0, .ref (L 11)), (1, .int x1)]) hx hb dX5_learn_34 hl (k := 2) rfl rfl (by decide) rfl (fun ls_13 hl_13 => ?_)
      clear hl
      refine lv_goto (tgt := 10) hx hb dX5_learn_37 (by decide) ?_
      exact ih _ _ _  _ _ _ hQ_12 (lv_sub hl_13 [1, 2, 0] rfl) hf
def fX5_learn  (a1 : Int32) (X : XM) : Option XM := if a1 = (X 18 0) then some X else fX5_learn_10 fuel a1 0 X
set_option maxHeartbeats 4000000 in
set_option maxRecDepth 100000 in
theorem mX5_learn (l : Launch) (D : va_G) (L : Nat → Nat) (ac : Nat → ClassId) (hL : LL L) (X : XM) (a1 : Int32) (X0 : XM) (hf : fX5_learn a1 X = some X0) : Cv l yX5_learn wsX5_learn ({ frames := 2, cells := 0, slots := 0, locals := 46 }) D L ac X [.ref (L 11), .int a1] X0 := by
  refine Met.ofK (cc := cX5_learn) (maxL := 3) (ret := none) (lv := [(0, .ref (L 11)), (1, .int a1)]) (by decide +kernel) rfl (Nat.le_of_ble_eq_true rfl) rfl ?_
  intro p e s m below meth c F hO ls hl
  obtain ⟨hx, hb, hr, hts, hown, hlocks, hml, hK, hN⟩ := id F
  have hA : ∀ q, fr L q → fr L q := fun q h => h
  unfold fX5_learn at hf
  refine lv_iload_n hx hb dX5_learn_0 rfl (lv_at hl 1 rfl) ?_
  refine lv_aload_n hx hb dX5_learn_1 rfl (lv_at hl 0 rfl) ?_
  refine k_get (k := 1) (v := .int (X 18 0)) hx hb hts in_X5_learn_X5 hown hK hO (by decide) rfl rfl (by decide) lk_X5_learn_f23 rfl dX5_learn_2 ?_
  refine lv_icmp_eq (tgt := 45) hx hb dX5_learn_5 (by decide) (fun c_14 => ?_) (fun c_14 => ?_)
  · rw [if_pos c_14] at hf
    obtain rfl := Option.some.inj hf
    exact e_v hx hb hr hK hN hO hlocks dX5_learn_45
  · rw [if_neg c_14] at hf
    refine lv_iconst (v := 0) hx hb dX5_learn_8 (by decide) ?_
    refine lv_istore_n (lv' := [(2, .int 0), (0, .ref (L 11)), (1, .int a1)]) hx hb dX5_learn_9 rfl hl (by decide) rfl (fun ls_15 hl_15 => ?_)
    clear hl
    exact wX5_learn_10 hL F  fuel _ _ _  _ _ _ hO (lv_sub hl_15 [1, 2, 0] rfl) hf
theorem in_X5_nimber_X5 : ∀ w ∈ u_ws RX5 TX5 2, w ∈ wsX5_nimber := by decide +kernel
theorem lk_X5_nimber_f9 : Cond.fieldLink RX5 9 "PoisonPiles$Sizes" "nimbers" "[I" ∈ wsX5_nimber := by decide +kernel
def fX5_nimber  (a1 : Int32) (a2 : Int32) (X : XM) : Option (Int32 × XM) := zv (fX5_learn a1 X) (fun X_1 => if a2 < 0 then some (0, X_1) else if 201 ≤ a2 then some (0, X_1) else zd a2 201 (some (X_1 19 (Int32.toNatClampNeg a2), X_1)))
set_option maxHeartbeats 4000000 in
set_option maxRecDepth 100000 in
theorem mX5_nimber (l : Launch) (D : va_G) (L : Nat → Nat) (ac : Nat → ClassId) (hL : LL L) (X : XM) (a1 : Int32) (a2 : Int32) (r0 : Int32) (X0 : XM) (hf : fX5_nimber a1 a2 X = some (r0, X0)) : Ci l yX5_nimber wsX5_nimber ({ frames := 3, cells := 0, slots := 0, locals := 68 }) D L ac X [.ref (L 11), .int a1, .int a2] r0 X0 := by
  refine Met.ofK (cc := cX5_nimber) (maxL := 3) (ret := (some .int)) (lv := [(0, .ref (L 11)), (1, .int a1), (2, .int a2)]) (by decide +kernel) rfl (Nat.le_of_ble_eq_true rfl) rfl ?_
  intro p e s m below meth c F hO ls hl
  obtain ⟨hx, hb, hr, hts, hown, hlocks, hml, hK, hN⟩ := id F
  have hA : ∀ q, fr L q → fr L q := fun q h => h
  unfold fX5_nimber at hf
  refine lv_aload_n hx hb dX5_nimber_0 rfl (lv_at hl 0 rfl) ?_
  refine lv_iload_n hx hb dX5_nimber_1 rfl (lv_at hl 1 rfl) ?_
  replace hf := zv_some hf
  obtain ⟨X_1, hc_1, hf⟩ := hf
  refine k_av (va_runV (As := [.int a1]) (rest := []) ⟨hx, hb, hml, hown, hts⟩ (mX5_learn l D L ac hL _ a1 _ hc_1) (cwV 1 hts gX5_nimber_X5_learn rfl rfl rfl (by decide +kernel) ⟨Nat.le_of_ble_eq_true rfl, Nat.le_of_ble_eq_true rfl⟩) (k_pv (j := 11) hK hN hO (by decide) rfl rfl _) rfl rfl hl.1 rfl (lv_room (Nat.le_of_ble_eq_true rfl)) dX5_nimber_2 ⟨Nat.le_of_ble_eq_true rfl, Nat.le_of_ble_eq_true rfl⟩) hA hO (fun H_2 locs_2 hO_2 => ?_)
  clear hO
  refine lv_iload_n hx hb dX5_nimber_5 rfl (lv_at hl 2 rfl) ?_
  refine lv_if_lt (tgt := 27) hx hb dX5_nimber_6 (by decide) (fun c_3 => ?_) (fun c_3 => ?_)
  · rw [if_pos c_3] at hf
    refine lv_iconst (v := 0) hx hb dX5_nimber_27 (by decide) ?_
    obtain ⟨rfl, rfl⟩ := Prod.mk.inj (Option.some.inj hf)
    exact e_i hx hb hr hK hN hO_2 hlocks dX5_nimber_28
  · rw [if_neg c_3] at hf
    refine lv_iload_n hx hb dX5_nimber_9 rfl (lv_at hl 2 rfl) ?_
    refine lv_aload_n hx hb dX5_nimber_10 rfl (lv_at hl 0 rfl) ?_
    refine k_get (k := 0) (v := .ref (L 12)) hx hb hts in_X5_nimber_X5 hown hK hO_2 (by decide) rfl rfl (by decide) lk_X5_nimber_f9 rfl dX5_nimber_11 ?_
    refine k_alen (v := 201) (t := 0) hx hb hK hO_2 (by decide) rfl rfl rfl dX5_nimber_14 ?_
    refine lv_icmp_ge (tgt := 27) hx hb dX5_nimber_15 (by decide) (fun c_4 => ?_) (fun c_4 => ?_)
    · rw [if_pos c_4] at hf
      refine lv_iconst (v := 0) hx hb dX5_nimber_27 (by decide) ?_
      obtain ⟨rfl, rfl⟩ := Prod.mk.inj (Option.some.inj hf)
      exact e_i hx hb hr hK hN hO_2 hlocks dX5_nimber_28
    · rw [if_neg c_4] at hf
      refine lv_aload_n hx hb dX5_nimber_18 rfl (lv_at hl 0 rfl) ?_
      refine k_get (k := 0) (v := .ref (L 12)) hx hb hts in_X5_nimber_X5 hown hK hO_2 (by decide) rfl rfl (by decide) lk_X5_nimber_f9 rfl dX5_nimber_19 ?_
      refine lv_iload_n hx hb dX5_nimber_22 rfl (lv_at hl 2 rfl) ?_
      replace hf := zd_some hf
      obtain ⟨hi_5, hf⟩ := hf
      refine k_iald hx hb hK hO_2 (by decide) (fun _ => rfl) hi_5 dX5_nimber_23 ?_
      refine lv_goto (tgt := 28) hx hb dX5_nimber_24 (by decide) ?_
      obtain ⟨rfl, rfl⟩ := Prod.mk.inj (Option.some.inj hf)
      exact e_i hx hb hr hK hN hO_2 hlocks dX5_nimber_28
theorem in_X5_repeatsFrom_X5 : ∀ w ∈ u_ws RX5 TX5 2, w ∈ wsX5_repeatsFrom := by decide +kernel
theorem lk_X5_repeatsFrom_f9 : Cond.fieldLink RX5 9 "PoisonPiles$Sizes" "nimbers" "[I" ∈ wsX5_repeatsFrom := by decide +kernel
def fX5_repeatsFrom_13   : Nat → Int32 → Int32 → Int32 → XM → Option (Int32 × XM)
  | 0, _, _, _, _ => none
  | n + 1, x1, x2, x3, X => if x3 ≤ 0 then some (x3, X) else zi (fX5_nimber x1 (x3 - 1) X) (fun r_3 X_2 => zi (fX5_nimber x1 ((x3 - 1) + x2) X_2) (fun r_6 X_5 => if r_3 = r_6 then fX5_repeatsFrom_13 n x1 x2 (x3 + (-1)) X_5 else some (x3, X_5)))
set_option maxHeartbeats 4000000 in
set_option maxRecDepth 100000 in
theorem wX5_repeatsFrom_13 {p : Program} {l : Launch} {e : Env} {s : State} {m : MethodId} {args : Array Value} {below : List Frame} {meth : Method} {c : Code} {D : va_G} {L : Nat → Nat} {ac : Nat → ClassId} {r0 : Int32} {X0 : XM} (hL : LL L) (F : Fx p s m args meth c cX5_repeatsFrom 4 (some .int) wsX5_repeatsFrom yX5_repeatsFrom.cls D ac) : ∀ (n : Nat) (x1 : Int32) (x2 : Int32) (x3 : Int32) (X : XM) (H : Heap) (locs : List Loc) (ls : Array Slot), Oh D L ac X (fr L) s.heap H locs → lv_has ls 4 [(0, .ref (L 11)), (1, .int x1), (2, .int x2), (3, .int x3)] → fX5_repeatsFrom_13 n x1 x2 x3 X = some (r0, X0) → W p l e (headSpec wsX5_repeatsFrom ({ frames := 4, cells := 0, slots := 0, locals := 90 })).room s m args below meth c H locs 0 0 (MQ below (va_Qi (fun (r : Int32) (Y : XM) => r = r0 ∧ Y = X0) (fun (Y : XM) t => St D L ac Y t) (fr L)) args s 0 0 (fr L)) (F0 m 13 ls []) := by
  obtain ⟨hx, hb, hr, hts, hown, hlocks, hml, hK, hN⟩ := id F
  have hA : ∀ q, fr L q → fr L q := fun q h => h
  intro n
  induction n with
  | zero => intro x1 x2 x3 X H locs ls hO hl hf; simp [fX5_repeatsFrom_13] at hf
  | succ n ih =>
    intro x1 x2 x3 X H locs ls hO hl hf
    rw [fX5_repeatsFrom_13] at hf
    refine lv_iload_n hx hb dX5_repeatsFrom_13 rfl (lv_at hl 3 rfl) ?_
    refine lv_if_le (tgt := 44) hx hb dX5_repeatsFrom_14 (by decide) (fun c_1 => ?_) (fun c_1 => ?_)
    · rw [if_pos c_1] at hf
      refine lv_iload_n hx hb dX5_repeatsFrom_44 rfl (lv_at hl 3 rfl) ?_
      obtain ⟨rfl, rfl⟩ := Prod.mk.inj (Option.some.inj hf)
      exact e_i hx hb hr hK hN hO hlocks dX5_repeatsFrom_45
    · rw [if_neg c_1] at hf
      refine lv_aload_n hx hb dX5_repeatsFrom_17 rfl (lv_at hl 0 rfl) ?_
      refine lv_iload_n hx hb dX5_repeatsFrom_18 rfl (lv_at hl 1 rfl) ?_
      refine lv_iload_n hx hb dX5_repeatsFrom_19 rfl (lv_at hl 3 rfl) ?_
      refine lv_iconst (v := 1) hx hb dX5_repeatsFrom_20 (by decide) ?_
      refine lv_isub hx hb dX5_repeatsFrom_21 ?_
      replace hf := zi_some hf
      obtain ⟨r_3, X_2, hc_2, hf⟩ := hf
      refine k_ai (va_runV (As := [.int x1, .int (x3 - 1)]) (rest := []) ⟨hx, hb, hml, hown, hts⟩ (mX5_nimber l D L ac hL _ x1 (x3 - 1) _ _ hc_2) (cwV 2 hts gX5_repeatsFrom_X5_nimber rfl rfl rfl (by decide +kernel) ⟨Nat.le_of_ble_eq_true rfl, Nat.le_of_ble_eq_true rfl⟩) (k_pv (j := 11) hK hN hO (by decide) rfl rfl _) rfl rfl hl.1 rfl (lv_room (Nat.le_of_ble_eq_true rfl)) dX5_repeatsFrom_22 ⟨Nat.le_of_ble_eq_true rfl, Nat.le_of_ble_eq_true rfl⟩) hA hO (fun H_4 locs_4 hO_4 => ?_)
      clear hO
      refine lv_aload_n hx hb dX5_repeatsFrom_25 rfl (lv_at hl 0 rfl) ?_
      refine lv_iload_n hx hb dX5_repeatsFrom_26 rfl (lv_at hl 1 rfl) ?_
      refine lv_iload_n hx hb dX5_repeatsFrom_27 rfl (lv_at hl 3 rfl) ?_
      refine lv_iconst (v := 1) hx hb dX5_repeatsFrom_28 (by decide) ?_
      refine lv_isub hx hb dX5_repeatsFrom_29 ?_
      refine lv_iload_n hx hb dX5_repeatsFrom_30 rfl (lv_at hl 2 rfl) ?_
      refine lv_iadd hx hb dX5_repeatsFrom_31 ?_
      replace hf := zi_some hf
      obtain ⟨r_6, X_5, hc_5, hf⟩ := hf
      refine k_ai (va_runV (As := [.int x1, .int ((x3 - 1) + x2)]) (rest := [.int r_3]) ⟨hx, hb, hml, hown, hts⟩ (mX5_nimber l D L ac hL _ x1 ((x3 - 1) + x2) _ _ hc_5) (cwV 2 hts gX5_repeatsFrom_X5_nimber rfl rfl rfl (by decide +kernel) ⟨Nat.le_of_ble_eq_true rfl, Nat.le_of_ble_eq_true rfl⟩) (k_pv (j := 11) hK hN hO_4 (by decide) rfl rfl _) rfl rfl hl.1 rfl (lv_room (Nat.le_of_ble_eq_true rfl)) dX5_repeatsFrom_32 ⟨Nat.le_of_ble_eq_true rfl, Nat.le_of_ble_eq_true rfl⟩) hA hO_4 (fun H_7 locs_7 hO_7 => ?_)
      clear hO_4
      refine lv_icmp_ne (tgt := 44) hx hb dX5_repeatsFrom_35 (by decide) (fun c_8 => ?_) (fun c_8 => ?_)
      · rw [if_neg c_8] at hf
        refine lv_iload_n hx hb dX5_repeatsFrom_44 rfl (lv_at hl 3 rfl) ?_
        obtain ⟨rfl, rfl⟩ := Prod.mk.inj (Option.some.inj hf)
        exact e_i hx hb hr hK hN hO_7 hlocks dX5_repeatsFrom_45
      · rw [if_pos c_8] at hf
        refine lv_iinc (v := x3 + (-1)) (lv' := [(3, .int (x3 + (-1))), (0, .ref (L 11)), (1, .int x1), (2, .int x2)]) hx hb dX5_repeatsFrom_38 hl (k := 3) rfl rfl (by decide) rfl (fun ls_9 hl_9 => ?_)
        clear hl
        refine lv_goto (tgt := 13) hx hb dX5_repeatsFrom_41 (by decide) ?_
        exact ih _ _ _ _  _ _ _ hO_7 (lv_sub hl_9 [1, 2, 3, 0] rfl) hf
def fX5_repeatsFrom  (a1 : Int32) (a2 : Int32) (X : XM) : Option (Int32 × XM) := zv (fX5_learn a1 X) (fun X_10 => zl (201 - a2) (fun v_12 => fX5_repeatsFrom_13 fuel a1 a2 v_12 X_10))
set_option maxHeartbeats 4000000 in
set_option maxRecDepth 100000 in
theorem mX5_repeatsFrom (l : Launch) (D : va_G) (L : Nat → Nat) (ac : Nat → ClassId) (hL : LL L) (X : XM) (a1 : Int32) (a2 : Int32) (r0 : Int32) (X0 : XM) (hf : fX5_repeatsFrom a1 a2 X = some (r0, X0)) : Ci l yX5_repeatsFrom wsX5_repeatsFrom ({ frames := 4, cells := 0, slots := 0, locals := 90 }) D L ac X [.ref (L 11), .int a1, .int a2] r0 X0 := by
  refine Met.ofK (cc := cX5_repeatsFrom) (maxL := 4) (ret := (some .int)) (lv := [(0, .ref (L 11)), (1, .int a1), (2, .int a2)]) (by decide +kernel) rfl (Nat.le_of_ble_eq_true rfl) rfl ?_
  intro p e s m below meth c F hO ls hl
  obtain ⟨hx, hb, hr, hts, hown, hlocks, hml, hK, hN⟩ := id F
  have hA : ∀ q, fr L q → fr L q := fun q h => h
  unfold fX5_repeatsFrom at hf
  refine lv_aload_n hx hb dX5_repeatsFrom_0 rfl (lv_at hl 0 rfl) ?_
  refine lv_iload_n hx hb dX5_repeatsFrom_1 rfl (lv_at hl 1 rfl) ?_
  replace hf := zv_some hf
  obtain ⟨X_10, hc_10, hf⟩ := hf
  refine k_av (va_runV (As := [.int a1]) (rest := []) ⟨hx, hb, hml, hown, hts⟩ (mX5_learn l D L ac hL _ a1 _ hc_10) (cwV 1 hts gX5_repeatsFrom_X5_learn rfl rfl rfl (by decide +kernel) ⟨Nat.le_of_ble_eq_true rfl, Nat.le_of_ble_eq_true rfl⟩) (k_pv (j := 11) hK hN hO (by decide) rfl rfl _) rfl rfl hl.1 rfl (lv_room (Nat.le_of_ble_eq_true rfl)) dX5_repeatsFrom_2 ⟨Nat.le_of_ble_eq_true rfl, Nat.le_of_ble_eq_true rfl⟩) hA hO (fun H_11 locs_11 hO_11 => ?_)
  clear hO
  refine lv_aload_n hx hb dX5_repeatsFrom_5 rfl (lv_at hl 0 rfl) ?_
  refine k_get (k := 0) (v := .ref (L 12)) hx hb hts in_X5_repeatsFrom_X5 hown hK hO_11 (by decide) rfl rfl (by decide) lk_X5_repeatsFrom_f9 rfl dX5_repeatsFrom_6 ?_
  refine k_alen (v := 201) (t := 0) hx hb hK hO_11 (by decide) rfl rfl rfl dX5_repeatsFrom_9 ?_
  refine lv_iload_n hx hb dX5_repeatsFrom_10 rfl (lv_at hl 2 rfl) ?_
  refine lv_isub hx hb dX5_repeatsFrom_11 ?_
  replace hf := zl_some hf
  obtain ⟨v_12, hv_12, hf⟩ := hf
  refine lv_tope hv_12 ?_
  refine lv_istore_n (lv' := [(3, .int v_12), (0, .ref (L 11)), (1, .int a1), (2, .int a2)]) hx hb dX5_repeatsFrom_12 rfl hl (by decide) rfl (fun ls_13 hl_13 => ?_)
  clear hl
  exact wX5_repeatsFrom_13 hL F  fuel _ _ _ _  _ _ _ hO_11 (lv_sub hl_13 [1, 2, 3, 0] rfl) hf
