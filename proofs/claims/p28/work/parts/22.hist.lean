theorem nx_method_X1_25 : Cond.methodLinkNest "PoisonPiles$History" 25 ⟨"PoisonPiles$Game", "copyFrom", "(LPoisonPiles$Game;)V"⟩ "PoisonPiles" ∈ nxW := List.mem_of_getElem? (i := 49) rfl
theorem nx_method_X5_34 : Cond.methodLinkNest "PoisonPiles$Sizes" 34 ⟨"PoisonPiles", "isIn", "(II)Z"⟩ "PoisonPiles" ∈ nxW := List.mem_of_getElem? (i := 56) rfl
theorem in_X1_dropOldest_X1 : ∀ w ∈ u_ws RX1 TX1 2, w ∈ wsX1_dropOldest := by decide +kernel
theorem lk_X1_dropOldest_f11 : Cond.fieldLink RX1 11 "PoisonPiles$History" "states" "[LPoisonPiles$Game;" ∈ wsX1_dropOldest := by decide +kernel
theorem lk_X1_dropOldest_f18 : Cond.fieldLink RX1 18 "PoisonPiles$History" "size" "I" ∈ wsX1_dropOldest := by decide +kernel
def fX1_dropOldest   (X : XM) : Option XM := zl (xup X 11 1 (nI (xun (X 11 2)))) (fun X_6 => zl (xup X_6 11 2 (nI (xun (X 11 1)))) (fun X_8 => zl (xup X_8 11 2 (nI (xun (X_8 11 3)))) (fun X_15 => zl (xup X_15 11 3 (nI (xun (X_8 11 2)))) (fun X_17 => zl (xup X_17 11 3 (nI (xun (X_17 11 4)))) (fun X_24 => zl (xup X_24 11 4 (nI (xun (X_17 11 3)))) (fun X_26 => zl (xup X_26 11 4 (nI (xun (X_26 11 5)))) (fun X_33 => zl (xup X_33 11 5 (nI (xun (X_26 11 4)))) (fun X_35 => zl (xup X_35 11 5 (nI (xun (X_35 11 6)))) (fun X_42 => zl (xup X_42 11 6 (nI (xun (X_35 11 5)))) (fun X_44 => zl (xup X_44 11 0 ((X_44 11 0) - 1)) (fun X_48 => some X_48)))))))))))
set_option maxHeartbeats 4000000 in
set_option maxRecDepth 100000 in
theorem mX1_dropOldest (l : Launch) (D : va_G) (L : Nat → Nat) (ac : Nat → ClassId) (hL : LL L) (X : XM)  (X0 : XM) (hf : fX1_dropOldest  X = some X0) : Cv l yX1_dropOldest wsX1_dropOldest ({ frames := 0, cells := 0, slots := 0, locals := 0 }) D L ac X [.ref (L 1)] X0 := by
  refine Met.ofK (cc := cX1_dropOldest) (maxL := 3) (ret := none) (lv := [(0, .ref (L 1))]) (by decide +kernel) rfl (Nat.le_of_ble_eq_true rfl) rfl ?_
  intro p e s m below meth c F hO ls hl
  obtain ⟨hx, hb, hr, hts, hown, hlocks, hml, hK, hN⟩ := id F
  have hA : ∀ q, fr L q → fr L q := fun q h => h
  unfold fX1_dropOldest at hf
  refine lv_iconst (v := 1) hx hb dX1_dropOldest_0 (by decide) ?_
  refine lv_istore_n (lv' := [(1, .int 1), (0, .ref (L 1))]) hx hb dX1_dropOldest_1 rfl hl (by decide) rfl (fun ls_1 hl_1 => ?_)
  clear hl
  refine lv_iload_n hx hb dX1_dropOldest_2 rfl (lv_at hl_1 0 rfl) ?_
  refine lv_aload_n hx hb dX1_dropOldest_3 rfl (lv_at hl_1 1 rfl) ?_
  refine k_get (k := 0) (v := .ref (L 2)) hx hb hts in_X1_dropOldest_X1 hown hK hO (by decide) rfl rfl (by decide) lk_X1_dropOldest_f11 rfl dX1_dropOldest_4 ?_
  refine k_alen (v := 6) (t := 4) hx hb hK hO (by decide) rfl rfl rfl dX1_dropOldest_7 ?_
  refine lv_icmp_ge (tgt := 47) hx hb dX1_dropOldest_8 (by decide) (fun c_2 => absurd c_2 (by decide)) (fun _ => ?_)
  refine lv_aload_n hx hb dX1_dropOldest_11 rfl (lv_at hl_1 1 rfl) ?_
  refine k_get (k := 0) (v := .ref (L 2)) hx hb hts in_X1_dropOldest_X1 hown hK hO (by decide) rfl rfl (by decide) lk_X1_dropOldest_f11 rfl dX1_dropOldest_12 ?_
  refine lv_iload_n hx hb dX1_dropOldest_15 rfl (lv_at hl_1 0 rfl) ?_
  refine lv_iconst (v := 1) hx hb dX1_dropOldest_16 (by decide) ?_
  refine lv_isub hx hb dX1_dropOldest_17 ?_
  refine lv_tope (z := 0) (by decide) ?_
  have hg_3 : xun (X 11 (0 + 1)) < 11 := hO.2.1 _ (by decide)
  refine k_aald hx hb hK hO (by decide) rfl rfl (show vp_in 0 6 from by unfold vp_in; decide) dX1_dropOldest_18 ?_
  refine lv_topr (b := L (aG (xun (X 11 1)))) rfl ?_
  refine lv_astore_n (lv' := [(2, .ref (L (aG (xun (X 11 1))))), (1, .int 1), (0, .ref (L 1))]) hx hb dX1_dropOldest_19 rfl hl_1 (by decide) rfl (fun ls_4 hl_4 => ?_)
  clear hl_1
  refine lv_aload_n hx hb dX1_dropOldest_20 rfl (lv_at hl_4 2 rfl) ?_
  refine k_get (k := 0) (v := .ref (L 2)) hx hb hts in_X1_dropOldest_X1 hown hK hO (by decide) rfl rfl (by decide) lk_X1_dropOldest_f11 rfl dX1_dropOldest_21 ?_
  refine lv_iload_n hx hb dX1_dropOldest_24 rfl (lv_at hl_4 1 rfl) ?_
  refine lv_iconst (v := 1) hx hb dX1_dropOldest_25 (by decide) ?_
  refine lv_isub hx hb dX1_dropOldest_26 ?_
  refine lv_tope (z := 0) (by decide) ?_
  refine lv_aload_n hx hb dX1_dropOldest_27 rfl (lv_at hl_4 2 rfl) ?_
  refine k_get (k := 0) (v := .ref (L 2)) hx hb hts in_X1_dropOldest_X1 hown hK hO (by decide) rfl rfl (by decide) lk_X1_dropOldest_f11 rfl dX1_dropOldest_28 ?_
  refine lv_iload_n hx hb dX1_dropOldest_31 rfl (lv_at hl_4 1 rfl) ?_
  have hg_5 : xun (X 11 (1 + 1)) < 11 := hO.2.1 _ (by decide)
  refine k_aald hx hb hK hO (by decide) rfl rfl (show vp_in 1 6 from by unfold vp_in; decide) dX1_dropOldest_32 ?_
  refine lv_topr (b := L (aG (xun (X 11 2)))) rfl ?_
  refine k_aast hx hb hK hL hA hO hg_5 (show vp_in 0 6 from by unfold vp_in; decide) dX1_dropOldest_33 (fun H_7 locs_7 hO_7 => ?_)
  replace hf := zl_some hf
  obtain ⟨X_6, hX_6, hf⟩ := hf
  have hQ_7 := zo_eq hX_6 hO_7
  clear hO_7 hO
  refine lv_aload_n hx hb dX1_dropOldest_34 rfl (lv_at hl_4 2 rfl) ?_
  refine k_get (k := 0) (v := .ref (L 2)) hx hb hts in_X1_dropOldest_X1 hown hK hQ_7 (by decide) rfl rfl (by decide) lk_X1_dropOldest_f11 rfl dX1_dropOldest_35 ?_
  refine lv_iload_n hx hb dX1_dropOldest_38 rfl (lv_at hl_4 1 rfl) ?_
  refine lv_aload_n hx hb dX1_dropOldest_39 rfl (lv_at hl_4 0 rfl) ?_
  refine k_aast hx hb hK hL hA hQ_7 hg_3 (show vp_in 1 6 from by unfold vp_in; decide) dX1_dropOldest_40 (fun H_9 locs_9 hO_9 => ?_)
  replace hf := zl_some hf
  obtain ⟨X_8, hX_8, hf⟩ := hf
  have hQ_9 := zo_eq hX_8 hO_9
  clear hO_9 hQ_7
  refine lv_iinc (v := 2) (lv' := [(1, .int 2), (2, .ref (L (aG (xun (X 11 1))))), (0, .ref (L 1))]) hx hb dX1_dropOldest_41 hl_4 (k := 1) rfl (by decide) (by decide) rfl (fun ls_10 hl_10 => ?_)
  clear hl_4
  refine lv_goto (tgt := 2) hx hb dX1_dropOldest_44 (by decide) ?_
  refine lv_iload_n hx hb dX1_dropOldest_2 rfl (lv_at hl_10 0 rfl) ?_
  refine lv_aload_n hx hb dX1_dropOldest_3 rfl (lv_at hl_10 2 rfl) ?_
  refine k_get (k := 0) (v := .ref (L 2)) hx hb hts in_X1_dropOldest_X1 hown hK hQ_9 (by decide) rfl rfl (by decide) lk_X1_dropOldest_f11 rfl dX1_dropOldest_4 ?_
  refine k_alen (v := 6) (t := 4) hx hb hK hQ_9 (by decide) rfl rfl rfl dX1_dropOldest_7 ?_
  refine lv_icmp_ge (tgt := 47) hx hb dX1_dropOldest_8 (by decide) (fun c_11 => absurd c_11 (by decide)) (fun _ => ?_)
  refine lv_aload_n hx hb dX1_dropOldest_11 rfl (lv_at hl_10 2 rfl) ?_
  refine k_get (k := 0) (v := .ref (L 2)) hx hb hts in_X1_dropOldest_X1 hown hK hQ_9 (by decide) rfl rfl (by decide) lk_X1_dropOldest_f11 rfl dX1_dropOldest_12 ?_
  refine lv_iload_n hx hb dX1_dropOldest_15 rfl (lv_at hl_10 0 rfl) ?_
  refine lv_iconst (v := 1) hx hb dX1_dropOldest_16 (by decide) ?_
  refine lv_isub hx hb dX1_dropOldest_17 ?_
  refine lv_tope (z := 1) (by decide) ?_
  have hg_12 : xun (X_8 11 (1 + 1)) < 11 := hQ_9.2.1 _ (by decide)
  refine k_aald hx hb hK hQ_9 (by decide) rfl rfl (show vp_in 1 6 from by unfold vp_in; decide) dX1_dropOldest_18 ?_
  refine lv_topr (b := L (aG (xun (X_8 11 2)))) rfl ?_
  refine lv_astore_n (lv' := [(2, .ref (L (aG (xun (X_8 11 2))))), (1, .int 2), (0, .ref (L 1))]) hx hb dX1_dropOldest_19 rfl hl_10 (by decide) rfl (fun ls_13 hl_13 => ?_)
  clear hl_10
  refine lv_aload_n hx hb dX1_dropOldest_20 rfl (lv_at hl_13 2 rfl) ?_
  refine k_get (k := 0) (v := .ref (L 2)) hx hb hts in_X1_dropOldest_X1 hown hK hQ_9 (by decide) rfl rfl (by decide) lk_X1_dropOldest_f11 rfl dX1_dropOldest_21 ?_
  refine lv_iload_n hx hb dX1_dropOldest_24 rfl (lv_at hl_13 1 rfl) ?_
  refine lv_iconst (v := 1) hx hb dX1_dropOldest_25 (by decide) ?_
  refine lv_isub hx hb dX1_dropOldest_26 ?_
  refine lv_tope (z := 1) (by decide) ?_
  refine lv_aload_n hx hb dX1_dropOldest_27 rfl (lv_at hl_13 2 rfl) ?_
  refine k_get (k := 0) (v := .ref (L 2)) hx hb hts in_X1_dropOldest_X1 hown hK hQ_9 (by decide) rfl rfl (by decide) lk_X1_dropOldest_f11 rfl dX1_dropOldest_28 ?_
  refine lv_iload_n hx hb dX1_dropOldest_31 rfl (lv_at hl_13 1 rfl) ?_
  have hg_14 : xun (X_8 11 (2 + 1)) < 11 := hQ_9.2.1 _ (by decide)
  refine k_aald hx hb hK hQ_9 (by decide) rfl rfl (show vp_in 2 6 from by unfold vp_in; decide) dX1_dropOldest_32 ?_
  refine lv_topr (b := L (aG (xun (X_8 11 3)))) rfl ?_
  refine k_aast hx hb hK hL hA hQ_9 hg_14 (show vp_in 1 6 from by unfold vp_in; decide) dX1_dropOldest_33 (fun H_16 locs_16 hO_16 => ?_)
  replace hf := zl_some hf
  obtain ⟨X_15, hX_15, hf⟩ := hf
  have hQ_16 := zo_eq hX_15 hO_16
  clear hO_16 hQ_9
  refine lv_aload_n hx hb dX1_dropOldest_34 rfl (lv_at hl_13 2 rfl) ?_
  refine k_get (k := 0) (v := .ref (L 2)) hx hb hts in_X1_dropOldest_X1 hown hK hQ_16 (by decide) rfl rfl (by decide) lk_X1_dropOldest_f11 rfl dX1_dropOldest_35 ?_
  refine lv_iload_n hx hb dX1_dropOldest_38 rfl (lv_at hl_13 1 rfl) ?_
  refine lv_aload_n hx hb dX1_dropOldest_39 rfl (lv_at hl_13 0 rfl) ?_
  refine k_aast hx hb hK hL hA hQ_16 hg_12 (show vp_in 2 6 from by unfold vp_in; decide) dX1_dropOldest_40 (fun H_18 locs_18 hO_18 => ?_)
  replace hf := zl_some hf
  obtain ⟨X_17, hX_17, hf⟩ := hf
  have hQ_18 := zo_eq hX_17 hO_18
  clear hO_18 hQ_16
  refine lv_iinc (v := 3) (lv' := [(1, .int 3), (2, .ref (L (aG (xun (X_8 11 2))))), (0, .ref (L 1))]) hx hb dX1_dropOldest_41 hl_13 (k := 1) rfl (by decide) (by decide) rfl (fun ls_19 hl_19 => ?_)
  clear hl_13
  refine lv_goto (tgt := 2) hx hb dX1_dropOldest_44 (by decide) ?_
  refine lv_iload_n hx hb dX1_dropOldest_2 rfl (lv_at hl_19 0 rfl) ?_
  refine lv_aload_n hx hb dX1_dropOldest_3 rfl (lv_at hl_19 2 rfl) ?_
  refine k_get (k := 0) (v := .ref (L 2)) hx hb hts in_X1_dropOldest_X1 hown hK hQ_18 (by decide) rfl rfl (by decide) lk_X1_dropOldest_f11 rfl dX1_dropOldest_4 ?_
  refine k_alen (v := 6) (t := 4) hx hb hK hQ_18 (by decide) rfl rfl rfl dX1_dropOldest_7 ?_
  refine lv_icmp_ge (tgt := 47) hx hb dX1_dropOldest_8 (by decide) (fun c_20 => absurd c_20 (by decide)) (fun _ => ?_)
  refine lv_aload_n hx hb dX1_dropOldest_11 rfl (lv_at hl_19 2 rfl) ?_
  refine k_get (k := 0) (v := .ref (L 2)) hx hb hts in_X1_dropOldest_X1 hown hK hQ_18 (by decide) rfl rfl (by decide) lk_X1_dropOldest_f11 rfl dX1_dropOldest_12 ?_
  refine lv_iload_n hx hb dX1_dropOldest_15 rfl (lv_at hl_19 0 rfl) ?_
  refine lv_iconst (v := 1) hx hb dX1_dropOldest_16 (by decide) ?_
  refine lv_isub hx hb dX1_dropOldest_17 ?_
  refine lv_tope (z := 2) (by decide) ?_
  have hg_21 : xun (X_17 11 (2 + 1)) < 11 := hQ_18.2.1 _ (by decide)
  refine k_aald hx hb hK hQ_18 (by decide) rfl rfl (show vp_in 2 6 from by unfold vp_in; decide) dX1_dropOldest_18 ?_
  refine lv_topr (b := L (aG (xun (X_17 11 3)))) rfl ?_
  refine lv_astore_n (lv' := [(2, .ref (L (aG (xun (X_17 11 3))))), (1, .int 3), (0, .ref (L 1))]) hx hb dX1_dropOldest_19 rfl hl_19 (by decide) rfl (fun ls_22 hl_22 => ?_)
  clear hl_19
  refine lv_aload_n hx hb dX1_dropOldest_20 rfl (lv_at hl_22 2 rfl) ?_
  refine k_get (k := 0) (v := .ref (L 2)) hx hb hts in_X1_dropOldest_X1 hown hK hQ_18 (by decide) rfl rfl (by decide) lk_X1_dropOldest_f11 rfl dX1_dropOldest_21 ?_
  refine lv_iload_n hx hb dX1_dropOldest_24 rfl (lv_at hl_22 1 rfl) ?_
  refine lv_iconst (v := 1) hx hb dX1_dropOldest_25 (by decide) ?_
  refine lv_isub hx hb dX1_dropOldest_26 ?_
  refine lv_tope (z := 2) (by decide) ?_
  refine lv_aload_n hx hb dX1_dropOldest_27 rfl (lv_at hl_22 2 rfl) ?_
  refine k_get (k := 0) (v := .ref (L 2)) hx hb hts in_X1_dropOldest_X1 hown hK hQ_18 (by decide) rfl rfl (by decide) lk_X1_dropOldest_f11 rfl dX1_dropOldest_28 ?_
  refine lv_iload_n hx hb dX1_dropOldest_31 rfl (lv_at hl_22 1 rfl) ?_
  have hg_23 : xun (X_17 11 (3 + 1)) < 11 := hQ_18.2.1 _ (by decide)
  refine k_aald hx hb hK hQ_18 (by decide) rfl rfl (show vp_in 3 6 from by unfold vp_in; decide) dX1_dropOldest_32 ?_
  refine lv_topr (b := L (aG (xun (X_17 11 4)))) rfl ?_
  refine k_aast hx hb hK hL hA hQ_18 hg_23 (show vp_in 2 6 from by unfold vp_in; decide) dX1_dropOldest_33 (fun H_25 locs_25 hO_25 => ?_)
  replace hf := zl_some hf
  obtain ⟨X_24, hX_24, hf⟩ := hf
  have hQ_25 := zo_eq hX_24 hO_25
  clear hO_25 hQ_18
  refine lv_aload_n hx hb dX1_dropOldest_34 rfl (lv_at hl_22 2 rfl) ?_
  refine k_get (k := 0) (v := .ref (L 2)) hx hb hts in_X1_dropOldest_X1 hown hK hQ_25 (by decide) rfl rfl (by decide) lk_X1_dropOldest_f11 rfl dX1_dropOldest_35 ?_
  refine lv_iload_n hx hb dX1_dropOldest_38 rfl (lv_at hl_22 1 rfl) ?_
  refine lv_aload_n hx hb dX1_dropOldest_39 rfl (lv_at hl_22 0 rfl) ?_
  refine k_aast hx hb hK hL hA hQ_25 hg_21 (show vp_in 3 6 from by unfold vp_in; decide) dX1_dropOldest_40 (fun H_27 locs_27 hO_27 => ?_)
  replace hf := zl_some hf
  obtain ⟨X_26, hX_26, hf⟩ := hf
  have hQ_27 := zo_eq hX_26 hO_27
  clear hO_27 hQ_25
  refine lv_iinc (v := 4) (lv' := [(1, .int 4), (2, .ref (L (aG (xun (X_17 11 3))))), (0, .ref (L 1))]) hx hb dX1_dropOldest_41 hl_22 (k := 1) rfl (by decide) (by decide) rfl (fun ls_28 hl_28 => ?_)
  clear hl_22
  refine lv_goto (tgt := 2) hx hb dX1_dropOldest_44 (by decide) ?_
  refine lv_iload_n hx hb dX1_dropOldest_2 rfl (lv_at hl_28 0 rfl) ?_
  refine lv_aload_n hx hb dX1_dropOldest_3 rfl (lv_at hl_28 2 rfl) ?_
  refine k_get (k := 0) (v := .ref (L 2)) hx hb hts in_X1_dropOldest_X1 hown hK hQ_27 (by decide) rfl rfl (by decide) lk_X1_dropOldest_f11 rfl dX1_dropOldest_4 ?_
  refine k_alen (v := 6) (t := 4) hx hb hK hQ_27 (by decide) rfl rfl rfl dX1_dropOldest_7 ?_
  refine lv_icmp_ge (tgt := 47) hx hb dX1_dropOldest_8 (by decide) (fun c_29 => absurd c_29 (by decide)) (fun _ => ?_)
  refine lv_aload_n hx hb dX1_dropOldest_11 rfl (lv_at hl_28 2 rfl) ?_
  refine k_get (k := 0) (v := .ref (L 2)) hx hb hts in_X1_dropOldest_X1 hown hK hQ_27 (by decide) rfl rfl (by decide) lk_X1_dropOldest_f11 rfl dX1_dropOldest_12 ?_
  refine lv_iload_n hx hb dX1_dropOldest_15 rfl (lv_at hl_28 0 rfl) ?_
  refine lv_iconst (v := 1) hx hb dX1_dropOldest_16 (by decide) ?_
  refine lv_isub hx hb dX1_dropOldest_17 ?_
  refine lv_tope (z := 3) (by decide) ?_
  have hg_30 : xun (X_26 11 (3 + 1)) < 11 := hQ_27.2.1 _ (by decide)
  refine k_aald hx hb hK hQ_27 (by decide) rfl rfl (show vp_in 3 6 from by unfold vp_in; decide) dX1_dropOldest_18 ?_
  refine lv_topr (b := L (aG (xun (X_26 11 4)))) rfl ?_
  refine lv_astore_n (lv' := [(2, .ref (L (aG (xun (X_26 11 4))))), (1, .int 4), (0, .ref (L 1))]) hx hb dX1_dropOldest_19 rfl hl_28 (by decide) rfl (fun ls_31 hl_31 => ?_)
  clear hl_28
  refine lv_aload_n hx hb dX1_dropOldest_20 rfl (lv_at hl_31 2 rfl) ?_
  refine k_get (k := 0) (v := .ref (L 2)) hx hb hts in_X1_dropOldest_X1 hown hK hQ_27 (by decide) rfl rfl (by decide) lk_X1_dropOldest_f11 rfl dX1_dropOldest_21 ?_
  refine lv_iload_n hx hb dX1_dropOldest_24 rfl (lv_at hl_31 1 rfl) ?_
  refine lv_iconst (v := 1) hx hb dX1_dropOldest_25 (by decide) ?_
  refine lv_isub hx hb dX1_dropOldest_26 ?_
  refine lv_tope (z := 3) (by decide) ?_
  refine lv_aload_n hx hb dX1_dropOldest_27 rfl (lv_at hl_31 2 rfl) ?_
  refine k_get (k := 0) (v := .ref (L 2)) hx hb hts in_X1_dropOldest_X1 hown hK hQ_27 (by decide) rfl rfl (by decide) lk_X1_dropOldest_f11 rfl dX1_dropOldest_28 ?_
  refine lv_iload_n hx hb dX1_dropOldest_31 rfl (lv_at hl_31 1 rfl) ?_
  have hg_32 : xun (X_26 11 (4 + 1)) < 11 := hQ_27.2.1 _ (by decide)
  refine k_aald hx hb hK hQ_27 (by decide) rfl rfl (show vp_in 4 6 from by unfold vp_in; decide) dX1_dropOldest_32 ?_
  refine lv_topr (b := L (aG (xun (X_26 11 5)))) rfl ?_
  refine k_aast hx hb hK hL hA hQ_27 hg_32 (show vp_in 3 6 from by unfold vp_in; decide) dX1_dropOldest_33 (fun H_34 locs_34 hO_34 => ?_)
  replace hf := zl_some hf
  obtain ⟨X_33, hX_33, hf⟩ := hf
  have hQ_34 := zo_eq hX_33 hO_34
  clear hO_34 hQ_27
  refine lv_aload_n hx hb dX1_dropOldest_34 rfl (lv_at hl_31 2 rfl) ?_
  refine k_get (k := 0) (v := .ref (L 2)) hx hb hts in_X1_dropOldest_X1 hown hK hQ_34 (by decide) rfl rfl (by decide) lk_X1_dropOldest_f11 rfl dX1_dropOldest_35 ?_
  refine lv_iload_n hx hb dX1_dropOldest_38 rfl (lv_at hl_31 1 rfl) ?_
  refine lv_aload_n hx hb dX1_dropOldest_39 rfl (lv_at hl_31 0 rfl) ?_
  refine k_aast hx hb hK hL hA hQ_34 hg_30 (show vp_in 4 6 from by unfold vp_in; decide) dX1_dropOldest_40 (fun H_36 locs_36 hO_36 => ?_)
  replace hf := zl_some hf
  obtain ⟨X_35, hX_35, hf⟩ := hf
  have hQ_36 := zo_eq hX_35 hO_36
  clear hO_36 hQ_34
  refine lv_iinc (v := 5) (lv' := [(1, .int 5), (2, .ref (L (aG (xun (X_26 11 4))))), (0, .ref (L 1))]) hx hb dX1_dropOldest_41 hl_31 (k := 1) rfl (by decide) (by decide) rfl (fun ls_37 hl_37 => ?_)
  clear hl_31
  refine lv_goto (tgt := 2) hx hb dX1_dropOldest_44 (by decide) ?_
  refine lv_iload_n hx hb dX1_dropOldest_2 rfl (lv_at hl_37 0 rfl) ?_
  refine lv_aload_n hx hb dX1_dropOldest_3 rfl (lv_at hl_37 2 rfl) ?_
  refine k_get (k := 0) (v := .ref (L 2)) hx hb hts in_X1_dropOldest_X1 hown hK hQ_36 (by decide) rfl rfl (by decide) lk_X1_dropOldest_f11 rfl dX1_dropOldest_4 ?_
  refine k_alen (v := 6) (t := 4) hx hb hK hQ_36 (by decide) rfl rfl rfl dX1_dropOldest_7 ?_
  refine lv_icmp_ge (tgt := 47) hx hb dX1_dropOldest_8 (by decide) (fun c_38 => absurd c_38 (by decide)) (fun _ => ?_)
  refine lv_aload_n hx hb dX1_dropOldest_11 rfl (lv_at hl_37 2 rfl) ?_
  refine k_get (k := 0) (v := .ref (L 2)) hx hb hts in_X1_dropOldest_X1 hown hK hQ_36 (by decide) rfl rfl (by decide) lk_X1_dropOldest_f11 rfl dX1_dropOldest_12 ?_
  refine lv_iload_n hx hb dX1_dropOldest_15 rfl (lv_at hl_37 0 rfl) ?_
  refine lv_iconst (v := 1) hx hb dX1_dropOldest_16 (by decide) ?_
  refine lv_isub hx hb dX1_dropOldest_17 ?_
  refine lv_tope (z := 4) (by decide) ?_
  have hg_39 : xun (X_35 11 (4 + 1)) < 11 := hQ_36.2.1 _ (by decide)
  refine k_aald hx hb hK hQ_36 (by decide) rfl rfl (show vp_in 4 6 from by unfold vp_in; decide) dX1_dropOldest_18 ?_
  refine lv_topr (b := L (aG (xun (X_35 11 5)))) rfl ?_
  refine lv_astore_n (lv' := [(2, .ref (L (aG (xun (X_35 11 5))))), (1, .int 5), (0, .ref (L 1))]) hx hb dX1_dropOldest_19 rfl hl_37 (by decide) rfl (fun ls_40 hl_40 => ?_)
  clear hl_37
  refine lv_aload_n hx hb dX1_dropOldest_20 rfl (lv_at hl_40 2 rfl) ?_
  refine k_get (k := 0) (v := .ref (L 2)) hx hb hts in_X1_dropOldest_X1 hown hK hQ_36 (by decide) rfl rfl (by decide) lk_X1_dropOldest_f11 rfl dX1_dropOldest_21 ?_
  refine lv_iload_n hx hb dX1_dropOldest_24 rfl (lv_at hl_40 1 rfl) ?_
  refine lv_iconst (v := 1) hx hb dX1_dropOldest_25 (by decide) ?_
  refine lv_isub hx hb dX1_dropOldest_26 ?_
  refine lv_tope (z := 4) (by decide) ?_
  refine lv_aload_n hx hb dX1_dropOldest_27 rfl (lv_at hl_40 2 rfl) ?_
  refine k_get (k := 0) (v := .ref (L 2)) hx hb hts in_X1_dropOldest_X1 hown hK hQ_36 (by decide) rfl rfl (by decide) lk_X1_dropOldest_f11 rfl dX1_dropOldest_28 ?_
  refine lv_iload_n hx hb dX1_dropOldest_31 rfl (lv_at hl_40 1 rfl) ?_
  have hg_41 : xun (X_35 11 (5 + 1)) < 11 := hQ_36.2.1 _ (by decide)
  refine k_aald hx hb hK hQ_36 (by decide) rfl rfl (show vp_in 5 6 from by unfold vp_in; decide) dX1_dropOldest_32 ?_
  refine lv_topr (b := L (aG (xun (X_35 11 6)))) rfl ?_
  refine k_aast hx hb hK hL hA hQ_36 hg_41 (show vp_in 4 6 from by unfold vp_in; decide) dX1_dropOldest_33 (fun H_43 locs_43 hO_43 => ?_)
  replace hf := zl_some hf
  obtain ⟨X_42, hX_42, hf⟩ := hf
  have hQ_43 := zo_eq hX_42 hO_43
  clear hO_43 hQ_36
  refine lv_aload_n hx hb dX1_dropOldest_34 rfl (lv_at hl_40 2 rfl) ?_
  refine k_get (k := 0) (v := .ref (L 2)) hx hb hts in_X1_dropOldest_X1 hown hK hQ_43 (by decide) rfl rfl (by decide) lk_X1_dropOldest_f11 rfl dX1_dropOldest_35 ?_
  refine lv_iload_n hx hb dX1_dropOldest_38 rfl (lv_at hl_40 1 rfl) ?_
  refine lv_aload_n hx hb dX1_dropOldest_39 rfl (lv_at hl_40 0 rfl) ?_
  refine k_aast hx hb hK hL hA hQ_43 hg_39 (show vp_in 5 6 from by unfold vp_in; decide) dX1_dropOldest_40 (fun H_45 locs_45 hO_45 => ?_)
  replace hf := zl_some hf
  obtain ⟨X_44, hX_44, hf⟩ := hf
  have hQ_45 := zo_eq hX_44 hO_45
  clear hO_45 hQ_43
  refine lv_iinc (v := 6) (lv' := [(1, .int 6), (2, .ref (L (aG (xun (X_35 11 5))))), (0, .ref (L 1))]) hx hb dX1_dropOldest_41 hl_40 (k := 1) rfl (by decide) (by decide) rfl (fun ls_46 hl_46 => ?_)
  clear hl_40
  refine lv_goto (tgt := 2) hx hb dX1_dropOldest_44 (by decide) ?_
  refine lv_iload_n hx hb dX1_dropOldest_2 rfl (lv_at hl_46 0 rfl) ?_
  refine lv_aload_n hx hb dX1_dropOldest_3 rfl (lv_at hl_46 2 rfl) ?_
  refine k_get (k := 0) (v := .ref (L 2)) hx hb hts in_X1_dropOldest_X1 hown hK hQ_45 (by decide) rfl rfl (by decide) lk_X1_dropOldest_f11 rfl dX1_dropOldest_4 ?_
  refine k_alen (v := 6) (t := 4) hx hb hK hQ_45 (by decide) rfl rfl rfl dX1_dropOldest_7 ?_
  refine lv_icmp_ge (tgt := 47) hx hb dX1_dropOldest_8 (by decide) (fun _ => ?_) (fun c_47 => absurd (by decide) c_47)
  refine lv_aload_n hx hb dX1_dropOldest_47 rfl (lv_at hl_46 2 rfl) ?_
  refine lv_dup hx hb dX1_dropOldest_48 rfl ?_
  refine k_get (k := 1) (v := .int (X_44 11 0)) hx hb hts in_X1_dropOldest_X1 hown hK hQ_45 (by decide) rfl rfl (by decide) lk_X1_dropOldest_f18 rfl dX1_dropOldest_49 ?_
  refine lv_iconst (v := 1) hx hb dX1_dropOldest_52 (by decide) ?_
  refine lv_isub hx hb dX1_dropOldest_53 ?_
  refine k_put (ty := .int) (k := 1) (r := 11) (k' := 0) hx hb tyX1 tyX1_ok nmX1 hts in_X1_dropOldest_X1 hown hK  hL hA hQ_45 (by decide) rfl (by omega) (fun Y => rfl) (by simp [xup]) rfl (by decide) lk_X1_dropOldest_f18 rfl (by decide +kernel) rfl rfl (Nat.le_of_ble_eq_true rfl) dX1_dropOldest_54 (fun H_49 locs_49 hO_49 => ?_)
  replace hf := zl_some hf
  obtain ⟨X_48, hX_48, hf⟩ := hf
  have hQ_49 := zo_eq hX_48 hO_49
  clear hO_49 hQ_45
  obtain rfl := Option.some.inj hf
  exact e_v hx hb hr hK hN hQ_49 hlocks dX1_dropOldest_57
theorem in_X1_add_X1 : ∀ w ∈ u_ws RX1 TX1 2, w ∈ wsX1_add := by decide +kernel
theorem lk_X1_add_eX0_copyFrom : Cond.selects RX0 yX0_copyFrom yX0_copyFrom ∈ wsX1_add := by decide +kernel
theorem lk_X1_add_f11 : Cond.fieldLink RX1 11 "PoisonPiles$History" "states" "[LPoisonPiles$Game;" ∈ wsX1_add := by decide +kernel
theorem lk_X1_add_f18 : Cond.fieldLink RX1 18 "PoisonPiles$History" "size" "I" ∈ wsX1_add := by decide +kernel
theorem lk_X1_add_iX0 : Cond.initialized RX0 ∈ wsX1_add := by decide +kernel
theorem lk_X1_add_mX0_copyFrom : Cond.instanceMethod yX0_copyFrom ∈ wsX1_add := by decide +kernel
def fX1_add  (g : Nat) (X : XM) : Option XM := if (X 11 0) < 6 then if (X 11 0) < 0 then some X else if 6 ≤ (X 11 0) then some X else zd (X 11 0) 6 (zv (fX0_copyFrom (xun (X 11 ((Int32.toNatClampNeg (X 11 0)) + 1))) g X) (fun X_6 => zl (xup X_6 11 0 ((X_6 11 0) + 1)) (fun X_8 => some X_8))) else zv (fX1_dropOldest X) (fun X_10 => if (X_10 11 0) < 0 then some X_10 else if 6 ≤ (X_10 11 0) then some X_10 else zd (X_10 11 0) 6 (zv (fX0_copyFrom (xun (X_10 11 ((Int32.toNatClampNeg (X_10 11 0)) + 1))) g X_10) (fun X_16 => zl (xup X_16 11 0 ((X_16 11 0) + 1)) (fun X_18 => some X_18))))
set_option maxHeartbeats 4000000 in
set_option maxRecDepth 100000 in
theorem mX1_add (l : Launch) (D : va_G) (L : Nat → Nat) (ac : Nat → ClassId) (hL : LL L) (X : XM) (g : Nat) (hg : g < 11) (X0 : XM) (hf : fX1_add g X = some X0) : Cv l yX1_add wsX1_add ({ frames := 2, cells := 0, slots := 0, locals := 43 }) D L ac X [.ref (L 1), .ref (L (aG g))] X0 := by
  refine Met.ofK (cc := cX1_add) (maxL := 2) (ret := none) (lv := [(0, .ref (L 1)), (1, .ref (L (aG g)))]) (by decide +kernel) rfl (Nat.le_of_ble_eq_true rfl) rfl ?_
  intro p e s m below meth c F hO ls hl
  obtain ⟨hx, hb, hr, hts, hown, hlocks, hml, hK, hN⟩ := id F
  have hA : ∀ q, fr L q → fr L q := fun q h => h
  unfold fX1_add at hf
  refine lv_aload_n hx hb dX1_add_0 rfl (lv_at hl 0 rfl) ?_
  refine k_get (k := 1) (v := .int (X 11 0)) hx hb hts in_X1_add_X1 hown hK hO (by decide) rfl rfl (by decide) lk_X1_add_f18 rfl dX1_add_1 ?_
  refine lv_aload_n hx hb dX1_add_4 rfl (lv_at hl 0 rfl) ?_
  refine k_get (k := 0) (v := .ref (L 2)) hx hb hts in_X1_add_X1 hown hK hO (by decide) rfl rfl (by decide) lk_X1_add_f11 rfl dX1_add_5 ?_
  refine k_alen (v := 6) (t := 4) hx hb hK hO (by decide) rfl rfl rfl dX1_add_8 ?_
  refine lv_icmp_lt (tgt := 16) hx hb dX1_add_9 (by decide) (fun c_1 => ?_) (fun c_1 => ?_)
  · rw [if_pos c_1] at hf
    refine lv_aload_n hx hb dX1_add_16 rfl (lv_at hl 0 rfl) ?_
    refine k_get (k := 1) (v := .int (X 11 0)) hx hb hts in_X1_add_X1 hown hK hO (by decide) rfl rfl (by decide) lk_X1_add_f18 rfl dX1_add_17 ?_
    refine lv_if_lt (tgt := 58) hx hb dX1_add_20 (by decide) (fun c_2 => ?_) (fun c_2 => ?_)
    · rw [if_pos c_2] at hf
      obtain rfl := Option.some.inj hf
      exact e_v hx hb hr hK hN hO hlocks dX1_add_58
    · rw [if_neg c_2] at hf
      refine lv_aload_n hx hb dX1_add_23 rfl (lv_at hl 0 rfl) ?_
      refine k_get (k := 1) (v := .int (X 11 0)) hx hb hts in_X1_add_X1 hown hK hO (by decide) rfl rfl (by decide) lk_X1_add_f18 rfl dX1_add_24 ?_
      refine lv_aload_n hx hb dX1_add_27 rfl (lv_at hl 0 rfl) ?_
      refine k_get (k := 0) (v := .ref (L 2)) hx hb hts in_X1_add_X1 hown hK hO (by decide) rfl rfl (by decide) lk_X1_add_f11 rfl dX1_add_28 ?_
      refine k_alen (v := 6) (t := 4) hx hb hK hO (by decide) rfl rfl rfl dX1_add_31 ?_
      refine lv_icmp_ge (tgt := 58) hx hb dX1_add_32 (by decide) (fun c_3 => ?_) (fun c_3 => ?_)
      · rw [if_pos c_3] at hf
        obtain rfl := Option.some.inj hf
        exact e_v hx hb hr hK hN hO hlocks dX1_add_58
      · rw [if_neg c_3] at hf
        refine lv_aload_n hx hb dX1_add_35 rfl (lv_at hl 0 rfl) ?_
        refine k_get (k := 0) (v := .ref (L 2)) hx hb hts in_X1_add_X1 hown hK hO (by decide) rfl rfl (by decide) lk_X1_add_f11 rfl dX1_add_36 ?_
        refine lv_aload_n hx hb dX1_add_39 rfl (lv_at hl 0 rfl) ?_
        refine k_get (k := 1) (v := .int (X 11 0)) hx hb hts in_X1_add_X1 hown hK hO (by decide) rfl rfl (by decide) lk_X1_add_f18 rfl dX1_add_40 ?_
        replace hf := zd_some hf
        obtain ⟨hi_4, hf⟩ := hf
        have hg_5 : xun (X 11 ((Int32.toNatClampNeg (X 11 0)) + 1)) < 11 := hO.2.1 _ (vp_lt hi_4)
        refine k_aald hx hb hK hO (by decide) rfl rfl hi_4 dX1_add_43 ?_
        refine lv_topr (b := L (aG (xun (X 11 ((Int32.toNatClampNeg (X 11 0)) + 1))))) rfl ?_
        refine lv_aload_n hx hb dX1_add_44 rfl (lv_at hl 1 rfl) ?_
        replace hf := zv_some hf
        obtain ⟨X_6, hc_6, hf⟩ := hf
        refine k_av (va_runVN (As := [.ref (L (aG g))]) (rest := []) ⟨hx, hb, hml, hown, hts⟩ (mX0_copyFrom l D L ac hL _ (xun (X 11 ((Int32.toNatClampNeg (X 11 0)) + 1))) hg_5 g hg _ hc_6) ⟨va_cnB 1 hts gX1_add_X0_copyFrom_n25 rfl rfl rfl (hN _ nx_method_X1_25) (hts _ lk_X1_add_iX0) (by decide +kernel) ⟨Nat.le_of_ble_eq_true rfl, Nat.le_of_ble_eq_true rfl⟩, hts _ lk_X1_add_mX0_copyFrom, hts _ lk_X1_add_eX0_copyFrom⟩ (k_pv (j := (aG (xun (X 11 ((Int32.toNatClampNeg (X 11 0)) + 1))))) hK hN hO (aG_lt hg_5) (cn_G (xun (X 11 ((Int32.toNatClampNeg (X 11 0)) + 1)))) rfl _) rfl rfl hl.1 rfl (lv_room (Nat.le_of_ble_eq_true rfl)) dX1_add_45 ⟨Nat.le_of_ble_eq_true rfl, Nat.le_of_ble_eq_true rfl⟩) hA hO (fun H_7 locs_7 hO_7 => ?_)
        clear hO
        refine lv_aload_n hx hb dX1_add_48 rfl (lv_at hl 0 rfl) ?_
        refine lv_dup hx hb dX1_add_49 rfl ?_
        refine k_get (k := 1) (v := .int (X_6 11 0)) hx hb hts in_X1_add_X1 hown hK hO_7 (by decide) rfl rfl (by decide) lk_X1_add_f18 rfl dX1_add_50 ?_
        refine lv_iconst (v := 1) hx hb dX1_add_53 (by decide) ?_
        refine lv_iadd hx hb dX1_add_54 ?_
        refine k_put (ty := .int) (k := 1) (r := 11) (k' := 0) hx hb tyX1 tyX1_ok nmX1 hts in_X1_add_X1 hown hK  hL hA hO_7 (by decide) rfl (by omega) (fun Y => rfl) (by simp [xup]) rfl (by decide) lk_X1_add_f18 rfl (by decide +kernel) rfl rfl (Nat.le_of_ble_eq_true rfl) dX1_add_55 (fun H_9 locs_9 hO_9 => ?_)
        replace hf := zl_some hf
        obtain ⟨X_8, hX_8, hf⟩ := hf
        have hQ_9 := zo_eq hX_8 hO_9
        clear hO_9 hO_7
        obtain rfl := Option.some.inj hf
        exact e_v hx hb hr hK hN hQ_9 hlocks dX1_add_58
  · rw [if_neg c_1] at hf
    refine lv_aload_n hx hb dX1_add_12 rfl (lv_at hl 0 rfl) ?_
    replace hf := zv_some hf
    obtain ⟨X_10, hc_10, hf⟩ := hf
    refine k_av (va_runV (As := []) (rest := []) ⟨hx, hb, hml, hown, hts⟩ (mX1_dropOldest l D L ac hL _  _ hc_10) (cwV 0 hts gX1_add_X1_dropOldest rfl rfl rfl (by decide +kernel) ⟨Nat.le_of_ble_eq_true rfl, Nat.le_of_ble_eq_true rfl⟩) (k_pv (j := 1) hK hN hO (by decide) rfl rfl _) rfl rfl hl.1 rfl (lv_room (Nat.le_of_ble_eq_true rfl)) dX1_add_13 ⟨Nat.le_of_ble_eq_true rfl, Nat.le_of_ble_eq_true rfl⟩) hA hO (fun H_11 locs_11 hO_11 => ?_)
    clear hO
    refine lv_aload_n hx hb dX1_add_16 rfl (lv_at hl 0 rfl) ?_
    refine k_get (k := 1) (v := .int (X_10 11 0)) hx hb hts in_X1_add_X1 hown hK hO_11 (by decide) rfl rfl (by decide) lk_X1_add_f18 rfl dX1_add_17 ?_
    refine lv_if_lt (tgt := 58) hx hb dX1_add_20 (by decide) (fun c_12 => ?_) (fun c_12 => ?_)
    · rw [if_pos c_12] at hf
      obtain rfl := Option.some.inj hf
      exact e_v hx hb hr hK hN hO_11 hlocks dX1_add_58
    · rw [if_neg c_12] at hf
      refine lv_aload_n hx hb dX1_add_23 rfl (lv_at hl 0 rfl) ?_
      refine k_get (k := 1) (v := .int (X_10 11 0)) hx hb hts in_X1_add_X1 hown hK hO_11 (by decide) rfl rfl (by decide) lk_X1_add_f18 rfl dX1_add_24 ?_
      refine lv_aload_n hx hb dX1_add_27 rfl (lv_at hl 0 rfl) ?_
      refine k_get (k := 0) (v := .ref (L 2)) hx hb hts in_X1_add_X1 hown hK hO_11 (by decide) rfl rfl (by decide) lk_X1_add_f11 rfl dX1_add_28 ?_
      refine k_alen (v := 6) (t := 4) hx hb hK hO_11 (by decide) rfl rfl rfl dX1_add_31 ?_
      refine lv_icmp_ge (tgt := 58) hx hb dX1_add_32 (by decide) (fun c_13 => ?_) (fun c_13 => ?_)
      · rw [if_pos c_13] at hf
        obtain rfl := Option.some.inj hf
        exact e_v hx hb hr hK hN hO_11 hlocks dX1_add_58
      · rw [if_neg c_13] at hf
        refine lv_aload_n hx hb dX1_add_35 rfl (lv_at hl 0 rfl) ?_
        refine k_get (k := 0) (v := .ref (L 2)) hx hb hts in_X1_add_X1 hown hK hO_11 (by decide) rfl rfl (by decide) lk_X1_add_f11 rfl dX1_add_36 ?_
        refine lv_aload_n hx hb dX1_add_39 rfl (lv_at hl 0 rfl) ?_
        refine k_get (k := 1) (v := .int (X_10 11 0)) hx hb hts in_X1_add_X1 hown hK hO_11 (by decide) rfl rfl (by decide) lk_X1_add_f18 rfl dX1_add_40 ?_
        replace hf := zd_some hf
        obtain ⟨hi_14, hf⟩ := hf
        have hg_15 : xun (X_10 11 ((Int32.toNatClampNeg (X_10 11 0)) + 1)) < 11 := hO_11.2.1 _ (vp_lt hi_14)
        refine k_aald hx hb hK hO_11 (by decide) rfl rfl hi_14 dX1_add_43 ?_
        refine lv_topr (b := L (aG (xun (X_10 11 ((Int32.toNatClampNeg (X_10 11 0)) + 1))))) rfl ?_
        refine lv_aload_n hx hb dX1_add_44 rfl (lv_at hl 1 rfl) ?_
        replace hf := zv_some hf
        obtain ⟨X_16, hc_16, hf⟩ := hf
        refine k_av (va_runVN (As := [.ref (L (aG g))]) (rest := []) ⟨hx, hb, hml, hown, hts⟩ (mX0_copyFrom l D L ac hL _ (xun (X_10 11 ((Int32.toNatClampNeg (X_10 11 0)) + 1))) hg_15 g hg _ hc_16) ⟨va_cnB 1 hts gX1_add_X0_copyFrom_n25 rfl rfl rfl (hN _ nx_method_X1_25) (hts _ lk_X1_add_iX0) (by decide +kernel) ⟨Nat.le_of_ble_eq_true rfl, Nat.le_of_ble_eq_true rfl⟩, hts _ lk_X1_add_mX0_copyFrom, hts _ lk_X1_add_eX0_copyFrom⟩ (k_pv (j := (aG (xun (X_10 11 ((Int32.toNatClampNeg (X_10 11 0)) + 1))))) hK hN hO_11 (aG_lt hg_15) (cn_G (xun (X_10 11 ((Int32.toNatClampNeg (X_10 11 0)) + 1)))) rfl _) rfl rfl hl.1 rfl (lv_room (Nat.le_of_ble_eq_true rfl)) dX1_add_45 ⟨Nat.le_of_ble_eq_true rfl, Nat.le_of_ble_eq_true rfl⟩) hA hO_11 (fun H_17 locs_17 hO_17 => ?_)
        clear hO_11
        refine lv_aload_n hx hb dX1_add_48 rfl (lv_at hl 0 rfl) ?_
        refine lv_dup hx hb dX1_add_49 rfl ?_
        refine k_get (k := 1) (v := .int (X_16 11 0)) hx hb hts in_X1_add_X1 hown hK hO_17 (by decide) rfl rfl (by decide) lk_X1_add_f18 rfl dX1_add_50 ?_
        refine lv_iconst (v := 1) hx hb dX1_add_53 (by decide) ?_
        refine lv_iadd hx hb dX1_add_54 ?_
        refine k_put (ty := .int) (k := 1) (r := 11) (k' := 0) hx hb tyX1 tyX1_ok nmX1 hts in_X1_add_X1 hown hK  hL hA hO_17 (by decide) rfl (by omega) (fun Y => rfl) (by simp [xup]) rfl (by decide) lk_X1_add_f18 rfl (by decide +kernel) rfl rfl (Nat.le_of_ble_eq_true rfl) dX1_add_55 (fun H_19 locs_19 hO_19 => ?_)
        replace hf := zl_some hf
        obtain ⟨X_18, hX_18, hf⟩ := hf
        have hQ_19 := zo_eq hX_18 hO_19
        clear hO_19 hO_17
        obtain rfl := Option.some.inj hf
        exact e_v hx hb hr hK hN hQ_19 hlocks dX1_add_58
theorem in_X1_takeBack_X1 : ∀ w ∈ u_ws RX1 TX1 2, w ∈ wsX1_takeBack := by decide +kernel
theorem lk_X1_takeBack_eX0_copyFrom : Cond.selects RX0 yX0_copyFrom yX0_copyFrom ∈ wsX1_takeBack := by decide +kernel
theorem lk_X1_takeBack_f11 : Cond.fieldLink RX1 11 "PoisonPiles$History" "states" "[LPoisonPiles$Game;" ∈ wsX1_takeBack := by decide +kernel
theorem lk_X1_takeBack_f18 : Cond.fieldLink RX1 18 "PoisonPiles$History" "size" "I" ∈ wsX1_takeBack := by decide +kernel
theorem lk_X1_takeBack_iX0 : Cond.initialized RX0 ∈ wsX1_takeBack := by decide +kernel
theorem lk_X1_takeBack_mX0_copyFrom : Cond.instanceMethod yX0_copyFrom ∈ wsX1_takeBack := by decide +kernel
def fX1_takeBack  (g : Nat) (X : XM) : Option (Int32 × XM) := if (X 11 0) < 1 then some (0, X) else if (X 11 0) ≤ 6 then zl (xup X 11 0 ((X 11 0) - 1)) (fun X_3 => zd (X_3 11 0) 6 (zv (fX0_copyFrom g (xun (X_3 11 ((Int32.toNatClampNeg (X_3 11 0)) + 1))) X_3) (fun X_7 => some (1, X_7)))) else some (0, X)
set_option maxHeartbeats 4000000 in
set_option maxRecDepth 100000 in
theorem mX1_takeBack (l : Launch) (D : va_G) (L : Nat → Nat) (ac : Nat → ClassId) (hL : LL L) (X : XM) (g : Nat) (hg : g < 11) (r0 : Int32) (X0 : XM) (hf : fX1_takeBack g X = some (r0, X0)) : Ci l yX1_takeBack wsX1_takeBack ({ frames := 2, cells := 0, slots := 0, locals := 43 }) D L ac X [.ref (L 1), .ref (L (aG g))] r0 X0 := by
  refine Met.ofK (cc := cX1_takeBack) (maxL := 2) (ret := (some .boolean)) (lv := [(0, .ref (L 1)), (1, .ref (L (aG g)))]) (by decide +kernel) rfl (Nat.le_of_ble_eq_true rfl) rfl ?_
  intro p e s m below meth c F hO ls hl
  obtain ⟨hx, hb, hr, hts, hown, hlocks, hml, hK, hN⟩ := id F
  have hA : ∀ q, fr L q → fr L q := fun q h => h
  unfold fX1_takeBack at hf
  refine lv_aload_n hx hb dX1_takeBack_0 rfl (lv_at hl 0 rfl) ?_
  refine k_get (k := 1) (v := .int (X 11 0)) hx hb hts in_X1_takeBack_X1 hown hK hO (by decide) rfl rfl (by decide) lk_X1_takeBack_f18 rfl dX1_takeBack_1 ?_
  refine lv_iconst (v := 1) hx hb dX1_takeBack_4 (by decide) ?_
  refine lv_icmp_lt (tgt := 20) hx hb dX1_takeBack_5 (by decide) (fun c_1 => ?_) (fun c_1 => ?_)
  · rw [if_pos c_1] at hf
    refine lv_iconst (v := 0) hx hb dX1_takeBack_20 (by decide) ?_
    obtain ⟨rfl, rfl⟩ := Prod.mk.inj (Option.some.inj hf)
    exact e_n hx hb hr (bo_n (by decide)) hK hN hO hlocks dX1_takeBack_21
  · rw [if_neg c_1] at hf
    refine lv_aload_n hx hb dX1_takeBack_8 rfl (lv_at hl 0 rfl) ?_
    refine k_get (k := 1) (v := .int (X 11 0)) hx hb hts in_X1_takeBack_X1 hown hK hO (by decide) rfl rfl (by decide) lk_X1_takeBack_f18 rfl dX1_takeBack_9 ?_
    refine lv_aload_n hx hb dX1_takeBack_12 rfl (lv_at hl 0 rfl) ?_
    refine k_get (k := 0) (v := .ref (L 2)) hx hb hts in_X1_takeBack_X1 hown hK hO (by decide) rfl rfl (by decide) lk_X1_takeBack_f11 rfl dX1_takeBack_13 ?_
    refine k_alen (v := 6) (t := 4) hx hb hK hO (by decide) rfl rfl rfl dX1_takeBack_16 ?_
    refine lv_icmp_le (tgt := 22) hx hb dX1_takeBack_17 (by decide) (fun c_2 => ?_) (fun c_2 => ?_)
    · rw [if_pos c_2] at hf
      refine lv_aload_n hx hb dX1_takeBack_22 rfl (lv_at hl 0 rfl) ?_
      refine lv_dup hx hb dX1_takeBack_23 rfl ?_
      refine k_get (k := 1) (v := .int (X 11 0)) hx hb hts in_X1_takeBack_X1 hown hK hO (by decide) rfl rfl (by decide) lk_X1_takeBack_f18 rfl dX1_takeBack_24 ?_
      refine lv_iconst (v := 1) hx hb dX1_takeBack_27 (by decide) ?_
      refine lv_isub hx hb dX1_takeBack_28 ?_
      refine k_put (ty := .int) (k := 1) (r := 11) (k' := 0) hx hb tyX1 tyX1_ok nmX1 hts in_X1_takeBack_X1 hown hK  hL hA hO (by decide) rfl (by omega) (fun Y => rfl) (by simp [xup]) rfl (by decide) lk_X1_takeBack_f18 rfl (by decide +kernel) rfl rfl (Nat.le_of_ble_eq_true rfl) dX1_takeBack_29 (fun H_4 locs_4 hO_4 => ?_)
      replace hf := zl_some hf
      obtain ⟨X_3, hX_3, hf⟩ := hf
      have hQ_4 := zo_eq hX_3 hO_4
      clear hO_4 hO
      refine lv_aload_n hx hb dX1_takeBack_32 rfl (lv_at hl 1 rfl) ?_
      refine lv_aload_n hx hb dX1_takeBack_33 rfl (lv_at hl 0 rfl) ?_
      refine k_get (k := 0) (v := .ref (L 2)) hx hb hts in_X1_takeBack_X1 hown hK hQ_4 (by decide) rfl rfl (by decide) lk_X1_takeBack_f11 rfl dX1_takeBack_34 ?_
      refine lv_aload_n hx hb dX1_takeBack_37 rfl (lv_at hl 0 rfl) ?_
      refine k_get (k := 1) (v := .int (X_3 11 0)) hx hb hts in_X1_takeBack_X1 hown hK hQ_4 (by decide) rfl rfl (by decide) lk_X1_takeBack_f18 rfl dX1_takeBack_38 ?_
      replace hf := zd_some hf
      obtain ⟨hi_5, hf⟩ := hf
      have hg_6 : xun (X_3 11 ((Int32.toNatClampNeg (X_3 11 0)) + 1)) < 11 := hQ_4.2.1 _ (vp_lt hi_5)
      refine k_aald hx hb hK hQ_4 (by decide) rfl rfl hi_5 dX1_takeBack_41 ?_
      refine lv_topr (b := L (aG (xun (X_3 11 ((Int32.toNatClampNeg (X_3 11 0)) + 1))))) rfl ?_
      replace hf := zv_some hf
      obtain ⟨X_7, hc_7, hf⟩ := hf
      refine k_av (va_runVN (As := [.ref (L (aG (xun (X_3 11 ((Int32.toNatClampNeg (X_3 11 0)) + 1)))))]) (rest := []) ⟨hx, hb, hml, hown, hts⟩ (mX0_copyFrom l D L ac hL _ g hg (xun (X_3 11 ((Int32.toNatClampNeg (X_3 11 0)) + 1))) hg_6 _ hc_7) ⟨va_cnB 1 hts gX1_takeBack_X0_copyFrom_n25 rfl rfl rfl (hN _ nx_method_X1_25) (hts _ lk_X1_takeBack_iX0) (by decide +kernel) ⟨Nat.le_of_ble_eq_true rfl, Nat.le_of_ble_eq_true rfl⟩, hts _ lk_X1_takeBack_mX0_copyFrom, hts _ lk_X1_takeBack_eX0_copyFrom⟩ (k_pv (j := (aG g)) hK hN hQ_4 (aG_lt hg) (cn_G g) rfl _) rfl rfl hl.1 rfl (lv_room (Nat.le_of_ble_eq_true rfl)) dX1_takeBack_42 ⟨Nat.le_of_ble_eq_true rfl, Nat.le_of_ble_eq_true rfl⟩) hA hQ_4 (fun H_8 locs_8 hO_8 => ?_)
      clear hQ_4
      refine lv_iconst (v := 1) hx hb dX1_takeBack_45 (by decide) ?_
      obtain ⟨rfl, rfl⟩ := Prod.mk.inj (Option.some.inj hf)
      exact e_n hx hb hr (bo_n (by decide)) hK hN hO_8 hlocks dX1_takeBack_46
    · rw [if_neg c_2] at hf
      refine lv_iconst (v := 0) hx hb dX1_takeBack_20 (by decide) ?_
      obtain ⟨rfl, rfl⟩ := Prod.mk.inj (Option.some.inj hf)
      exact e_n hx hb hr (bo_n (by decide)) hK hN hO hlocks dX1_takeBack_21
theorem in_X5_nimbersBehind_X5 : ∀ w ∈ u_ws RX5 TX5 2, w ∈ wsX5_nimbersBehind := by decide +kernel
theorem lk_X5_nimbersBehind_f9 : Cond.fieldLink RX5 9 "PoisonPiles$Sizes" "nimbers" "[I" ∈ wsX5_nimbersBehind := by decide +kernel
theorem lk_X5_nimbersBehind_iX8 : Cond.initialized RX8 ∈ wsX5_nimbersBehind := by decide +kernel
theorem lk_X5_nimbersBehind_sX8_isIn : Cond.static yX8_isIn ∈ wsX5_nimbersBehind := by decide +kernel
def fX5_nimbersBehind_5   : Nat → Int32 → Int32 → Int32 → Int32 → XM → Option (Int32 × XM)
  | 0, _, _, _, _, _ => none
  | n + 1, x1, x2, x3, x4, X => if 5 < x4 then some (x3, X) else zl (x2 - x4) (fun v_2 => if v_2 < 0 then fX5_nimbersBehind_5 n x1 x2 x3 (x4 + 1) X else if 201 ≤ v_2 then fX5_nimbersBehind_5 n x1 x2 x3 (x4 + 1) X else zi (fX8_isIn x1 (x4 - 1) X) (fun r_9 X_8 => if r_9 = 0 then fX5_nimbersBehind_5 n x1 x2 x3 (x4 + 1) X_8 else zd v_2 201 (zl (x3 ||| (o_shl 1 (X_8 19 (Int32.toNatClampNeg v_2)))) (fun v_14 => fX5_nimbersBehind_5 n x1 x2 v_14 (x4 + 1) X_8))))
set_option maxHeartbeats 4000000 in
set_option maxRecDepth 100000 in
theorem wX5_nimbersBehind_5 {p : Program} {l : Launch} {e : Env} {s : State} {m : MethodId} {args : Array Value} {below : List Frame} {meth : Method} {c : Code} {D : va_G} {L : Nat → Nat} {ac : Nat → ClassId} {r0 : Int32} {X0 : XM} (hL : LL L) (F : Fx p s m args meth c cX5_nimbersBehind 6 (some .int) wsX5_nimbersBehind yX5_nimbersBehind.cls D ac) : ∀ (n : Nat) (x1 : Int32) (x2 : Int32) (x3 : Int32) (x4 : Int32) (X : XM) (H : Heap) (locs : List Loc) (ls : Array Slot), Oh D L ac X (fr L) s.heap H locs → lv_has ls 6 [(0, .ref (L 11)), (1, .int x1), (2, .int x2), (3, .int x3), (4, .int x4)] → fX5_nimbersBehind_5 n x1 x2 x3 x4 X = some (r0, X0) → W p l e (headSpec wsX5_nimbersBehind ({ frames := 1, cells := 0, slots := 0, locals := 21 })).room s m args below meth c H locs 0 0 (MQ below (va_Qi (fun (r : Int32) (Y : XM) => r = r0 ∧ Y = X0) (fun (Y : XM) t => St D L ac Y t) (fr L)) args s 0 0 (fr L)) (F0 m 5 ls []) := by
  obtain ⟨hx, hb, hr, hts, hown, hlocks, hml, hK, hN⟩ := id F
  have hA : ∀ q, fr L q → fr L q := fun q h => h
  intro n
  induction n with
  | zero => intro x1 x2 x3 x4 X H locs ls hO hl hf; simp [fX5_nimbersBehind_5] at hf
  | succ n ih =>
    intro x1 x2 x3 x4 X H locs ls hO hl hf
    rw [fX5_nimbersBehind_5] at hf
    refine lv_iload hx hb dX5_nimbersBehind_5 (lv_at hl 4 rfl) ?_
    refine lv_iconst (v := 5) hx hb dX5_nimbersBehind_7 (by decide) ?_
    refine lv_icmp_gt (tgt := 61) hx hb dX5_nimbersBehind_8 (by decide) (fun c_1 => ?_) (fun c_1 => ?_)
    · rw [if_pos c_1] at hf
      refine lv_iload_n hx hb dX5_nimbersBehind_61 rfl (lv_at hl 3 rfl) ?_
      obtain ⟨rfl, rfl⟩ := Prod.mk.inj (Option.some.inj hf)
      exact e_i hx hb hr hK hN hO hlocks dX5_nimbersBehind_62
    · rw [if_neg c_1] at hf
      refine lv_iload_n hx hb dX5_nimbersBehind_11 rfl (lv_at hl 2 rfl) ?_
      refine lv_iload hx hb dX5_nimbersBehind_12 (lv_at hl 4 rfl) ?_
      refine lv_isub hx hb dX5_nimbersBehind_14 ?_
      replace hf := zl_some hf
      obtain ⟨v_2, hv_2, hf⟩ := hf
      refine lv_tope hv_2 ?_
      refine lv_istore (lv' := [(5, .int v_2), (0, .ref (L 11)), (1, .int x1), (2, .int x2), (3, .int x3), (4, .int x4)]) hx hb dX5_nimbersBehind_15 hl (by decide) rfl (fun ls_3 hl_3 => ?_)
      clear hl
      refine lv_iload hx hb dX5_nimbersBehind_17 (lv_at hl_3 0 rfl) ?_
      refine lv_if_lt (tgt := 55) hx hb dX5_nimbersBehind_19 (by decide) (fun c_4 => ?_) (fun c_4 => ?_)
      · rw [if_pos c_4] at hf
        refine lv_iinc (v := x4 + 1) (lv' := [(4, .int (x4 + 1)), (5, .int v_2), (0, .ref (L 11)), (1, .int x1), (2, .int x2), (3, .int x3)]) hx hb dX5_nimbersBehind_55 hl_3 (k := 5) rfl rfl (by decide) rfl (fun ls_5 hl_5 => ?_)
        clear hl_3
        refine lv_goto (tgt := 5) hx hb dX5_nimbersBehind_58 (by decide) ?_
        exact ih _ _ _ _ _  _ _ _ hO (lv_sub hl_5 [2, 3, 4, 5, 0] rfl) hf
      · rw [if_neg c_4] at hf
        refine lv_iload hx hb dX5_nimbersBehind_22 (lv_at hl_3 0 rfl) ?_
        refine lv_aload_n hx hb dX5_nimbersBehind_24 rfl (lv_at hl_3 1 rfl) ?_
        refine k_get (k := 0) (v := .ref (L 12)) hx hb hts in_X5_nimbersBehind_X5 hown hK hO (by decide) rfl rfl (by decide) lk_X5_nimbersBehind_f9 rfl dX5_nimbersBehind_25 ?_
        refine k_alen (v := 201) (t := 0) hx hb hK hO (by decide) rfl rfl rfl dX5_nimbersBehind_28 ?_
        refine lv_icmp_ge (tgt := 55) hx hb dX5_nimbersBehind_29 (by decide) (fun c_6 => ?_) (fun c_6 => ?_)
        · rw [if_pos c_6] at hf
          refine lv_iinc (v := x4 + 1) (lv' := [(4, .int (x4 + 1)), (5, .int v_2), (0, .ref (L 11)), (1, .int x1), (2, .int x2), (3, .int x3)]) hx hb dX5_nimbersBehind_55 hl_3 (k := 5) rfl rfl (by decide) rfl (fun ls_7 hl_7 => ?_)
          clear hl_3
          refine lv_goto (tgt := 5) hx hb dX5_nimbersBehind_58 (by decide) ?_
          exact ih _ _ _ _ _  _ _ _ hO (lv_sub hl_7 [2, 3, 4, 5, 0] rfl) hf
        · rw [if_neg c_6] at hf
          refine lv_iload_n hx hb dX5_nimbersBehind_32 rfl (lv_at hl_3 2 rfl) ?_
          refine lv_iload hx hb dX5_nimbersBehind_33 (lv_at hl_3 5 rfl) ?_
          refine lv_iconst (v := 1) hx hb dX5_nimbersBehind_35 (by decide) ?_
          refine lv_isub hx hb dX5_nimbersBehind_36 ?_
          replace hf := zi_some hf
          obtain ⟨r_9, X_8, hc_8, hf⟩ := hf
          refine k_ai (va_runSN (As := [.int x1, .int (x4 - 1)]) (rest := []) ⟨hx, hb, hml, hown, hts⟩ (mX8_isIn l D L ac hL _ x1 (x4 - 1) _ _ hc_8) ⟨va_cnB 2 hts gX5_nimbersBehind_X8_isIn_n34 rfl rfl rfl (hN _ nx_method_X5_34) (hts _ lk_X5_nimbersBehind_iX8) (by decide +kernel) ⟨Nat.le_of_ble_eq_true rfl, Nat.le_of_ble_eq_true rfl⟩, hts _ lk_X5_nimbersBehind_sX8_isIn, trivial⟩ (k_ps hK hN hO _) rfl rfl hl_3.1 rfl (lv_room (Nat.le_of_ble_eq_true rfl)) dX5_nimbersBehind_37 ⟨Nat.le_of_ble_eq_true rfl, Nat.le_of_ble_eq_true rfl⟩) hA hO (fun H_10 locs_10 hO_10 => ?_)
          clear hO
          refine lv_if_eq (tgt := 55) hx hb dX5_nimbersBehind_40 (by decide) (fun c_11 => ?_) (fun c_11 => ?_)
          · rw [if_pos c_11] at hf
            subst c_11
            refine lv_iinc (v := x4 + 1) (lv' := [(4, .int (x4 + 1)), (5, .int v_2), (0, .ref (L 11)), (1, .int x1), (2, .int x2), (3, .int x3)]) hx hb dX5_nimbersBehind_55 hl_3 (k := 5) rfl rfl (by decide) rfl (fun ls_12 hl_12 => ?_)
            clear hl_3
            refine lv_goto (tgt := 5) hx hb dX5_nimbersBehind_58 (by decide) ?_
            exact ih _ _ _ _ _  _ _ _ hO_10 (lv_sub hl_12 [2, 3, 4, 5, 0] rfl) hf
          · rw [if_neg c_11] at hf
            refine lv_iload_n hx hb dX5_nimbersBehind_43 rfl (lv_at hl_3 4 rfl) ?_
            refine lv_iconst (v := 1) hx hb dX5_nimbersBehind_44 (by decide) ?_
            refine lv_aload_n hx hb dX5_nimbersBehind_45 rfl (lv_at hl_3 1 rfl) ?_
            refine k_get (k := 0) (v := .ref (L 12)) hx hb hts in_X5_nimbersBehind_X5 hown hK hO_10 (by decide) rfl rfl (by decide) lk_X5_nimbersBehind_f9 rfl dX5_nimbersBehind_46 ?_
            refine lv_iload hx hb dX5_nimbersBehind_49 (lv_at hl_3 0 rfl) ?_
            replace hf := zd_some hf
            obtain ⟨hi_13, hf⟩ := hf
            refine k_iald hx hb hK hO_10 (by decide) (fun _ => rfl) hi_13 dX5_nimbersBehind_51 ?_
            refine lv_ishl hx hb dX5_nimbersBehind_52 ?_
            refine lv_ior hx hb dX5_nimbersBehind_53 ?_
            replace hf := zl_some hf
            obtain ⟨v_14, hv_14, hf⟩ := hf
            refine lv_tope hv_14 ?_
            refine lv_istore_n (lv' := [(3, .int v_14), (5, .int v_2), (0, .ref (L 11)), (1, .int x1), (2, .int x2), (4, .int x4)]) hx hb dX5_nimbersBehind_54 rfl hl_3 (by decide) rfl (fun ls_15 hl_15 => ?_)
            clear hl_3
            refine lv_iinc (v := x4 + 1) (lv' := [(4, .int (x4 + 1)), (3, .int v_14), (5, .int v_2), (0, .ref (L 11)), (1, .int x1), (2, .int x2)]) hx hb dX5_nimbersBehind_55 hl_15 (k := 5) rfl rfl (by decide) rfl (fun ls_16 hl_16 => ?_)
            clear hl_15
            refine lv_goto (tgt := 5) hx hb dX5_nimbersBehind_58 (by decide) ?_
            exact ih _ _ _ _ _  _ _ _ hO_10 (lv_sub hl_16 [3, 4, 5, 1, 0] rfl) hf
def fX5_nimbersBehind  (a1 : Int32) (a2 : Int32) (X : XM) : Option (Int32 × XM) := fX5_nimbersBehind_5 fuel a1 a2 0 1 X
set_option maxHeartbeats 4000000 in
set_option maxRecDepth 100000 in
theorem mX5_nimbersBehind (l : Launch) (D : va_G) (L : Nat → Nat) (ac : Nat → ClassId) (hL : LL L) (X : XM) (a1 : Int32) (a2 : Int32) (r0 : Int32) (X0 : XM) (hf : fX5_nimbersBehind a1 a2 X = some (r0, X0)) : Ci l yX5_nimbersBehind wsX5_nimbersBehind ({ frames := 1, cells := 0, slots := 0, locals := 21 }) D L ac X [.ref (L 11), .int a1, .int a2] r0 X0 := by
  refine Met.ofK (cc := cX5_nimbersBehind) (maxL := 6) (ret := (some .int)) (lv := [(0, .ref (L 11)), (1, .int a1), (2, .int a2)]) (by decide +kernel) rfl (Nat.le_of_ble_eq_true rfl) rfl ?_
  intro p e s m below meth c F hO ls hl
  obtain ⟨hx, hb, hr, hts, hown, hlocks, hml, hK, hN⟩ := id F
  have hA : ∀ q, fr L q → fr L q := fun q h => h
  unfold fX5_nimbersBehind at hf
  refine lv_iconst (v := 0) hx hb dX5_nimbersBehind_0 (by decide) ?_
  refine lv_istore_n (lv' := [(3, .int 0), (0, .ref (L 11)), (1, .int a1), (2, .int a2)]) hx hb dX5_nimbersBehind_1 rfl hl (by decide) rfl (fun ls_17 hl_17 => ?_)
  clear hl
  refine lv_iconst (v := 1) hx hb dX5_nimbersBehind_2 (by decide) ?_
  refine lv_istore (lv' := [(4, .int 1), (3, .int 0), (0, .ref (L 11)), (1, .int a1), (2, .int a2)]) hx hb dX5_nimbersBehind_3 hl_17 (by decide) rfl (fun ls_18 hl_18 => ?_)
  clear hl_17
  exact wX5_nimbersBehind_5 hL F  fuel _ _ _ _ _  _ _ _ hO (lv_sub hl_18 [2, 3, 4, 1, 0] rfl) hf
theorem lk_X5_leastOutside_iX8 : Cond.initialized RX8 ∈ wsX5_leastOutside := by decide +kernel
theorem lk_X5_leastOutside_sX8_isIn : Cond.static yX8_isIn ∈ wsX5_leastOutside := by decide +kernel
def fX5_leastOutside_2   : Nat → Int32 → Int32 → XM → Option (Int32 × XM)
  | 0, _, _, _ => none
  | n + 1, x0, x1, X => if 5 ≤ x1 then some (x1, X) else zi (fX8_isIn x0 x1 X) (fun r_3 X_2 => if r_3 = 0 then some (x1, X_2) else fX5_leastOutside_2 n x0 (x1 + 1) X_2)
set_option maxHeartbeats 4000000 in
set_option maxRecDepth 100000 in
theorem wX5_leastOutside_2 {p : Program} {l : Launch} {e : Env} {s : State} {m : MethodId} {args : Array Value} {below : List Frame} {meth : Method} {c : Code} {D : va_G} {L : Nat → Nat} {ac : Nat → ClassId} {r0 : Int32} {X0 : XM} (hL : LL L) (F : Fx p s m args meth c cX5_leastOutside 2 (some .int) wsX5_leastOutside yX5_leastOutside.cls D ac) : ∀ (n : Nat) (x0 : Int32) (x1 : Int32) (X : XM) (H : Heap) (locs : List Loc) (ls : Array Slot), Oh D L ac X (fr L) s.heap H locs → lv_has ls 2 [(0, .int x0), (1, .int x1)] → fX5_leastOutside_2 n x0 x1 X = some (r0, X0) → W p l e (headSpec wsX5_leastOutside ({ frames := 1, cells := 0, slots := 0, locals := 21 })).room s m args below meth c H locs 0 0 (MQ below (va_Qi (fun (r : Int32) (Y : XM) => r = r0 ∧ Y = X0) (fun (Y : XM) t => St D L ac Y t) (fr L)) args s 0 0 (fr L)) (F0 m 2 ls []) := by
  obtain ⟨hx, hb, hr, hts, hown, hlocks, hml, hK, hN⟩ := id F
  have hA : ∀ q, fr L q → fr L q := fun q h => h
  intro n
  induction n with
  | zero => intro x0 x1 X H locs ls hO hl hf; simp [fX5_leastOutside_2] at hf
  | succ n ih =>
    intro x0 x1 X H locs ls hO hl hf
    rw [fX5_leastOutside_2] at hf
    refine lv_iload_n hx hb dX5_leastOutside_2 rfl (lv_at hl 1 rfl) ?_
    refine lv_iconst (v := 5) hx hb dX5_leastOutside_3 (by decide) ?_
    refine lv_icmp_ge (tgt := 21) hx hb dX5_leastOutside_4 (by decide) (fun c_1 => ?_) (fun c_1 => ?_)
    · rw [if_pos c_1] at hf
      refine lv_iload_n hx hb dX5_leastOutside_21 rfl (lv_at hl 1 rfl) ?_
      obtain ⟨rfl, rfl⟩ := Prod.mk.inj (Option.some.inj hf)
      exact e_i hx hb hr hK hN hO hlocks dX5_leastOutside_22
    · rw [if_neg c_1] at hf
      refine lv_iload_n hx hb dX5_leastOutside_7 rfl (lv_at hl 0 rfl) ?_
      refine lv_iload_n hx hb dX5_leastOutside_8 rfl (lv_at hl 1 rfl) ?_
      replace hf := zi_some hf
      obtain ⟨r_3, X_2, hc_2, hf⟩ := hf
      refine k_ai (va_runSN (As := [.int x0, .int x1]) (rest := []) ⟨hx, hb, hml, hown, hts⟩ (mX8_isIn l D L ac hL _ x0 x1 _ _ hc_2) ⟨va_cnB 2 hts gX5_leastOutside_X8_isIn_n34 rfl rfl rfl (hN _ nx_method_X5_34) (hts _ lk_X5_leastOutside_iX8) (by decide +kernel) ⟨Nat.le_of_ble_eq_true rfl, Nat.le_of_ble_eq_true rfl⟩, hts _ lk_X5_leastOutside_sX8_isIn, trivial⟩ (k_ps hK hN hO _) rfl rfl hl.1 rfl (lv_room (Nat.le_of_ble_eq_true rfl)) dX5_leastOutside_9 ⟨Nat.le_of_ble_eq_true rfl, Nat.le_of_ble_eq_true rfl⟩) hA hO (fun H_4 locs_4 hO_4 => ?_)
      clear hO
      refine lv_if_eq (tgt := 21) hx hb dX5_leastOutside_12 (by decide) (fun c_5 => ?_) (fun c_5 => ?_)
      · rw [if_pos c_5] at hf
        subst c_5
        refine lv_iload_n hx hb dX5_leastOutside_21 rfl (lv_at hl 1 rfl) ?_
        obtain ⟨rfl, rfl⟩ := Prod.mk.inj (Option.some.inj hf)
        exact e_i hx hb hr hK hN hO_4 hlocks dX5_leastOutside_22
      · rw [if_neg c_5] at hf
        refine lv_iinc (v := x1 + 1) (lv' := [(1, .int (x1 + 1)), (0, .int x0)]) hx hb dX5_leastOutside_15 hl (k := 1) rfl rfl (by decide) rfl (fun ls_6 hl_6 => ?_)
        clear hl
        refine lv_goto (tgt := 2) hx hb dX5_leastOutside_18 (by decide) ?_
        exact ih _ _ _  _ _ _ hO_4 (lv_sub hl_6 [1, 0] rfl) hf
def fX5_leastOutside  (a1 : Int32) (X : XM) : Option (Int32 × XM) := fX5_leastOutside_2 fuel a1 0 X
set_option maxHeartbeats 4000000 in
set_option maxRecDepth 100000 in
theorem mX5_leastOutside (l : Launch) (D : va_G) (L : Nat → Nat) (ac : Nat → ClassId) (hL : LL L) (X : XM) (a1 : Int32) (r0 : Int32) (X0 : XM) (hf : fX5_leastOutside a1 X = some (r0, X0)) : Ci l yX5_leastOutside wsX5_leastOutside ({ frames := 1, cells := 0, slots := 0, locals := 21 }) D L ac X [.int a1] r0 X0 := by
  refine Met.ofK (cc := cX5_leastOutside) (maxL := 2) (ret := (some .int)) (lv := [(0, .int a1)]) (by decide +kernel) rfl (Nat.le_of_ble_eq_true rfl) rfl ?_
  intro p e s m below meth c F hO ls hl
  obtain ⟨hx, hb, hr, hts, hown, hlocks, hml, hK, hN⟩ := id F
  have hA : ∀ q, fr L q → fr L q := fun q h => h
  unfold fX5_leastOutside at hf
  refine lv_iconst (v := 0) hx hb dX5_leastOutside_0 (by decide) ?_
  refine lv_istore_n (lv' := [(1, .int 0), (0, .int a1)]) hx hb dX5_leastOutside_1 rfl hl (by decide) rfl (fun ls_7 hl_7 => ?_)
  clear hl
  exact wX5_leastOutside_2 hL F  fuel _ _ _  _ _ _ hO (lv_sub hl_7 [1, 0] rfl) hf
theorem in_X5_learn_X5 : ∀ w ∈ u_ws RX5 TX5 2, w ∈ wsX5_learn := by decide +kernel
theorem lk_X5_learn_f23 : Cond.fieldLink RX5 23 "PoisonPiles$Sizes" "knownTakes" "I" ∈ wsX5_learn := by decide +kernel
theorem lk_X5_learn_f9 : Cond.fieldLink RX5 9 "PoisonPiles$Sizes" "nimbers" "[I" ∈ wsX5_learn := by decide +kernel
def fX5_learn_10   : Nat → Int32 → Int32 → XM → Option XM
  | 0, _, _, _ => none
  | n + 1, x1, x2, X => if 201 ≤ x2 then zl (xup X 18 0 x1) (fun X_2 => some X_2) else zi (fX5_nimbersBehind x1 x2 X) (fun r_5 X_4 => zi (fX5_leastOutside r_5 X_4) (fun r_8 X_7 => zd x2 201 (zl (xup X_7 19 (Int32.toNatClampNeg x2) r_8) (fun X_11 => fX5_learn_10 n x1 (x2 + 1) X_11))))
set_option maxHeartbeats 4000000 in
set_option maxRecDepth 100000 in
theorem wX5_learn_10 {p : Program} {l : Launch} {e : Env} {s : State} {m : MethodId} {args : Array Value} {below : List Frame} {meth : Method} {c : Code} {D : va_G} {L : Nat → Nat} {ac : Nat → ClassId} {X0 : XM} (hL : LL L) (F : Fx p s m args meth c cX5_learn 3 none wsX5_learn yX5_learn.cls D ac) : ∀ (n : Nat) (x1 : Int32) (x2 : Int32) (X : XM) (H : Heap) (locs : List Loc) (ls : Array Slot), Oh D L ac X (fr L) s.heap H locs → lv_has ls 3 [(0, .ref (L 11)), (1, .int x1), (2, .int x2)] → fX5_learn_10 n x1 x2 X = some X0 → W p l e (headSpec wsX5_learn ({ frames := 2, cells := 0, slots := 0, locals := 46 })).room s m args below meth c H locs 0 0 (MQ below (va_Qv (fun (Y : XM) => Y = X0) (fun (Y : XM) t => St D L ac Y t) (fr L)) args s 0 0 (fr L)) (F0 m 10 ls []) := by
  obtain ⟨hx, hb, hr, hts, hown, hlocks, hml, hK, hN⟩ := id F
  have hA : ∀ q, fr L q → fr L q := fun q h => h
  intro n
  induction n with
  | zero => intro x1 x2 X H locs ls hO hl hf; simp [fX5_learn_10] at hf
  | succ n ih =>
    intro x1 x2 X H locs ls hO hl hf
    rw [fX5_learn_10] at hf
    refine lv_iload_n hx hb dX5_learn_10 rfl (lv_at hl 2 rfl) ?_
    refine lv_aload_n hx hb dX5_learn_11 rfl (lv_at hl 0 rfl) ?_
    refine k_get (k := 0) (v := .ref (L 12)) hx hb hts in_X5_learn_X5 hown hK hO (by decide) rfl rfl (by decide) lk_X5_learn_f9 rfl dX5_learn_12 ?_
    refine k_alen (v := 201) (t := 0) hx hb hK hO (by decide) rfl rfl rfl dX5_learn_15 ?_
    refine lv_icmp_ge (tgt := 40) hx hb dX5_learn_16 (by decide) (fun c_1 => ?_) (fun c_1 => ?_)
    · rw [if_pos c_1] at hf
      refine lv_aload_n hx hb dX5_learn_40 rfl (lv_at hl 0 rfl) ?_
      refine lv_iload_n hx hb dX5_learn_41 rfl (lv_at hl 1 rfl) ?_
      refine k_put (ty := .int) (k := 1) (r := 18) (k' := 0) hx hb tyX5 tyX5_ok nmX5 hts in_X5_learn_X5 hown hK  hL hA hO (by decide) rfl (by omega) (fun Y => rfl) (by simp [xup]) rfl (by decide) lk_X5_learn_f23 rfl (by decide +kernel) rfl rfl (Nat.le_of_ble_eq_true rfl) dX5_learn_42 (fun H_3 locs_3 hO_3 => ?_)
      replace hf := zl_some hf
      obtain ⟨X_2, hX_2, hf⟩ := hf
      have hQ_3 := zo_eq hX_2 hO_3
      clear hO_3 hO
      obtain rfl := Option.some.inj hf
      exact e_v hx hb hr hK hN hQ_3 hlocks dX5_learn_45
    · rw [if_neg c_1] at hf
      refine lv_aload_n hx hb dX5_learn_19 rfl (lv_at hl 0 rfl) ?_
      refine k_get (k := 0) (v := .ref (L 12)) hx hb hts in_X5_learn_X5 hown hK hO (by decide) rfl rfl (by decide) lk_X5_learn_f9 rfl dX5_learn_20 ?_
      refine lv_iload_n hx hb dX5_learn_23 rfl (lv_at hl 2 rfl) ?_
      refine lv_aload_n hx hb dX5_learn_24 rfl (lv_at hl 0 rfl) ?_
      refine lv_iload_n hx hb dX5_learn_25 rfl (lv_at hl 1 rfl) ?_
      refine lv_iload_n hx hb dX5_learn_26 rfl (lv_at hl 2 rfl) ?_
      replace hf := zi_some hf
      obtain ⟨r_5, X_4, hc_4, hf⟩ := hf
      refine k_ai (va_runV (As := [.int x1, .int x2]) (rest := [.int x2, .ref (L 12)]) ⟨hx, hb, hml, hown, hts⟩ (mX5_nimbersBehind l D L ac hL _ x1 x2 _ _ hc_4) (cwV 2 hts gX5_learn_X5_nimbersBehind rfl rfl rfl (by decide +kernel) ⟨Nat.le_of_ble_eq_true rfl, Nat.le_of_ble_eq_true rfl⟩) (k_pv (j := 11) hK hN hO (by decide) rfl rfl _) rfl rfl hl.1 rfl (lv_room (Nat.le_of_ble_eq_true rfl)) dX5_learn_27 ⟨Nat.le_of_ble_eq_true rfl, Nat.le_of_ble_eq_true rfl⟩) hA hO (fun H_6 locs_6 hO_6 => ?_)
      clear hO
      replace hf := zi_some hf
      obtain ⟨r_8, X_7, hc_7, hf⟩ := hf
      refine k_ai (va_runS (As := [.int r_5]) (rest := [.int x2, .ref (L 12)]) ⟨hx, hb, hml, hown, hts⟩ (mX5_leastOutside l D L ac hL _ r_5 _ _ hc_7) (va_cwS 1 hts gX5_learn_X5_leastOutside rfl rfl rfl (by decide +kernel) ⟨Nat.le_of_ble_eq_true rfl, Nat.le_of_ble_eq_true rfl⟩) (k_ps hK hN hO_6 _) rfl rfl hl.1 rfl (lv_room (Nat.le_of_ble_eq_true rfl)) dX5_learn_30 ⟨Nat.le_of_ble_eq_true rfl, Nat.le_of_ble_eq_true rfl⟩) hA hO_6 (fun H_9 locs_9 hO_9 => ?_)
      clear hO_6
      replace hf := zd_some hf
      obtain ⟨hi_10, hf⟩ := hf
      refine k_iast hx hb hK hL hA hO_9 (by decide) (by decide) rfl (fun _ => rfl) hi_10 dX5_learn_33 (fun H_12 locs_12 hO_12 => ?_)
      replace hf := zl_some hf
      obtain ⟨X_11, hX_11, hf⟩ := hf
      have hQ_12 := zo_eq hX_11 hO_12
      clear hO_12 hO_9
      refine lv_iinc (v := x2 + 1) (lv' := [(2, .int (x2 + 1)), (0, .ref (L 11)), (1, .int x1)]) hx hb dX5_learn_34 hl (k := 2) rfl rfl (by decide) rfl (fun ls_13 hl_13 => ?_)
      clear hl
      refine lv_goto (tgt := 10) hx hb dX5_learn_37 (by decide) ?_
      exact ih _ _ _  _ _ _ hQ_12 (lv_sub hl_13 [1, 2, 0] rfl) hf
def fX5_learn  (a1 : Int32) (X : XM) : Option XM := if a1 = (X 18 0) then some X else fX5_learn_10 fuel a1 0 X
set_option maxHeartbeats 4000000 in
set_option maxRecDepth 100000 in
theorem mX5_learn (l : Launch) (D : va_G) (L : Nat → Nat) (ac : Nat → ClassId) (hL : LL L) (X : XM) (a1 : Int32) (X0 : XM) (hf : fX5_learn a1 X = some X0) : Cv l yX5_learn wsX5_learn ({ frames := 2, cells := 0, slots := 0, locals := 46 }) D L ac X [.ref (L 11), .int a1] X0 := by
  refine Met.ofK (cc := cX5_learn) (maxL := 3) (ret := none) (lv := [(0, .ref (L 11)), (1, .int a1)]) (by decide +kernel) rfl (Nat.le_of_ble_eq_true rfl) rfl ?_
  intro p e s m below meth c F hO ls hl
  obtain ⟨hx, hb, hr, hts, hown, hlocks, hml, hK, hN⟩ := id F
  have hA : ∀ q, fr L q → fr L q := fun q h => h
  unfold fX5_learn at hf
  refine lv_iload_n hx hb dX5_learn_0 rfl (lv_at hl 1 rfl) ?_
  refine lv_aload_n hx hb dX5_learn_1 rfl (lv_at hl 0 rfl) ?_
  refine k_get (k := 1) (v := .int (X 18 0)) hx hb hts in_X5_learn_X5 hown hK hO (by decide) rfl rfl (by decide) lk_X5_learn_f23 rfl dX5_learn_2 ?_
  refine lv_icmp_eq (tgt := 45) hx hb dX5_learn_5 (by decide) (fun c_14 => ?_) (fun c_14 => ?_)
  · rw [if_pos c_14] at hf
    obtain rfl := Option.some.inj hf
    exact e_v hx hb hr hK hN hO hlocks dX5_learn_45
  · rw [if_neg c_14] at hf
    refine lv_iconst (v := 0) hx hb dX5_learn_8 (by decide) ?_
    refine lv_istore_n (lv' := [(2, .int 0), (0, .ref (L 11)), (1, .int a1)]) hx hb dX5_learn_9 rfl hl (by decide) rfl (fun ls_15 hl_15 => ?_)
    clear hl
    exact wX5_learn_10 hL F  fuel _ _ _  _ _ _ hO (lv_sub hl_15 [1, 2, 0] rfl) hf
theorem in_X5_nimber_X5 : ∀ w ∈ u_ws RX5 TX5 2, w ∈ wsX5_nimber := by decide +kernel
theorem lk_X5_nimber_f9 : Cond.fieldLink RX5 9 "PoisonPiles$Sizes" "nimbers" "[I" ∈ wsX5_nimber := by decide +kernel
def fX5_nimber  (a1 : Int32) (a2 : Int32) (X : XM) : Option (Int32 × XM) := zv (fX5_learn a1 X) (fun X_1 => if a2 < 0 then some (0, X_1) else if 201 ≤ a2 then some (0, X_1) else zd a2 201 (some (X_1 19 (Int32.toNatClampNeg a2), X_1)))
set_option maxHeartbeats 4000000 in
set_option maxRecDepth 100000 in
theorem mX5_nimber (l : Launch) (D : va_G) (L : Nat → Nat) (ac : Nat → ClassId) (hL : LL L) (X : XM) (a1 : Int32) (a2 : Int32) (r0 : Int32) (X0 : XM) (hf : fX5_nimber a1 a2 X = some (r0, X0)) : Ci l yX5_nimber wsX5_nimber ({ frames := 3, cells := 0, slots := 0, locals := 68 }) D L ac X [.ref (L 11), .int a1, .int a2] r0 X0 := by
  refine Met.ofK (cc := cX5_nimber) (maxL := 3) (ret := (some .int)) (lv := [(0, .ref (L 11)), (1, .int a1), (2, .int a2)]) (by decide +kernel) rfl (Nat.le_of_ble_eq_true rfl) rfl ?_
  intro p e s m below meth c F hO ls hl
  obtain ⟨hx, hb, hr, hts, hown, hlocks, hml, hK, hN⟩ := id F
  have hA : ∀ q, fr L q → fr L q := fun q h => h
  unfold fX5_nimber at hf
  refine lv_aload_n hx hb dX5_nimber_0 rfl (lv_at hl 0 rfl) ?_
  refine lv_iload_n hx hb dX5_nimber_1 rfl (lv_at hl 1 rfl) ?_
  replace hf := zv_some hf
  obtain ⟨X_1, hc_1, hf⟩ := hf
  refine k_av (va_runV (As := [.int a1]) (rest := []) ⟨hx, hb, hml, hown, hts⟩ (mX5_learn l D L ac hL _ a1 _ hc_1) (cwV 1 hts gX5_nimber_X5_learn rfl rfl rfl (by decide +kernel) ⟨Nat.le_of_ble_eq_true rfl, Nat.le_of_ble_eq_true rfl⟩) (k_pv (j := 11) hK hN hO (by decide) rfl rfl _) rfl rfl hl.1 rfl (lv_room (Nat.le_of_ble_eq_true rfl)) dX5_nimber_2 ⟨Nat.le_of_ble_eq_true rfl, Nat.le_of_ble_eq_true rfl⟩) hA hO (fun H_2 locs_2 hO_2 => ?_)
  clear hO
  refine lv_iload_n hx hb dX5_nimber_5 rfl (lv_at hl 2 rfl) ?_
  refine lv_if_lt (tgt := 27) hx hb dX5_nimber_6 (by decide) (fun c_3 => ?_) (fun c_3 => ?_)
  · rw [if_pos c_3] at hf
    refine lv_iconst (v := 0) hx hb dX5_nimber_27 (by decide) ?_
    obtain ⟨rfl, rfl⟩ := Prod.mk.inj (Option.some.inj hf)
    exact e_i hx hb hr hK hN hO_2 hlocks dX5_nimber_28
  · rw [if_neg c_3] at hf
    refine lv_iload_n hx hb dX5_nimber_9 rfl (lv_at hl 2 rfl) ?_
    refine lv_aload_n hx hb dX5_nimber_10 rfl (lv_at hl 0 rfl) ?_
    refine k_get (k := 0) (v := .ref (L 12)) hx hb hts in_X5_nimber_X5 hown hK hO_2 (by decide) rfl rfl (by decide) lk_X5_nimber_f9 rfl dX5_nimber_11 ?_
    refine k_alen (v := 201) (t := 0) hx hb hK hO_2 (by decide) rfl rfl rfl dX5_nimber_14 ?_
    refine lv_icmp_ge (tgt := 27) hx hb dX5_nimber_15 (by decide) (fun c_4 => ?_) (fun c_4 => ?_)
    · rw [if_pos c_4] at hf
      refine lv_iconst (v := 0) hx hb dX5_nimber_27 (by decide) ?_
      obtain ⟨rfl, rfl⟩ := Prod.mk.inj (Option.some.inj hf)
      exact e_i hx hb hr hK hN hO_2 hlocks dX5_nimber_28
    · rw [if_neg c_4] at hf
      refine lv_aload_n hx hb dX5_nimber_18 rfl (lv_at hl 0 rfl) ?_
      refine k_get (k := 0) (v := .ref (L 12)) hx hb hts in_X5_nimber_X5 hown hK hO_2 (by decide) rfl rfl (by decide) lk_X5_nimber_f9 rfl dX5_nimber_19 ?_
      refine lv_iload_n hx hb dX5_nimber_22 rfl (lv_at hl 2 rfl) ?_
      replace hf := zd_some hf
      obtain ⟨hi_5, hf⟩ := hf
      refine k_iald hx hb hK hO_2 (by decide) (fun _ => rfl) hi_5 dX5_nimber_23 ?_
      refine lv_goto (tgt := 28) hx hb dX5_nimber_24 (by decide) ?_
      obtain ⟨rfl, rfl⟩ := Prod.mk.inj (Option.some.inj hf)
      exact e_i hx hb hr hK hN hO_2 hlocks dX5_nimber_28
