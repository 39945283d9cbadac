def fL_act  (a2 : Int32) (a3 : Int32) (X : XM) : Option (Int32 × XM) := zi (fX8_count 0 X) (fun r_2 X_1 => zi (fL_low (o_shr a2 4) (r_2 + 1) X_1) (fun r_5 X_4 => if (a2 &&& 15) = 0 then if ((o_shr a3 20) &&& 7) = 0 then zi (fL_low a3 7 X_4) (fun r_24 X_23 => zi (fL_low (o_shr a3 3) 11 X_23) (fun r_27 X_26 => if ((o_shr a3 7) &&& 3) = 0 then zi (fX8_pile r_24 r_27 1 X_26) (fun r_34 X_33 => some (r_34, X_33)) else zi (fX8_pile r_24 r_27 0 X_26) (fun r_31 X_30 => some (r_31, X_30)))) else zi (fL_low a3 6 X_4) (fun r_11 X_10 => zi (fL_low (o_shr a3 3) 11 X_10) (fun r_14 X_13 => if ((o_shr a3 7) &&& 3) = 0 then zi (fX8_pile r_11 r_14 1 X_13) (fun r_21 X_20 => some (r_21, X_20)) else zi (fX8_pile r_11 r_14 0 X_13) (fun r_18 X_17 => some (r_18, X_17)))) else (if (a2 &&& 15) = 1 then if ((o_shr a3 20) &&& 7) = 0 then zi (fL_low a3 7 X_4) (fun r_52 X_51 => zi (fL_low (o_shr a3 3) 11 X_51) (fun r_55 X_54 => if ((o_shr a3 7) &&& 3) = 0 then zi (fX8_pile r_52 r_55 1 X_54) (fun r_62 X_61 => some (r_62, X_61)) else zi (fX8_pile r_52 r_55 0 X_54) (fun r_59 X_58 => some (r_59, X_58)))) else zi (fL_low a3 6 X_4) (fun r_39 X_38 => zi (fL_low (o_shr a3 3) 11 X_38) (fun r_42 X_41 => if ((o_shr a3 7) &&& 3) = 0 then zi (fX8_pile r_39 r_42 1 X_41) (fun r_49 X_48 => some (r_49, X_48)) else zi (fX8_pile r_39 r_42 0 X_41) (fun r_46 X_45 => some (r_46, X_45)))) else (if (a2 &&& 15) = 2 then zi (fL_low a3 3 X_4) (fun r_66 X_65 => zi (fL_low (o_shr a3 2) 40 X_65) (fun r_69 X_68 => zi (fX8_set r_66 r_69 X_68) (fun r_72 X_71 => some (r_72, X_71)))) else (if (a2 &&& 15) = 3 then zi (fL_low a3 4 X_4) (fun r_76 X_75 => zi (fL_low (o_shr a3 2) 3 X_75) (fun r_79 X_78 => zi (fX8_passes r_76 r_79 X_78) (fun r_82 X_81 => some (r_82, X_81)))) else (if (a2 &&& 15) = 4 then zi (fX8_begin X_4) (fun r_86 X_85 => some (r_86, X_85)) else (if (a2 &&& 15) = 5 then zi (fX8_pass X_4) (fun r_90 X_89 => some (r_90, X_89)) else (if (a2 &&& 15) = 6 then zi (fX8_pass X_4) (fun r_94 X_93 => some (r_94, X_93)) else (if (a2 &&& 15) = 7 then if ((o_shr a3 20) &&& 1) = 0 then zi (fL_low a3 4 X_4) (fun r_105 X_104 => zi (fX8_play r_105 X_104) (fun r_108 X_107 => some (r_108, X_107))) else zi (fL_low a3 42 X_4) (fun r_99 X_98 => zi (fX8_play r_99 X_98) (fun r_102 X_101 => some (r_102, X_101))) else (if (a2 &&& 15) = 8 then zi (fX8_restore (a3 &&& 1) X_4) (fun r_112 X_111 => some (r_112, X_111)) else (zi (fL_low a3 5 X_4) (fun r_115 X_114 => zi (fX8_take r_5 r_115 X_114) (fun r_118 X_117 => some (r_118, X_117))))))))))))))
set_option maxHeartbeats 4000000 in
set_option maxRecDepth 100000 in
theorem mL_act (l : Launch) (D : va_G) (L : Nat → Nat) (ac : Nat → ClassId) (hL : LL L) (X : XM) (a2 : Int32) (a3 : Int32) (r0 : Int32) (X0 : XM) (hf : fL_act a2 a3 X = some (r0, X0)) : Ci l yL_act wsL_act ({ frames := 67, cells := 0, slots := 0, locals := 2026 }) D L ac X [.ref (L 0), .int a2, .int a3] r0 X0 := by
  refine Met.ofK (cc := cL_act) (maxL := 4) (ret := (some .int)) (lv := [(0, .ref (L 0)), (1, .int a2), (2, .int a3)]) (by decide +kernel) rfl (Nat.le_of_ble_eq_true rfl) rfl ?_
  intro p e s m below meth c F hO ls hl
  obtain ⟨hx, hb, hr, hts, hown, hlocks, hml, hK, hN⟩ := id F
  have hA : ∀ q, fr L q → fr L q := fun q h => h
  unfold fL_act at hf
  refine lv_iload_n hx hb dL_act_0 rfl (lv_at hl 1 rfl) ?_
  refine lv_iconst (v := 4) hx hb dL_act_1 (by decide) ?_
  refine lv_ishr hx hb dL_act_2 ?_
  refine lv_aload_n hx hb dL_act_3 rfl (lv_at hl 0 rfl) ?_
  refine lv_iconst (v := 0) hx hb dL_act_4 (by decide) ?_
  replace hf := zi_some hf
  obtain ⟨r_2, X_1, hc_1, hf⟩ := hf
  refine k_ai (va_runV (As := [.int 0]) (rest := [.int (o_shr a2 4)]) ⟨hx, hb, hml, hown, hts⟩ (mX8_count l D L ac hL _ 0 _ _ hc_1) (cwV 1 hts gL_act_X8_count rfl rfl rfl (by decide +kernel) ⟨Nat.le_of_ble_eq_true rfl, Nat.le_of_ble_eq_true rfl⟩) (k_pv (j := 0) hK hN hO (by decide) rfl rfl _) rfl rfl hl.1 rfl (lv_room (Nat.le_of_ble_eq_true rfl)) dL_act_5 ⟨Nat.le_of_ble_eq_true rfl, Nat.le_of_ble_eq_true rfl⟩) hA hO (fun H_3 locs_3 hO_3 => ?_)
  clear hO
  refine lv_iconst (v := 1) hx hb dL_act_8 (by decide) ?_
  refine lv_iadd hx hb dL_act_9 ?_
  replace hf := zi_some hf
  obtain ⟨r_5, X_4, hc_4, hf⟩ := hf
  refine k_ai (va_runS (As := [.int (o_shr a2 4), .int (r_2 + 1)]) (rest := []) ⟨hx, hb, hml, hown, hts⟩ (mL_low l D L ac hL _ (o_shr a2 4) (r_2 + 1) _ _ hc_4) (va_cwS 2 hts gL_act_L_low rfl rfl rfl (by decide +kernel) ⟨Nat.le_of_ble_eq_true rfl, Nat.le_of_ble_eq_true rfl⟩) (k_ps hK hN hO_3 _) rfl rfl hl.1 rfl (lv_room (Nat.le_of_ble_eq_true rfl)) dL_act_10 ⟨Nat.le_of_ble_eq_true rfl, Nat.le_of_ble_eq_true rfl⟩) hA hO_3 (fun H_6 locs_6 hO_6 => ?_)
  clear hO_3
  refine lv_istore_n (lv' := [(3, .int r_5), (0, .ref (L 0)), (1, .int a2), (2, .int a3)]) hx hb dL_act_13 rfl hl (by decide) rfl (fun ls_7 hl_7 => ?_)
  clear hl
  refine lv_iload_n hx hb dL_act_14 rfl (lv_at hl_7 2 rfl) ?_
  refine lv_bipush (v := 15) hx hb dL_act_15 (by decide) ?_
  refine lv_iand hx hb dL_act_17 ?_
  by_cases c_8 : (a2 &&& 15) = 0
  · rw [if_pos c_8] at hf
    refine k_tabIn (tgt := 68) (off := 50) hx hb c_8 dL_act_18 (by decide) (by decide) rfl (by decide) ?_
    refine lv_aload_n hx hb dL_act_68 rfl (lv_at hl_7 1 rfl) ?_
    refine lv_iload_n hx hb dL_act_69 rfl (lv_at hl_7 3 rfl) ?_
    refine lv_iload_n hx hb dL_act_70 rfl (lv_at hl_7 3 rfl) ?_
    refine lv_bipush (v := 20) hx hb dL_act_71 (by decide) ?_
    refine lv_ishr hx hb dL_act_73 ?_
    refine lv_bipush (v := 7) hx hb dL_act_74 (by decide) ?_
    refine lv_iand hx hb dL_act_76 ?_
    refine lv_if_ne (tgt := 85) hx hb dL_act_77 (by decide) (fun c_9 => ?_) (fun c_9 => ?_)
    · rw [if_neg c_9] at hf
      refine lv_bipush (v := 6) hx hb dL_act_85 (by decide) ?_
      replace hf := zi_some hf
      obtain ⟨r_11, X_10, hc_10, hf⟩ := hf
      refine k_ai (va_runS (As := [.int a3, .int 6]) (rest := [.ref (L 0)]) ⟨hx, hb, hml, hown, hts⟩ (mL_low l D L ac hL _ a3 6 _ _ hc_10) (va_cwS 2 hts gL_act_L_low rfl rfl rfl (by decide +kernel) ⟨Nat.le_of_ble_eq_true rfl, Nat.le_of_ble_eq_true rfl⟩) (k_ps hK hN hO_6 _) rfl rfl hl_7.1 rfl (lv_room (Nat.le_of_ble_eq_true rfl)) dL_act_87 ⟨Nat.le_of_ble_eq_true rfl, Nat.le_of_ble_eq_true rfl⟩) hA hO_6 (fun H_12 locs_12 hO_12 => ?_)
      clear hO_6
      refine lv_iload_n hx hb dL_act_90 rfl (lv_at hl_7 3 rfl) ?_
      refine lv_iconst (v := 3) hx hb dL_act_91 (by decide) ?_
      refine lv_ishr hx hb dL_act_92 ?_
      refine lv_bipush (v := 11) hx hb dL_act_93 (by decide) ?_
      replace hf := zi_some hf
      obtain ⟨r_14, X_13, hc_13, hf⟩ := hf
      refine k_ai (va_runS (As := [.int (o_shr a3 3), .int 11]) (rest := [.int r_11, .ref (L 0)]) ⟨hx, hb, hml, hown, hts⟩ (mL_low l D L ac hL _ (o_shr a3 3) 11 _ _ hc_13) (va_cwS 2 hts gL_act_L_low rfl rfl rfl (by decide +kernel) ⟨Nat.le_of_ble_eq_true rfl, Nat.le_of_ble_eq_true rfl⟩) (k_ps hK hN hO_12 _) rfl rfl hl_7.1 rfl (lv_room (Nat.le_of_ble_eq_true rfl)) dL_act_95 ⟨Nat.le_of_ble_eq_true rfl, Nat.le_of_ble_eq_true rfl⟩) hA hO_12 (fun H_15 locs_15 hO_15 => ?_)
      clear hO_12
      refine lv_iload_n hx hb dL_act_98 rfl (lv_at hl_7 3 rfl) ?_
      refine lv_bipush (v := 7) hx hb dL_act_99 (by decide) ?_
      refine lv_ishr hx hb dL_act_101 ?_
      refine lv_iconst (v := 3) hx hb dL_act_102 (by decide) ?_
      refine lv_iand hx hb dL_act_103 ?_
      refine lv_if_ne (tgt := 111) hx hb dL_act_104 (by decide) (fun c_16 => ?_) (fun c_16 => ?_)
      · rw [if_neg c_16] at hf
        refine lv_iconst (v := 0) hx hb dL_act_111 (by decide) ?_
        replace hf := zi_some hf
        obtain ⟨r_18, X_17, hc_17, hf⟩ := hf
        refine k_ai (va_runV (As := [.int r_11, .int r_14, .int 0]) (rest := []) ⟨hx, hb, hml, hown, hts⟩ (mX8_pile l D L ac hL _ r_11 r_14 0 _ _ hc_17) (cwV 3 hts gL_act_X8_pile rfl rfl rfl (by decide +kernel) ⟨Nat.le_of_ble_eq_true rfl, Nat.le_of_ble_eq_true rfl⟩) (k_pv (j := 0) hK hN hO_15 (by decide) rfl rfl _) rfl rfl hl_7.1 rfl (lv_room (Nat.le_of_ble_eq_true rfl)) dL_act_112 ⟨Nat.le_of_ble_eq_true rfl, Nat.le_of_ble_eq_true rfl⟩) hA hO_15 (fun H_19 locs_19 hO_19 => ?_)
        clear hO_15
        obtain ⟨rfl, rfl⟩ := Prod.mk.inj (Option.some.inj hf)
        exact e_i hx hb hr hK hN hO_19 hlocks dL_act_115
      · rw [if_pos c_16] at hf
        refine lv_iconst (v := 1) hx hb dL_act_107 (by decide) ?_
        refine lv_goto (tgt := 112) hx hb dL_act_108 (by decide) ?_
        replace hf := zi_some hf
        obtain ⟨r_21, X_20, hc_20, hf⟩ := hf
        refine k_ai (va_runV (As := [.int r_11, .int r_14, .int 1]) (rest := []) ⟨hx, hb, hml, hown, hts⟩ (mX8_pile l D L ac hL _ r_11 r_14 1 _ _ hc_20) (cwV 3 hts gL_act_X8_pile rfl rfl rfl (by decide +kernel) ⟨Nat.le_of_ble_eq_true rfl, Nat.le_of_ble_eq_true rfl⟩) (k_pv (j := 0) hK hN hO_15 (by decide) rfl rfl _) rfl rfl hl_7.1 rfl (lv_room (Nat.le_of_ble_eq_true rfl)) dL_act_112 ⟨Nat.le_of_ble_eq_true rfl, Nat.le_of_ble_eq_true rfl⟩) hA hO_15 (fun H_22 locs_22 hO_22 => ?_)
        clear hO_15
        obtain ⟨rfl, rfl⟩ := Prod.mk.inj (Option.some.inj hf)
        exact e_i hx hb hr hK hN hO_22 hlocks dL_act_115
    · rw [if_pos c_9] at hf
      refine lv_bipush (v := 7) hx hb dL_act_80 (by decide) ?_
      refine lv_goto (tgt := 87) hx hb dL_act_82 (by decide) ?_
      replace hf := zi_some hf
      obtain ⟨r_24, X_23, hc_23, hf⟩ := hf
      refine k_ai (va_runS (As := [.int a3, .int 7]) (rest := [.ref (L 0)]) ⟨hx, hb, hml, hown, hts⟩ (mL_low l D L ac hL _ a3 7 _ _ hc_23) (va_cwS 2 hts gL_act_L_low rfl rfl rfl (by decide +kernel) ⟨Nat.le_of_ble_eq_true rfl, Nat.le_of_ble_eq_true rfl⟩) (k_ps hK hN hO_6 _) rfl rfl hl_7.1 rfl (lv_room (Nat.le_of_ble_eq_true rfl)) dL_act_87 ⟨Nat.le_of_ble_eq_true rfl, Nat.le_of_ble_eq_true rfl⟩) hA hO_6 (fun H_25 locs_25 hO_25 => ?_)
      clear hO_6
      refine lv_iload_n hx hb dL_act_90 rfl (lv_at hl_7 3 rfl) ?_
      refine lv_iconst (v := 3) hx hb dL_act_91 (by decide) ?_
      refine lv_ishr hx hb dL_act_92 ?_
      refine lv_bipush (v := 11) hx hb dL_act_93 (by decide) ?_
      replace hf := zi_some hf
      obtain ⟨r_27, X_26, hc_26, hf⟩ := hf
      refine k_ai (va_runS (As := [.int (o_shr a3 3), .int 11]) (rest := [.int r_24, .ref (L 0)]) ⟨hx, hb, hml, hown, hts⟩ (mL_low l D L ac hL _ (o_shr a3 3) 11 _ _ hc_26) (va_cwS 2 hts gL_act_L_low rfl rfl rfl (by decide +kernel) ⟨Nat.le_of_ble_eq_true rfl, Nat.le_of_ble_eq_true rfl⟩) (k_ps hK hN hO_25 _) rfl rfl hl_7.1 rfl (lv_room (Nat.le_of_ble_eq_true rfl)) dL_act_95 ⟨Nat.le_of_ble_eq_true rfl, Nat.le_of_ble_eq_true rfl⟩) hA hO_25 (fun H_28 locs_28 hO_28 => ?_)
      clear hO_25
      refine lv_iload_n hx hb dL_act_98 rfl (lv_at hl_7 3 rfl) ?_
      refine lv_bipush (v := 7) hx hb dL_act_99 (by decide) ?_
      refine lv_ishr hx hb dL_act_101 ?_
      refine lv_iconst (v := 3) hx hb dL_act_102 (by decide) ?_
      refine lv_iand hx hb dL_act_103 ?_
      refine lv_if_ne (tgt := 111) hx hb dL_act_104 (by decide) (fun c_29 => ?_) (fun c_29 => ?_)
      · rw [if_neg c_29] at hf
        refine lv_iconst (v := 0) hx hb dL_act_111 (by decide) ?_
        replace hf := zi_some hf
        obtain ⟨r_31, X_30, hc_30, hf⟩ := hf
        refine k_ai (va_runV (As := [.int r_24, .int r_27, .int 0]) (rest := []) ⟨hx, hb, hml, hown, hts⟩ (mX8_pile l D L ac hL _ r_24 r_27 0 _ _ hc_30) (cwV 3 hts gL_act_X8_pile rfl rfl rfl (by decide +kernel) ⟨Nat.le_of_ble_eq_true rfl, Nat.le_of_ble_eq_true rfl⟩) (k_pv (j := 0) hK hN hO_28 (by decide) rfl rfl _) rfl rfl hl_7.1 rfl (lv_room (Nat.le_of_ble_eq_true rfl)) dL_act_112 ⟨Nat.le_of_ble_eq_true rfl, Nat.le_of_ble_eq_true rfl⟩) hA hO_28 (fun H_32 locs_32 hO_32 => ?_)
        clear hO_28
        obtain ⟨rfl, rfl⟩ := Prod.mk.inj (Option.some.inj hf)
        exact e_i hx hb hr hK hN hO_32 hlocks dL_act_115
      · rw [if_pos c_29] at hf
        refine lv_iconst (v := 1) hx hb dL_act_107 (by decide) ?_
        refine lv_goto (tgt := 112) hx hb dL_act_108 (by decide) ?_
        replace hf := zi_some hf
        obtain ⟨r_34, X_33, hc_33, hf⟩ := hf
        refine k_ai (va_runV (As := [.int r_24, .int r_27, .int 1]) (rest := []) ⟨hx, hb, hml, hown, hts⟩ (mX8_pile l D L ac hL _ r_24 r_27 1 _ _ hc_33) (cwV 3 hts gL_act_X8_pile rfl rfl rfl (by decide +kernel) ⟨Nat.le_of_ble_eq_true rfl, Nat.le_of_ble_eq_true rfl⟩) (k_pv (j := 0) hK hN hO_28 (by decide) rfl rfl _) rfl rfl hl_7.1 rfl (lv_room (Nat.le_of_ble_eq_true rfl)) dL_act_112 ⟨Nat.le_of_ble_eq_true rfl, Nat.le_of_ble_eq_true rfl⟩) hA hO_28 (fun H_35 locs_35 hO_35 => ?_)
        clear hO_28
        obtain ⟨rfl, rfl⟩ := Prod.mk.inj (Option.some.inj hf)
        exact e_i hx hb hr hK hN hO_35 hlocks dL_act_115
  · rw [if_neg c_8] at hf
    by_cases c_36 : (a2 &&& 15) = 1
    · rw [if_pos c_36] at hf
      refine k_tabIn (tgt := 68) (off := 50) hx hb c_36 dL_act_18 (by decide) (by decide) rfl (by decide) ?_
      refine lv_aload_n hx hb dL_act_68 rfl (lv_at hl_7 1 rfl) ?_
      refine lv_iload_n hx hb dL_act_69 rfl (lv_at hl_7 3 rfl) ?_
      refine lv_iload_n hx hb dL_act_70 rfl (lv_at hl_7 3 rfl) ?_
      refine lv_bipush (v := 20) hx hb dL_act_71 (by decide) ?_
      refine lv_ishr hx hb dL_act_73 ?_
      refine lv_bipush (v := 7) hx hb dL_act_74 (by decide) ?_
      refine lv_iand hx hb dL_act_76 ?_
      refine lv_if_ne (tgt := 85) hx hb dL_act_77 (by decide) (fun c_37 => ?_) (fun c_37 => ?_)
      · rw [if_neg c_37] at hf
        refine lv_bipush (v := 6) hx hb dL_act_85 (by decide) ?_
        replace hf := zi_some hf
        obtain ⟨r_39, X_38, hc_38, hf⟩ := hf
        refine k_ai (va_runS (As := [.int a3, .int 6]) (rest := [.ref (L 0)]) ⟨hx, hb, hml, hown, hts⟩ (mL_low l D L ac hL _ a3 6 _ _ hc_38) (va_cwS 2 hts gL_act_L_low rfl rfl rfl (by decide +kernel) ⟨Nat.le_of_ble_eq_true rfl, Nat.le_of_ble_eq_true rfl⟩) (k_ps hK hN hO_6 _) rfl rfl hl_7.1 rfl (lv_room (Nat.le_of_ble_eq_true rfl)) dL_act_87 ⟨Nat.le_of_ble_eq_true rfl, Nat.le_of_ble_eq_true rfl⟩) hA hO_6 (fun H_40 locs_40 hO_40 => ?_)
        clear hO_6
        refine lv_iload_n hx hb dL_act_90 rfl (lv_at hl_7 3 rfl) ?_
        refine lv_iconst (v := 3) hx hb dL_act_91 (by decide) ?_
        refine lv_ishr hx hb dL_act_92 ?_
        refine lv_bipush (v := 11) hx hb dL_act_93 (by decide) ?_
        replace hf := zi_some hf
        obtain ⟨r_42, X_41, hc_41, hf⟩ := hf
        refine k_ai (va_runS (As := [.int (o_shr a3 3), .int 11]) (rest := [.int r_39, .ref (L 0)]) ⟨hx, hb, hml, hown, hts⟩ (mL_low l D L ac hL _ (o_shr a3 3) 11 _ _ hc_41) (va_cwS 2 hts gL_act_L_low rfl rfl rfl (by decide +kernel) ⟨Nat.le_of_ble_eq_true rfl, Nat.le_of_ble_eq_true rfl⟩) (k_ps hK hN hO_40 _) rfl rfl hl_7.1 rfl (lv_room (Nat.le_of_ble_eq_true rfl)) dL_act_95 ⟨Nat.le_of_ble_eq_true rfl, Nat.le_of_ble_eq_true rfl⟩) hA hO_40 (fun H_43 locs_43 hO_43 => ?_)
        clear hO_40
        refine lv_iload_n hx hb dL_act_98 rfl (lv_at hl_7 3 rfl) ?_
        refine lv_bipush (v := 7) hx hb dL_act_99 (by decide) ?_
        refine lv_ishr hx hb dL_act_101 ?_
        refine lv_iconst (v := 3) hx hb dL_act_102 (by decide) ?_
        refine lv_iand hx hb dL_act_103 ?_
        refine lv_if_ne (tgt := 111) hx hb dL_act_104 (by decide) (fun c_44 => ?_) (fun c_44 => ?_)
        · rw [if_neg c_44] at hf
          refine lv_iconst (v := 0) hx hb dL_act_111 (by decide) ?_
          replace hf := zi_some hf
          obtain ⟨r_46, X_45, hc_45, hf⟩ := hf
          refine k_ai (va_runV (As := [.int r_39, .int r_42, .int 0]) (rest := []) ⟨hx, hb, hml, hown, hts⟩ (mX8_pile l D L ac hL _ r_39 r_42 0 _ _ hc_45) (cwV 3 hts gL_act_X8_pile rfl rfl rfl (by decide +kernel) ⟨Nat.le_of_ble_eq_true rfl, Nat.le_of_ble_eq_true rfl⟩) (k_pv (j := 0) hK hN hO_43 (by decide) rfl rfl _) rfl rfl hl_7.1 rfl (lv_room (Nat.le_of_ble_eq_true rfl)) dL_act_112 ⟨Nat.le_of_ble_eq_true rfl, Nat.le_of_ble_eq_true rfl⟩) hA hO_43 (fun H_47 locs_47 hO_47 => ?_)
          clear hO_43
          obtain ⟨rfl, rfl⟩ := Prod.mk.inj (Option.some.inj hf)
          exact e_i hx hb hr hK hN hO_47 hlocks dL_act_115
        · rw [if_pos c_44] at hf
          refine lv_iconst (v := 1) hx hb dL_act_107 (by decide) ?_
          refine lv_goto (tgt := 112) hx hb dL_act_108 (by decide) ?_
          replace hf := zi_some hf
          obtain ⟨r_49, X_48, hc_48, hf⟩ := hf
          refine k_ai (va_runV (As := [.int r_39, .int r_42, .int 1]) (rest := []) ⟨hx, hb, hml, hown, hts⟩ (mX8_pile l D L ac hL _ r_39 r_42 1 _ _ hc_48) (cwV 3 hts gL_act_X8_pile rfl rfl rfl (by decide +kernel) ⟨Nat.le_of_ble_eq_true rfl, Nat.le_of_ble_eq_true rfl⟩) (k_pv (j := 0) hK hN hO_43 (by decide) rfl rfl _) rfl rfl hl_7.1 rfl (lv_room (Nat.le_of_ble_eq_true rfl)) dL_act_112 ⟨Nat.le_of_ble_eq_true rfl, Nat.le_of_ble_eq_true rfl⟩) hA hO_43 (fun H_50 locs_50 hO_50 => ?_)
          clear hO_43
          obtain ⟨rfl, rfl⟩ := Prod.mk.inj (Option.some.inj hf)
          exact e_i hx hb hr hK hN hO_50 hlocks dL_act_115
      · rw [if_pos c_37] at hf
        refine lv_bipush (v := 7) hx hb dL_act_80 (by decide) ?_
        refine lv_goto (tgt := 87) hx hb dL_act_82 (by decide) ?_
        replace hf := zi_some hf
        obtain ⟨r_52, X_51, hc_51, hf⟩ := hf
        refine k_ai (va_runS (As := [.int a3, .int 7]) (rest := [.ref (L 0)]) ⟨hx, hb, hml, hown, hts⟩ (mL_low l D L ac hL _ a3 7 _ _ hc_51) (va_cwS 2 hts gL_act_L_low rfl rfl rfl (by decide +kernel) ⟨Nat.le_of_ble_eq_true rfl, Nat.le_of_ble_eq_true rfl⟩) (k_ps hK hN hO_6 _) rfl rfl hl_7.1 rfl (lv_room (Nat.le_of_ble_eq_true rfl)) dL_act_87 ⟨Nat.le_of_ble_eq_true rfl, Nat.le_of_ble_eq_true rfl⟩) hA hO_6 (fun H_53 locs_53 hO_53 => ?_)
        clear hO_6
        refine lv_iload_n hx hb dL_act_90 rfl (lv_at hl_7 3 rfl) ?_
        refine lv_iconst (v := 3) hx hb dL_act_91 (by decide) ?_
        refine lv_ishr hx hb dL_act_92 ?_
        refine lv_bipush (v := 11) hx hb dL_act_93 (by decide) ?_
        replace hf := zi_some hf
        obtain ⟨r_55, X_54, hc_54, hf⟩ := hf
        refine k_ai (va_runS (As := [.int (o_shr a3 3), .int 11]) (rest := [.int r_52, .ref (L 0)]) ⟨hx, hb, hml, hown, hts⟩ (mL_low l D L ac hL _ (o_shr a3 3) 11 _ _ hc_54) (va_cwS 2 hts gL_act_L_low rfl rfl rfl (by decide +kernel) ⟨Nat.le_of_ble_eq_true rfl, Nat.le_of_ble_eq_true rfl⟩) (k_ps hK hN hO_53 _) rfl rfl hl_7.1 rfl (lv_room (Nat.le_of_ble_eq_true rfl)) dL_act_95 ⟨Nat.le_of_ble_eq_true rfl, Nat.le_of_ble_eq_true rfl⟩) hA hO_53 (fun H_56 locs_56 hO_56 => ?_)
        clear hO_53
        refine lv_iload_n hx hb dL_act_98 rfl (lv_at hl_7 3 rfl) ?_
        refine lv_bipush (v := 7) hx hb dL_act_99 (by decide) ?_
        refine lv_ishr hx hb dL_act_101 ?_
        refine lv_iconst (v := 3) hx hb dL_act_102 (by decide) ?_
        refine lv_iand hx hb dL_act_103 ?_
        refine lv_if_ne (tgt := 111) hx hb dL_act_104 (by decide) (fun c_57 => ?_) (fun c_57 => ?_)
        · rw [if_neg c_57] at hf
          refine lv_iconst (v := 0) hx hb dL_act_111 (by decide) ?_
          replace hf := zi_some hf
          obtain ⟨r_59, X_58, hc_58, hf⟩ := hf
          refine k_ai (va_runV (As := [.int r_52, .int r_55, .int 0]) (rest := []) ⟨hx, hb, hml, hown, hts⟩ (mX8_pile l D L ac hL _ r_52 r_55 0 _ _ hc_58) (cwV 3 hts gL_act_X8_pile rfl rfl rfl (by decide +kernel) ⟨Nat.le_of_ble_eq_true rfl, Nat.le_of_ble_eq_true rfl⟩) (k_pv (j := 0) hK hN hO_56 (by decide) rfl rfl _) rfl rfl hl_7.1 rfl (lv_room (Nat.le_of_ble_eq_true rfl)) dL_act_112 ⟨Nat.le_of_ble_eq_true rfl, Nat.le_of_ble_eq_true rfl⟩) hA hO_56 (fun H_60 locs_60 hO_60 => ?_)
          clear hO_56
          obtain ⟨rfl, rfl⟩ := Prod.mk.inj (Option.some.inj hf)
          exact e_i hx hb hr hK hN hO_60 hlocks dL_act_115
        · rw [if_pos c_57] at hf
          refine lv_iconst (v := 1) hx hb dL_act_107 (by decide) ?_
          refine lv_goto (tgt := 112) hx hb dL_act_108 (by decide) ?_
          replace hf := zi_some hf
          obtain ⟨r_62, X_61, hc_61, hf⟩ := hf
          refine k_ai (va_runV (As := [.int r_52, .int r_55, .int 1]) (rest := []) ⟨hx, hb, hml, hown, hts⟩ (mX8_pile l D L ac hL _ r_52 r_55 1 _ _ hc_61) (cwV 3 hts gL_act_X8_pile rfl rfl rfl (by decide +kernel) ⟨Nat.le_of_ble_eq_true rfl, Nat.le_of_ble_eq_true rfl⟩) (k_pv (j := 0) hK hN hO_56 (by decide) rfl rfl _) rfl rfl hl_7.1 rfl (lv_room (Nat.le_of_ble_eq_true rfl)) dL_act_112 ⟨Nat.le_of_ble_eq_true rfl, Nat.le_of_ble_eq_true rfl⟩) hA hO_56 (fun H_63 locs_63 hO_63 => ?_)
          clear hO_56
          obtain ⟨rfl, rfl⟩ := Prod.mk.inj (Option.some.inj hf)
          exact e_i hx hb hr hK hN hO_63 hlocks dL_act_115
    · rw [if_neg c_36] at hf
      by_cases c_64 : (a2 &&& 15) = 2
      · rw [if_pos c_64] at hf
        refine k_tabIn (tgt := 116) (off := 98) hx hb c_64 dL_act_18 (by decide) (by decide) rfl (by decide) ?_
        refine lv_aload_n hx hb dL_act_116 rfl (lv_at hl_7 1 rfl) ?_
        refine lv_iload_n hx hb dL_act_117 rfl (lv_at hl_7 3 rfl) ?_
        refine lv_iconst (v := 3) hx hb dL_act_118 (by decide) ?_
        replace hf := zi_some hf
        obtain ⟨r_66, X_65, hc_65, hf⟩ := hf
        refine k_ai (va_runS (As := [.int a3, .int 3]) (rest := [.ref (L 0)]) ⟨hx, hb, hml, hown, hts⟩ (mL_low l D L ac hL _ a3 3 _ _ hc_65) (va_cwS 2 hts gL_act_L_low rfl rfl rfl (by decide +kernel) ⟨Nat.le_of_ble_eq_true rfl, Nat.le_of_ble_eq_true rfl⟩) (k_ps hK hN hO_6 _) rfl rfl hl_7.1 rfl (lv_room (Nat.le_of_ble_eq_true rfl)) dL_act_119 ⟨Nat.le_of_ble_eq_true rfl, Nat.le_of_ble_eq_true rfl⟩) hA hO_6 (fun H_67 locs_67 hO_67 => ?_)
        clear hO_6
        refine lv_iload_n hx hb dL_act_122 rfl (lv_at hl_7 3 rfl) ?_
        refine lv_iconst (v := 2) hx hb dL_act_123 (by decide) ?_
        refine lv_ishr hx hb dL_act_124 ?_
        refine lv_bipush (v := 40) hx hb dL_act_125 (by decide) ?_
        replace hf := zi_some hf
        obtain ⟨r_69, X_68, hc_68, hf⟩ := hf
        refine k_ai (va_runS (As := [.int (o_shr a3 2), .int 40]) (rest := [.int r_66, .ref (L 0)]) ⟨hx, hb, hml, hown, hts⟩ (mL_low l D L ac hL _ (o_shr a3 2) 40 _ _ hc_68) (va_cwS 2 hts gL_act_L_low rfl rfl rfl (by decide +kernel) ⟨Nat.le_of_ble_eq_true rfl, Nat.le_of_ble_eq_true rfl⟩) (k_ps hK hN hO_67 _) rfl rfl hl_7.1 rfl (lv_room (Nat.le_of_ble_eq_true rfl)) dL_act_127 ⟨Nat.le_of_ble_eq_true rfl, Nat.le_of_ble_eq_true rfl⟩) hA hO_67 (fun H_70 locs_70 hO_70 => ?_)
        clear hO_67
        replace hf := zi_some hf
        obtain ⟨r_72, X_71, hc_71, hf⟩ := hf
        refine k_ai (va_runV (As := [.int r_66, .int r_69]) (rest := []) ⟨hx, hb, hml, hown, hts⟩ (mX8_set l D L ac hL _ r_66 r_69 _ _ hc_71) (cwV 2 hts gL_act_X8_set rfl rfl rfl (by decide +kernel) ⟨Nat.le_of_ble_eq_true rfl, Nat.le_of_ble_eq_true rfl⟩) (k_pv (j := 0) hK hN hO_70 (by decide) rfl rfl _) rfl rfl hl_7.1 rfl (lv_room (Nat.le_of_ble_eq_true rfl)) dL_act_130 ⟨Nat.le_of_ble_eq_true rfl, Nat.le_of_ble_eq_true rfl⟩) hA hO_70 (fun H_73 locs_73 hO_73 => ?_)
        clear hO_70
        obtain ⟨rfl, rfl⟩ := Prod.mk.inj (Option.some.inj hf)
        exact e_i hx hb hr hK hN hO_73 hlocks dL_act_133
      · rw [if_neg c_64] at hf
        by_cases c_74 : (a2 &&& 15) = 3
        · rw [if_pos c_74] at hf
          refine k_tabIn (tgt := 134) (off := 116) hx hb c_74 dL_act_18 (by decide) (by decide) rfl (by decide) ?_
          refine lv_aload_n hx hb dL_act_134 rfl (lv_at hl_7 1 rfl) ?_
          refine lv_iload_n hx hb dL_act_135 rfl (lv_at hl_7 3 rfl) ?_
          refine lv_iconst (v := 4) hx hb dL_act_136 (by decide) ?_
          replace hf := zi_some hf
          obtain ⟨r_76, X_75, hc_75, hf⟩ := hf
          refine k_ai (va_runS (As := [.int a3, .int 4]) (rest := [.ref (L 0)]) ⟨hx, hb, hml, hown, hts⟩ (mL_low l D L ac hL _ a3 4 _ _ hc_75) (va_cwS 2 hts gL_act_L_low rfl rfl rfl (by decide +kernel) ⟨Nat.le_of_ble_eq_true rfl, Nat.le_of_ble_eq_true rfl⟩) (k_ps hK hN hO_6 _) rfl rfl hl_7.1 rfl (lv_room (Nat.le_of_ble_eq_true rfl)) dL_act_137 ⟨Nat.le_of_ble_eq_true rfl, Nat.le_of_ble_eq_true rfl⟩) hA hO_6 (fun H_77 locs_77 hO_77 => ?_)
          clear hO_6
          refine lv_iload_n hx hb dL_act_140 rfl (lv_at hl_7 3 rfl) ?_
          refine lv_iconst (v := 2) hx hb dL_act_141 (by decide) ?_
          refine lv_ishr hx hb dL_act_142 ?_
          refine lv_iconst (v := 3) hx hb dL_act_143 (by decide) ?_
          replace hf := zi_some hf
          obtain ⟨r_79, X_78, hc_78, hf⟩ := hf
          refine k_ai (va_runS (As := [.int (o_shr a3 2), .int 3]) (rest := [.int r_76, .ref (L 0)]) ⟨hx, hb, hml, hown, hts⟩ (mL_low l D L ac hL _ (o_shr a3 2) 3 _ _ hc_78) (va_cwS 2 hts gL_act_L_low rfl rfl rfl (by decide +kernel) ⟨Nat.le_of_ble_eq_true rfl, Nat.le_of_ble_eq_true rfl⟩) (k_ps hK hN hO_77 _) rfl rfl hl_7.1 rfl (lv_room (Nat.le_of_ble_eq_true rfl)) dL_act_144 ⟨Nat.le_of_ble_eq_true rfl, Nat.le_of_ble_eq_true rfl⟩) hA hO_77 (fun H_80 locs_80 hO_80 => ?_)
          clear hO_77
          replace hf := zi_some hf
          obtain ⟨r_82, X_81, hc_81, hf⟩ := hf
          refine k_ai (va_runV (As := [.int r_76, .int r_79]) (rest := []) ⟨hx, hb, hml, hown, hts⟩ (mX8_passes l D L ac hL _ r_76 r_79 _ _ hc_81) (cwV 2 hts gL_act_X8_passes rfl rfl rfl (by decide +kernel) ⟨Nat.le_of_ble_eq_true rfl, Nat.le_of_ble_eq_true rfl⟩) (k_pv (j := 0) hK hN hO_80 (by decide) rfl rfl _) rfl rfl hl_7.1 rfl (lv_room (Nat.le_of_ble_eq_true rfl)) dL_act_147 ⟨Nat.le_of_ble_eq_true rfl, Nat.le_of_ble_eq_true rfl⟩) hA hO_80 (fun H_83 locs_83 hO_83 => ?_)
          clear hO_80
          obtain ⟨rfl, rfl⟩ := Prod.mk.inj (Option.some.inj hf)
          exact e_i hx hb hr hK hN hO_83 hlocks dL_act_150
        · rw [if_neg c_74] at hf
          by_cases c_84 : (a2 &&& 15) = 4
          · rw [if_pos c_84] at hf
            refine k_tabIn (tgt := 151) (off := 133) hx hb c_84 dL_act_18 (by decide) (by decide) rfl (by decide) ?_
            refine lv_aload_n hx hb dL_act_151 rfl (lv_at hl_7 1 rfl) ?_
            replace hf := zi_some hf
            obtain ⟨r_86, X_85, hc_85, hf⟩ := hf
            refine k_ai (va_runV (As := []) (rest := []) ⟨hx, hb, hml, hown, hts⟩ (mX8_begin l D L ac hL _  _ _ hc_85) (cwV 0 hts gL_act_X8_begin rfl rfl rfl (by decide +kernel) ⟨Nat.le_of_ble_eq_true rfl, Nat.le_of_ble_eq_true rfl⟩) (k_pv (j := 0) hK hN hO_6 (by decide) rfl rfl _) rfl rfl hl_7.1 rfl (lv_room (Nat.le_of_ble_eq_true rfl)) dL_act_152 ⟨Nat.le_of_ble_eq_true rfl, Nat.le_of_ble_eq_true rfl⟩) hA hO_6 (fun H_87 locs_87 hO_87 => ?_)
            clear hO_6
            obtain ⟨rfl, rfl⟩ := Prod.mk.inj (Option.some.inj hf)
            exact e_i hx hb hr hK hN hO_87 hlocks dL_act_155
          · rw [if_neg c_84] at hf
            by_cases c_88 : (a2 &&& 15) = 5
            · rw [if_pos c_88] at hf
              refine k_tabIn (tgt := 156) (off := 138) hx hb c_88 dL_act_18 (by decide) (by decide) rfl (by decide) ?_
              refine lv_aload_n hx hb dL_act_156 rfl (lv_at hl_7 1 rfl) ?_
              replace hf := zi_some hf
              obtain ⟨r_90, X_89, hc_89, hf⟩ := hf
              refine k_ai (va_runV (As := []) (rest := []) ⟨hx, hb, hml, hown, hts⟩ (mX8_pass l D L ac hL _  _ _ hc_89) (cwV 0 hts gL_act_X8_pass rfl rfl rfl (by decide +kernel) ⟨Nat.le_of_ble_eq_true rfl, Nat.le_of_ble_eq_true rfl⟩) (k_pv (j := 0) hK hN hO_6 (by decide) rfl rfl _) rfl rfl hl_7.1 rfl (lv_room (Nat.le_of_ble_eq_true rfl)) dL_act_157 ⟨Nat.le_of_ble_eq_true rfl, Nat.le_of_ble_eq_true rfl⟩) hA hO_6 (fun H_91 locs_91 hO_91 => ?_)
              clear hO_6
              obtain ⟨rfl, rfl⟩ := Prod.mk.inj (Option.some.inj hf)
              exact e_i hx hb hr hK hN hO_91 hlocks dL_act_160
            · rw [if_neg c_88] at hf
              by_cases c_92 : (a2 &&& 15) = 6
              · rw [if_pos c_92] at hf
                refine k_tabIn (tgt := 156) (off := 138) hx hb c_92 dL_act_18 (by decide) (by decide) rfl (by decide) ?_
                refine lv_aload_n hx hb dL_act_156 rfl (lv_at hl_7 1 rfl) ?_
                replace hf := zi_some hf
                obtain ⟨r_94, X_93, hc_93, hf⟩ := hf
                refine k_ai (va_runV (As := []) (rest := []) ⟨hx, hb, hml, hown, hts⟩ (mX8_pass l D L ac hL _  _ _ hc_93) (cwV 0 hts gL_act_X8_pass rfl rfl rfl (by decide +kernel) ⟨Nat.le_of_ble_eq_true rfl, Nat.le_of_ble_eq_true rfl⟩) (k_pv (j := 0) hK hN hO_6 (by decide) rfl rfl _) rfl rfl hl_7.1 rfl (lv_room (Nat.le_of_ble_eq_true rfl)) dL_act_157 ⟨Nat.le_of_ble_eq_true rfl, Nat.le_of_ble_eq_true rfl⟩) hA hO_6 (fun H_95 locs_95 hO_95 => ?_)
                clear hO_6
                obtain ⟨rfl, rfl⟩ := Prod.mk.inj (Option.some.inj hf)
                exact e_i hx hb hr hK hN hO_95 hlocks dL_act_160
              · rw [if_neg c_92] at hf
                by_cases c_96 : (a2 &&& 15) = 7
                · rw [if_pos c_96] at hf
                  refine k_tabIn (tgt := 161) (off := 143) hx hb c_96 dL_act_18 (by decide) (by decide) rfl (by decide) ?_
                  refine lv_aload_n hx hb dL_act_161 rfl (lv_at hl_7 1 rfl) ?_
                  refine lv_iload_n hx hb dL_act_162 rfl (lv_at hl_7 3 rfl) ?_
                  refine lv_iload_n hx hb dL_act_163 rfl (lv_at hl_7 3 rfl) ?_
                  refine lv_bipush (v := 20) hx hb dL_act_164 (by decide) ?_
                  refine lv_ishr hx hb dL_act_166 ?_
                  refine lv_iconst (v := 1) hx hb dL_act_167 (by decide) ?_
                  refine lv_iand hx hb dL_act_168 ?_
                  refine lv_if_ne (tgt := 176) hx hb dL_act_169 (by decide) (fun c_97 => ?_) (fun c_97 => ?_)
                  · rw [if_neg c_97] at hf
                    refine lv_bipush (v := 42) hx hb dL_act_176 (by decide) ?_
                    replace hf := zi_some hf
                    obtain ⟨r_99, X_98, hc_98, hf⟩ := hf
                    refine k_ai (va_runS (As := [.int a3, .int 42]) (rest := [.ref (L 0)]) ⟨hx, hb, hml, hown, hts⟩ (mL_low l D L ac hL _ a3 42 _ _ hc_98) (va_cwS 2 hts gL_act_L_low rfl rfl rfl (by decide +kernel) ⟨Nat.le_of_ble_eq_true rfl, Nat.le_of_ble_eq_true rfl⟩) (k_ps hK hN hO_6 _) rfl rfl hl_7.1 rfl (lv_room (Nat.le_of_ble_eq_true rfl)) dL_act_178 ⟨Nat.le_of_ble_eq_true rfl, Nat.le_of_ble_eq_true rfl⟩) hA hO_6 (fun H_100 locs_100 hO_100 => ?_)
                    clear hO_6
                    replace hf := zi_some hf
                    obtain ⟨r_102, X_101, hc_101, hf⟩ := hf
                    refine k_ai (va_runV (As := [.int r_99]) (rest := []) ⟨hx, hb, hml, hown, hts⟩ (mX8_play l D L ac hL _ r_99 _ _ hc_101) (cwV 1 hts gL_act_X8_play rfl rfl rfl (by decide +kernel) ⟨Nat.le_of_ble_eq_true rfl, Nat.le_of_ble_eq_true rfl⟩) (k_pv (j := 0) hK hN hO_100 (by decide) rfl rfl _) rfl rfl hl_7.1 rfl (lv_room (Nat.le_of_ble_eq_true rfl)) dL_act_181 ⟨Nat.le_of_ble_eq_true rfl, Nat.le_of_ble_eq_true rfl⟩) hA hO_100 (fun H_103 locs_103 hO_103 => ?_)
                    clear hO_100
                    obtain ⟨rfl, rfl⟩ := Prod.mk.inj (Option.some.inj hf)
                    exact e_i hx hb hr hK hN hO_103 hlocks dL_act_184
                  · rw [if_pos c_97] at hf
                    refine lv_iconst (v := 4) hx hb dL_act_172 (by decide) ?_
                    refine lv_goto (tgt := 178) hx hb dL_act_173 (by decide) ?_
                    replace hf := zi_some hf
                    obtain ⟨r_105, X_104, hc_104, hf⟩ := hf
                    refine k_ai (va_runS (As := [.int a3, .int 4]) (rest := [.ref (L 0)]) ⟨hx, hb, hml, hown, hts⟩ (mL_low l D L ac hL _ a3 4 _ _ hc_104) (va_cwS 2 hts gL_act_L_low rfl rfl rfl (by decide +kernel) ⟨Nat.le_of_ble_eq_true rfl, Nat.le_of_ble_eq_true rfl⟩) (k_ps hK hN hO_6 _) rfl rfl hl_7.1 rfl (lv_room (Nat.le_of_ble_eq_true rfl)) dL_act_178 ⟨Nat.le_of_ble_eq_true rfl, Nat.le_of_ble_eq_true rfl⟩) hA hO_6 (fun H_106 locs_106 hO_106 => ?_)
                    clear hO_6
                    replace hf := zi_some hf
                    obtain ⟨r_108, X_107, hc_107, hf⟩ := hf
                    refine k_ai (va_runV (As := [.int r_105]) (rest := []) ⟨hx, hb, hml, hown, hts⟩ (mX8_play l D L ac hL _ r_105 _ _ hc_107) (cwV 1 hts gL_act_X8_play rfl rfl rfl (by decide +kernel) ⟨Nat.le_of_ble_eq_true rfl, Nat.le_of_ble_eq_true rfl⟩) (k_pv (j := 0) hK hN hO_106 (by decide) rfl rfl _) rfl rfl hl_7.1 rfl (lv_room (Nat.le_of_ble_eq_true rfl)) dL_act_181 ⟨Nat.le_of_ble_eq_true rfl, Nat.le_of_ble_eq_true rfl⟩) hA hO_106 (fun H_109 locs_109 hO_109 => ?_)
                    clear hO_106
                    obtain ⟨rfl, rfl⟩ := Prod.mk.inj (Option.some.inj hf)
                    exact e_i hx hb hr hK hN hO_109 hlocks dL_act_184
                · rw [if_neg c_96] at hf
                  by_cases c_110 : (a2 &&& 15) = 8
                  · rw [if_pos c_110] at hf
                    refine k_tabIn (tgt := 185) (off := 167) hx hb c_110 dL_act_18 (by decide) (by decide) rfl (by decide) ?_
                    refine lv_aload_n hx hb dL_act_185 rfl (lv_at hl_7 1 rfl) ?_
                    refine lv_iload_n hx hb dL_act_186 rfl (lv_at hl_7 3 rfl) ?_
                    refine lv_iconst (v := 1) hx hb dL_act_187 (by decide) ?_
                    refine lv_iand hx hb dL_act_188 ?_
                    replace hf := zi_some hf
                    obtain ⟨r_112, X_111, hc_111, hf⟩ := hf
                    refine k_ai (va_runV (As := [.int (a3 &&& 1)]) (rest := []) ⟨hx, hb, hml, hown, hts⟩ (mX8_restore l D L ac hL _ (a3 &&& 1) _ _ hc_111) (cwV 1 hts gL_act_X8_restore rfl rfl rfl (by decide +kernel) ⟨Nat.le_of_ble_eq_true rfl, Nat.le_of_ble_eq_true rfl⟩) (k_pv (j := 0) hK hN hO_6 (by decide) rfl rfl _) rfl rfl hl_7.1 rfl (lv_room (Nat.le_of_ble_eq_true rfl)) dL_act_189 ⟨Nat.le_of_ble_eq_true rfl, Nat.le_of_ble_eq_true rfl⟩) hA hO_6 (fun H_113 locs_113 hO_113 => ?_)
                    clear hO_6
                    obtain ⟨rfl, rfl⟩ := Prod.mk.inj (Option.some.inj hf)
                    exact e_i hx hb hr hK hN hO_113 hlocks dL_act_192
                  · rw [if_neg c_110] at hf
                    refine lv_tableOut (tgt := 193) hx hb dL_act_18 (tb_out 9 (by decide) (fun k hk => ?_)) (by decide) ?_
                    · match k, hk with
                      | 0, _ => exact c_8
                      | 1, _ => exact c_36
                      | 2, _ => exact c_64
                      | 3, _ => exact c_74
                      | 4, _ => exact c_84
                      | 5, _ => exact c_88
                      | 6, _ => exact c_92
                      | 7, _ => exact c_96
                      | 8, _ => exact c_110
                      | n + 9, hk => exact absurd hk (by omega)
                    refine lv_aload_n hx hb dL_act_193 rfl (lv_at hl_7 1 rfl) ?_
                    refine lv_iload_n hx hb dL_act_194 rfl (lv_at hl_7 0 rfl) ?_
                    refine lv_iload_n hx hb dL_act_195 rfl (lv_at hl_7 3 rfl) ?_
                    refine lv_iconst (v := 5) hx hb dL_act_196 (by decide) ?_
                    replace hf := zi_some hf
                    obtain ⟨r_115, X_114, hc_114, hf⟩ := hf
                    refine k_ai (va_runS (As := [.int a3, .int 5]) (rest := [.int r_5, .ref (L 0)]) ⟨hx, hb, hml, hown, hts⟩ (mL_low l D L ac hL _ a3 5 _ _ hc_114) (va_cwS 2 hts gL_act_L_low rfl rfl rfl (by decide +kernel) ⟨Nat.le_of_ble_eq_true rfl, Nat.le_of_ble_eq_true rfl⟩) (k_ps hK hN hO_6 _) rfl rfl hl_7.1 rfl (lv_room (Nat.le_of_ble_eq_true rfl)) dL_act_197 ⟨Nat.le_of_ble_eq_true rfl, Nat.le_of_ble_eq_true rfl⟩) hA hO_6 (fun H_116 locs_116 hO_116 => ?_)
                    clear hO_6
                    replace hf := zi_some hf
                    obtain ⟨r_118, X_117, hc_117, hf⟩ := hf
                    refine k_ai (va_runV (As := [.int r_5, .int r_115]) (rest := []) ⟨hx, hb, hml, hown, hts⟩ (mX8_take l D L ac hL _ r_5 r_115 _ _ hc_117) (cwV 2 hts gL_act_X8_take rfl rfl rfl (by decide +kernel) ⟨Nat.le_of_ble_eq_true rfl, Nat.le_of_ble_eq_true rfl⟩) (k_pv (j := 0) hK hN hO_116 (by decide) rfl rfl _) rfl rfl hl_7.1 rfl (lv_room (Nat.le_of_ble_eq_true rfl)) dL_act_200 ⟨Nat.le_of_ble_eq_true rfl, Nat.le_of_ble_eq_true rfl⟩) hA hO_116 (fun H_119 locs_119 hO_119 => ?_)
                    clear hO_116
                    obtain ⟨rfl, rfl⟩ := Prod.mk.inj (Option.some.inj hf)
                    exact e_i hx hb hr hK hN hO_119 hlocks dL_act_203
