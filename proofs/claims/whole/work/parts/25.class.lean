theorem nx_field_X8_96 : Cond.fieldLinkNest "PoisonPiles" 96 "PoisonPiles$Game" "piles" "[LPoisonPiles$Pile;" "PoisonPiles" ∈ nxW := List.mem_of_getElem? (i := 21) rfl
theorem nx_field_X8_116 : Cond.fieldLinkNest "PoisonPiles" 116 "PoisonPiles$Game" "takes" "I" "PoisonPiles" ∈ nxW := List.mem_of_getElem? (i := 17) rfl
theorem nx_field_X8_131 : Cond.fieldLinkNest "PoisonPiles" 131 "PoisonPiles$Player" "passesLeft" "I" "PoisonPiles" ∈ nxW := List.mem_of_getElem? (i := 4) rfl
theorem nx_field_X8_137 : Cond.fieldLinkNest "PoisonPiles" 137 "PoisonPiles$Game" "pileCount" "I" "PoisonPiles" ∈ nxW := List.mem_of_getElem? (i := 22) rfl
theorem nx_field_X8_140 : Cond.fieldLinkNest "PoisonPiles" 140 "PoisonPiles$Game" "mover" "I" "PoisonPiles" ∈ nxW := List.mem_of_getElem? (i := 26) rfl
theorem nx_field_X8_156 : Cond.fieldLinkNest "PoisonPiles" 156 "PoisonPiles$Game" "bonus" "I" "PoisonPiles" ∈ nxW := List.mem_of_getElem? (i := 19) rfl
theorem nx_field_X8_225 : Cond.fieldLinkNest "PoisonPiles" 225 "PoisonPiles$Game" "first" "LPoisonPiles$Player;" "PoisonPiles" ∈ nxW := List.mem_of_getElem? (i := 23) rfl
theorem nx_field_X8_229 : Cond.fieldLinkNest "PoisonPiles" 229 "PoisonPiles$Game" "second" "LPoisonPiles$Player;" "PoisonPiles" ∈ nxW := List.mem_of_getElem? (i := 24) rfl
theorem nx_method_X8_57 : Cond.methodLinkNest "PoisonPiles" 57 ⟨"PoisonPiles$Game", "copyFrom", "(LPoisonPiles$Game;)V"⟩ "PoisonPiles" ∈ nxW := List.mem_of_getElem? (i := 44) rfl
theorem nx_method_X8_92 : Cond.methodLinkNest "PoisonPiles" 92 ⟨"PoisonPiles$Game", "hasPile", "(I)Z"⟩ "PoisonPiles" ∈ nxW := List.mem_of_getElem? (i := 52) rfl
theorem nx_method_X8_143 : Cond.methodLinkNest "PoisonPiles" 143 ⟨"PoisonPiles$Game", "isOver", "()Z"⟩ "PoisonPiles" ∈ nxW := List.mem_of_getElem? (i := 58) rfl
theorem nx_method_X8_147 : Cond.methodLinkNest "PoisonPiles" 147 ⟨"PoisonPiles$Game", "winner", "()I"⟩ "PoisonPiles" ∈ nxW := List.mem_of_getElem? (i := 69) rfl
theorem nx_method_X8_165 : Cond.methodLinkNest "PoisonPiles" 165 ⟨"PoisonPiles$Game", "moveSet", "()I"⟩ "PoisonPiles" ∈ nxW := List.mem_of_getElem? (i := 70) rfl
theorem nx_method_X8_179 : Cond.methodLinkNest "PoisonPiles" 179 ⟨"PoisonPiles$Solver", "bestMove", "(LPoisonPiles$Game;)I"⟩ "PoisonPiles" ∈ nxW := List.mem_of_getElem? (i := 59) rfl
theorem nx_method_X8_218 : Cond.methodLinkNest "PoisonPiles" 218 ⟨"PoisonPiles$History", "add", "(LPoisonPiles$Game;)V"⟩ "PoisonPiles" ∈ nxW := List.mem_of_getElem? (i := 47) rfl
theorem nx_method_X8_221 : Cond.methodLinkNest "PoisonPiles" 221 ⟨"PoisonPiles$Pile", "fill", "(IIZ)V"⟩ "PoisonPiles" ∈ nxW := List.mem_of_getElem? (i := 49) rfl
theorem nx_method_X8_235 : Cond.methodLinkNest "PoisonPiles" 235 ⟨"PoisonPiles$Game", "allows", "(I)Z"⟩ "PoisonPiles" ∈ nxW := List.mem_of_getElem? (i := 53) rfl
theorem nx_method_X8_238 : Cond.methodLinkNest "PoisonPiles" 238 ⟨"PoisonPiles$Game", "takeFrom", "(II)I"⟩ "PoisonPiles" ∈ nxW := List.mem_of_getElem? (i := 56) rfl
theorem nx_method_X8_241 : Cond.methodLinkNest "PoisonPiles" 241 ⟨"PoisonPiles$Game", "usePass", "()I"⟩ "PoisonPiles" ∈ nxW := List.mem_of_getElem? (i := 57) rfl
theorem nx_method_X8_242 : Cond.methodLinkNest "PoisonPiles" 242 ⟨"PoisonPiles$Game", "make", "(I)V"⟩ "PoisonPiles" ∈ nxW := List.mem_of_getElem? (i := 64) rfl
theorem nx_method_X8_246 : Cond.methodLinkNest "PoisonPiles" 246 ⟨"PoisonPiles$Pad", "at", "(I)C"⟩ "PoisonPiles" ∈ nxW := List.mem_of_getElem? (i := 79) rfl
theorem nx_method_X8_253 : Cond.methodLinkNest "PoisonPiles" 253 ⟨"PoisonPiles$Pad", "digitAt", "(I)I"⟩ "PoisonPiles" ∈ nxW := List.mem_of_getElem? (i := 80) rfl
theorem in_X8_recorded_X8 : ∀ w ∈ u_ws RX8 TX8 8, w ∈ wsX8_recorded := by decide +kernel
theorem lk_X8_recorded_eX1_add : Cond.selects RX1 yX1_add yX1_add ∈ wsX8_recorded := by decide +kernel
theorem lk_X8_recorded_f16 : Cond.fieldLink RX8 16 "PoisonPiles" "before" "LPoisonPiles$Game;" ∈ wsX8_recorded := by decide +kernel
theorem lk_X8_recorded_f25 : Cond.fieldLink RX8 25 "PoisonPiles" "history" "LPoisonPiles$History;" ∈ wsX8_recorded := by decide +kernel
theorem lk_X8_recorded_iX1 : Cond.initialized RX1 ∈ wsX8_recorded := by decide +kernel
theorem lk_X8_recorded_mX1_add : Cond.instanceMethod yX1_add ∈ wsX8_recorded := by decide +kernel
def fX8_recorded  (a1 : Int32) (X : XM) : Option (Int32 × XM) := if a1 < 0 then some (a1, X) else zv (fX1_add 1 X) (fun X_2 => some (a1, X_2))
set_option maxHeartbeats 4000000 in
set_option maxRecDepth 100000 in
theorem mX8_recorded (l : Launch) (D : va_G) (L : Nat → Nat) (ac : Nat → ClassId) (hL : LL L) (X : XM) (a1 : Int32) (r0 : Int32) (X0 : XM) (hf : fX8_recorded a1 X = some (r0, X0)) : Ci l yX8_recorded wsX8_recorded ({ frames := 3, cells := 0, slots := 0, locals := 64 }) D L ac X [.ref (L 0), .int a1] r0 X0 := by
  refine Met.ofK (cc := cX8_recorded) (maxL := 2) (ret := (some .int)) (lv := [(0, .ref (L 0)), (1, .int a1)]) (by decide +kernel) rfl (Nat.le_of_ble_eq_true rfl) rfl ?_
  intro p e s m below meth c F hO ls hl
  obtain ⟨hx, hb, hr, hts, hown, hlocks, hml, hK, hN⟩ := id F
  have hA : ∀ q, fr L q → fr L q := fun q h => h
  unfold fX8_recorded at hf
  refine lv_iload_n hx hb dX8_recorded_0 rfl (lv_at hl 1 rfl) ?_
  refine lv_if_lt (tgt := 15) hx hb dX8_recorded_1 (by decide) (fun c_1 => ?_) (fun c_1 => ?_)
  · rw [if_pos c_1] at hf
    refine lv_iload_n hx hb dX8_recorded_15 rfl (lv_at hl 1 rfl) ?_
    obtain ⟨rfl, rfl⟩ := Prod.mk.inj (Option.some.inj hf)
    exact e_i hx hb hr hK hN hO hlocks dX8_recorded_16
  · rw [if_neg c_1] at hf
    refine lv_aload_n hx hb dX8_recorded_4 rfl (lv_at hl 0 rfl) ?_
    refine k_get (k := 3) (v := .ref (L 1)) hx hb hts in_X8_recorded_X8 hown hK hO (by decide) rfl rfl (by decide) lk_X8_recorded_f25 rfl dX8_recorded_5 ?_
    refine lv_aload_n hx hb dX8_recorded_8 rfl (lv_at hl 0 rfl) ?_
    refine k_get (k := 1) (v := .ref (L (aG 1))) hx hb hts in_X8_recorded_X8 hown hK hO (by decide) rfl rfl (by decide) lk_X8_recorded_f16 rfl dX8_recorded_9 ?_
    replace hf := zv_some hf
    obtain ⟨X_2, hc_2, hf⟩ := hf
    refine k_av (va_runVN (As := [.ref (L (aG 1))]) (rest := []) ⟨hx, hb, hml, hown, hts⟩ (mX1_add l D L ac hL _ 1 (by decide) _ hc_2) ⟨va_cnB 1 hts gX8_recorded_X1_add_n218 rfl rfl rfl (hN _ nx_method_X8_218) (hts _ lk_X8_recorded_iX1) (by decide +kernel) ⟨Nat.le_of_ble_eq_true rfl, Nat.le_of_ble_eq_true rfl⟩, hts _ lk_X8_recorded_mX1_add, hts _ lk_X8_recorded_eX1_add⟩ (k_pv (j := 1) hK hN hO (by decide) rfl rfl _) rfl rfl hl.1 rfl (lv_room (Nat.le_of_ble_eq_true rfl)) dX8_recorded_12 ⟨Nat.le_of_ble_eq_true rfl, Nat.le_of_ble_eq_true rfl⟩) hA hO (fun H_3 locs_3 hO_3 => ?_)
    clear hO
    refine lv_iload_n hx hb dX8_recorded_15 rfl (lv_at hl 1 rfl) ?_
    obtain ⟨rfl, rfl⟩ := Prod.mk.inj (Option.some.inj hf)
    exact e_i hx hb hr hK hN hO_3 hlocks dX8_recorded_16
theorem in_X8_changeSetting_X0 : ∀ w ∈ u_ws RX0 TX0 10, w ∈ wsX8_changeSetting := by decide +kernel
theorem in_X8_changeSetting_X8 : ∀ w ∈ u_ws RX8 TX8 8, w ∈ wsX8_changeSetting := by decide +kernel
theorem lk_X8_changeSetting_f12 : Cond.fieldLink RX8 12 "PoisonPiles" "now" "LPoisonPiles$Game;" ∈ wsX8_changeSetting := by decide +kernel
def fX8_changeSetting  (a1 : Int32) (a2 : Int32) (X : XM) : Option (Int32 × XM) := if a1 = 0 then if a2 < 1 then some ((-2), X) else if 31 < a2 then some ((-2), X) else zl (X 0 0) (fun v_13 => zl (xup X 0 0 a2) (fun X_15 => some (v_13, X_15))) else if a1 = 1 then if a2 < 0 then some ((-2), X) else if 99 < a2 then some ((-2), X) else zl (X 0 1) (fun v_5 => zl (xup X 0 1 a2) (fun X_7 => some (v_5, X_7))) else some ((-2), X)
set_option maxHeartbeats 4000000 in
set_option maxRecDepth 100000 in
theorem mX8_changeSetting (l : Launch) (D : va_G) (L : Nat → Nat) (ac : Nat → ClassId) (hL : LL L) (X : XM) (a1 : Int32) (a2 : Int32) (r0 : Int32) (X0 : XM) (hf : fX8_changeSetting a1 a2 X = some (r0, X0)) : Ci l yX8_changeSetting wsX8_changeSetting ({ frames := 0, cells := 0, slots := 0, locals := 0 }) D L ac X [.ref (L 0), .int a1, .int a2] r0 X0 := by
  refine Met.ofK (cc := cX8_changeSetting) (maxL := 4) (ret := (some .int)) (lv := [(0, .ref (L 0)), (1, .int a1), (2, .int a2)]) (by decide +kernel) rfl (Nat.le_of_ble_eq_true rfl) rfl ?_
  intro p e s m below meth c F hO ls hl
  obtain ⟨hx, hb, hr, hts, hown, hlocks, hml, hK, hN⟩ := id F
  have hA : ∀ q, fr L q → fr L q := fun q h => h
  unfold fX8_changeSetting at hf
  refine lv_iload_n hx hb dX8_changeSetting_0 rfl (lv_at hl 1 rfl) ?_
  refine lv_if_ne (tgt := 33) hx hb dX8_changeSetting_1 (by decide) (fun c_1 => ?_) (fun c_1 => ?_)
  · rw [if_neg c_1] at hf
    refine lv_iload_n hx hb dX8_changeSetting_33 rfl (lv_at hl 1 rfl) ?_
    refine lv_iconst (v := 1) hx hb dX8_changeSetting_34 (by decide) ?_
    refine lv_icmp_ne (tgt := 66) hx hb dX8_changeSetting_35 (by decide) (fun c_2 => ?_) (fun c_2 => ?_)
    · rw [if_neg c_2] at hf
      refine lv_bipush (v := (-2)) hx hb dX8_changeSetting_66 (by decide) ?_
      obtain ⟨rfl, rfl⟩ := Prod.mk.inj (Option.some.inj hf)
      exact e_i hx hb hr hK hN hO hlocks dX8_changeSetting_68
    · rw [if_pos c_2] at hf
      subst c_2
      refine lv_iload_n hx hb dX8_changeSetting_38 rfl (lv_at hl 2 rfl) ?_
      refine lv_if_lt (tgt := 66) hx hb dX8_changeSetting_39 (by decide) (fun c_3 => ?_) (fun c_3 => ?_)
      · rw [if_pos c_3] at hf
        refine lv_bipush (v := (-2)) hx hb dX8_changeSetting_66 (by decide) ?_
        obtain ⟨rfl, rfl⟩ := Prod.mk.inj (Option.some.inj hf)
        exact e_i hx hb hr hK hN hO hlocks dX8_changeSetting_68
      · rw [if_neg c_3] at hf
        refine lv_iload_n hx hb dX8_changeSetting_42 rfl (lv_at hl 2 rfl) ?_
        refine lv_bipush (v := 99) hx hb dX8_changeSetting_43 (by decide) ?_
        refine lv_icmp_gt (tgt := 66) hx hb dX8_changeSetting_45 (by decide) (fun c_4 => ?_) (fun c_4 => ?_)
        · rw [if_pos c_4] at hf
          refine lv_bipush (v := (-2)) hx hb dX8_changeSetting_66 (by decide) ?_
          obtain ⟨rfl, rfl⟩ := Prod.mk.inj (Option.some.inj hf)
          exact e_i hx hb hr hK hN hO hlocks dX8_changeSetting_68
        · rw [if_neg c_4] at hf
          refine lv_aload_n hx hb dX8_changeSetting_48 rfl (lv_at hl 0 rfl) ?_
          refine k_get (k := 0) (v := .ref (L (aG 0))) hx hb hts in_X8_changeSetting_X8 hown hK hO (by decide) rfl rfl (by decide) lk_X8_changeSetting_f12 rfl dX8_changeSetting_49 ?_
          refine k_getN (k := 1) (v := .int (X 0 1)) hx hb hts in_X8_changeSetting_X0 hown hK hN hO (aG_lt (by decide)) (cn_G 0) rfl (by decide) nx_field_X8_156 rfl dX8_changeSetting_52 ?_
          replace hf := zl_some hf
          obtain ⟨v_5, hv_5, hf⟩ := hf
          refine lv_tope hv_5 ?_
          refine lv_istore_n (lv' := [(3, .int v_5), (0, .ref (L 0)), (1, .int 1), (2, .int a2)]) hx hb dX8_changeSetting_55 rfl hl (by decide) rfl (fun ls_6 hl_6 => ?_)
          clear hl
          refine lv_aload_n hx hb dX8_changeSetting_56 rfl (lv_at hl_6 1 rfl) ?_
          refine k_get (k := 0) (v := .ref (L (aG 0))) hx hb hts in_X8_changeSetting_X8 hown hK hO (by decide) rfl rfl (by decide) lk_X8_changeSetting_f12 rfl dX8_changeSetting_57 ?_
          refine lv_iload_n hx hb dX8_changeSetting_60 rfl (lv_at hl_6 3 rfl) ?_
          refine k_putN (ty := .int) (k := 1) (r := 0) (k' := 1) hx hb tyX0 tyX0_ok nmX0 hts in_X8_changeSetting_X0 hown hK hN hL hA hO (aG_lt (by decide)) (ow_G (by decide) (by decide)) (by omega) (fun Y => (cn_G 0)) (pf_G1 0) rfl (by decide) nx_field_X8_156 rfl (by decide +kernel) rfl rfl (Nat.le_of_ble_eq_true rfl) dX8_changeSetting_61 (fun H_8 locs_8 hO_8 => ?_)
          replace hf := zl_some hf
          obtain ⟨X_7, hX_7, hf⟩ := hf
          have hQ_8 := zo_eq hX_7 hO_8
          clear hO_8 hO
          refine lv_iload_n hx hb dX8_changeSetting_64 rfl (lv_at hl_6 0 rfl) ?_
          obtain ⟨rfl, rfl⟩ := Prod.mk.inj (Option.some.inj hf)
          exact e_i hx hb hr hK hN hQ_8 hlocks dX8_changeSetting_65
  · rw [if_pos c_1] at hf
    subst c_1
    refine lv_iload_n hx hb dX8_changeSetting_4 rfl (lv_at hl 2 rfl) ?_
    refine lv_iconst (v := 1) hx hb dX8_changeSetting_5 (by decide) ?_
    refine lv_icmp_lt (tgt := 33) hx hb dX8_changeSetting_6 (by decide) (fun c_9 => ?_) (fun c_9 => ?_)
    · rw [if_pos c_9] at hf
      refine lv_iload_n hx hb dX8_changeSetting_33 rfl (lv_at hl 1 rfl) ?_
      refine lv_iconst (v := 1) hx hb dX8_changeSetting_34 (by decide) ?_
      refine lv_icmp_ne (tgt := 66) hx hb dX8_changeSetting_35 (by decide) (fun _ => ?_) (fun c_10 => absurd c_10 (by decide))
      refine lv_bipush (v := (-2)) hx hb dX8_changeSetting_66 (by decide) ?_
      obtain ⟨rfl, rfl⟩ := Prod.mk.inj (Option.some.inj hf)
      exact e_i hx hb hr hK hN hO hlocks dX8_changeSetting_68
    · rw [if_neg c_9] at hf
      refine lv_iload_n hx hb dX8_changeSetting_9 rfl (lv_at hl 2 rfl) ?_
      refine lv_bipush (v := 31) hx hb dX8_changeSetting_10 (by decide) ?_
      refine lv_icmp_gt (tgt := 33) hx hb dX8_changeSetting_12 (by decide) (fun c_11 => ?_) (fun c_11 => ?_)
      · rw [if_pos c_11] at hf
        refine lv_iload_n hx hb dX8_changeSetting_33 rfl (lv_at hl 1 rfl) ?_
        refine lv_iconst (v := 1) hx hb dX8_changeSetting_34 (by decide) ?_
        refine lv_icmp_ne (tgt := 66) hx hb dX8_changeSetting_35 (by decide) (fun _ => ?_) (fun c_12 => absurd c_12 (by decide))
        refine lv_bipush (v := (-2)) hx hb dX8_changeSetting_66 (by decide) ?_
        obtain ⟨rfl, rfl⟩ := Prod.mk.inj (Option.some.inj hf)
        exact e_i hx hb hr hK hN hO hlocks dX8_changeSetting_68
      · rw [if_neg c_11] at hf
        refine lv_aload_n hx hb dX8_changeSetting_15 rfl (lv_at hl 0 rfl) ?_
        refine k_get (k := 0) (v := .ref (L (aG 0))) hx hb hts in_X8_changeSetting_X8 hown hK hO (by decide) rfl rfl (by decide) lk_X8_changeSetting_f12 rfl dX8_changeSetting_16 ?_
        refine k_getN (k := 0) (v := .int (X 0 0)) hx hb hts in_X8_changeSetting_X0 hown hK hN hO (aG_lt (by decide)) (cn_G 0) rfl (by decide) nx_field_X8_116 rfl dX8_changeSetting_19 ?_
        replace hf := zl_some hf
        obtain ⟨v_13, hv_13, hf⟩ := hf
        refine lv_tope hv_13 ?_
        refine lv_istore_n (lv' := [(3, .int v_13), (0, .ref (L 0)), (1, .int 0), (2, .int a2)]) hx hb dX8_changeSetting_22 rfl hl (by decide) rfl (fun ls_14 hl_14 => ?_)
        clear hl
        refine lv_aload_n hx hb dX8_changeSetting_23 rfl (lv_at hl_14 1 rfl) ?_
        refine k_get (k := 0) (v := .ref (L (aG 0))) hx hb hts in_X8_changeSetting_X8 hown hK hO (by decide) rfl rfl (by decide) lk_X8_changeSetting_f12 rfl dX8_changeSetting_24 ?_
        refine lv_iload_n hx hb dX8_changeSetting_27 rfl (lv_at hl_14 3 rfl) ?_
        refine k_putN (ty := .int) (k := 0) (r := 0) (k' := 0) hx hb tyX0 tyX0_ok nmX0 hts in_X8_changeSetting_X0 hown hK hN hL hA hO (aG_lt (by decide)) (ow_G (by decide) (by decide)) (by omega) (fun Y => (cn_G 0)) (pf_G0 0) rfl (by decide) nx_field_X8_116 rfl (by decide +kernel) rfl rfl (Nat.le_of_ble_eq_true rfl) dX8_changeSetting_28 (fun H_16 locs_16 hO_16 => ?_)
        replace hf := zl_some hf
        obtain ⟨X_15, hX_15, hf⟩ := hf
        have hQ_16 := zo_eq hX_15 hO_16
        clear hO_16 hO
        refine lv_iload_n hx hb dX8_changeSetting_31 rfl (lv_at hl_14 0 rfl) ?_
        obtain ⟨rfl, rfl⟩ := Prod.mk.inj (Option.some.inj hf)
        exact e_i hx hb hr hK hN hQ_16 hlocks dX8_changeSetting_32
theorem in_X8_addPile_X0 : ∀ w ∈ u_ws RX0 TX0 10, w ∈ wsX8_addPile := by decide +kernel
theorem in_X8_addPile_X8 : ∀ w ∈ u_ws RX8 TX8 8, w ∈ wsX8_addPile := by decide +kernel
theorem lk_X8_addPile_eX3_fill : Cond.selects RX3 yX3_fill yX3_fill ∈ wsX8_addPile := by decide +kernel
theorem lk_X8_addPile_f12 : Cond.fieldLink RX8 12 "PoisonPiles" "now" "LPoisonPiles$Game;" ∈ wsX8_addPile := by decide +kernel
theorem lk_X8_addPile_iX3 : Cond.initialized RX3 ∈ wsX8_addPile := by decide +kernel
theorem lk_X8_addPile_mX3_fill : Cond.instanceMethod yX3_fill ∈ wsX8_addPile := by decide +kernel
def fX8_addPile  (a1 : Int32) (a2 : Int32) (a3 : Int32) (X : XM) : Option (Int32 × XM) := if a1 < 0 then some ((-2), X) else if 5 < a1 then some ((-2), X) else if a2 < 0 then some ((-2), X) else if a2 ≤ 9 then if a3 = 0 then zl (X 0 2) (fun v_6 => if v_6 < 0 then some ((-4), X) else if v_6 < 4 then zd v_6 4 (zv (fX3_fill 0 (Int32.toNatClampNeg v_6) a1 a2 0 X) (fun X_12 => zl (xup X_12 0 2 (v_6 + 1)) (fun X_14 => some (v_6, X_14)))) else some ((-4), X)) else if a3 = 1 then zl (X 0 2) (fun v_17 => if v_17 < 0 then some ((-4), X) else if v_17 < 4 then zd v_17 4 (zv (fX3_fill 0 (Int32.toNatClampNeg v_17) a1 a2 1 X) (fun X_23 => zl (xup X_23 0 2 (v_17 + 1)) (fun X_25 => some (v_17, X_25)))) else some ((-4), X)) else some ((-2), X) else some ((-2), X)
set_option maxHeartbeats 4000000 in
set_option maxRecDepth 100000 in
theorem mX8_addPile (l : Launch) (D : va_G) (L : Nat → Nat) (ac : Nat → ClassId) (hL : LL L) (X : XM) (a1 : Int32) (a2 : Int32) (a3 : Int32) (r0 : Int32) (X0 : XM) (hf : fX8_addPile a1 a2 a3 X = some (r0, X0)) : Ci l yX8_addPile wsX8_addPile ({ frames := 1, cells := 0, slots := 0, locals := 23 }) D L ac X [.ref (L 0), .int a1, .int a2, .int a3] r0 X0 := by
  refine Met.ofK (cc := cX8_addPile) (maxL := 5) (ret := (some .int)) (lv := [(0, .ref (L 0)), (1, .int a1), (2, .int a2), (3, .int a3)]) (by decide +kernel) rfl (Nat.le_of_ble_eq_true rfl) rfl ?_
  intro p e s m below meth c F hO ls hl
  obtain ⟨hx, hb, hr, hts, hown, hlocks, hml, hK, hN⟩ := id F
  have hA : ∀ q, fr L q → fr L q := fun q h => h
  unfold fX8_addPile at hf
  refine lv_iload_n hx hb dX8_addPile_0 rfl (lv_at hl 1 rfl) ?_
  refine lv_if_lt (tgt := 19) hx hb dX8_addPile_1 (by decide) (fun c_1 => ?_) (fun c_1 => ?_)
  · rw [if_pos c_1] at hf
    refine lv_bipush (v := (-2)) hx hb dX8_addPile_19 (by decide) ?_
    obtain ⟨rfl, rfl⟩ := Prod.mk.inj (Option.some.inj hf)
    exact e_i hx hb hr hK hN hO hlocks dX8_addPile_21
  · rw [if_neg c_1] at hf
    refine lv_iload_n hx hb dX8_addPile_4 rfl (lv_at hl 1 rfl) ?_
    refine lv_iconst (v := 5) hx hb dX8_addPile_5 (by decide) ?_
    refine lv_icmp_gt (tgt := 19) hx hb dX8_addPile_6 (by decide) (fun c_2 => ?_) (fun c_2 => ?_)
    · rw [if_pos c_2] at hf
      refine lv_bipush (v := (-2)) hx hb dX8_addPile_19 (by decide) ?_
      obtain ⟨rfl, rfl⟩ := Prod.mk.inj (Option.some.inj hf)
      exact e_i hx hb hr hK hN hO hlocks dX8_addPile_21
    · rw [if_neg c_2] at hf
      refine lv_iload_n hx hb dX8_addPile_9 rfl (lv_at hl 2 rfl) ?_
      refine lv_if_lt (tgt := 19) hx hb dX8_addPile_10 (by decide) (fun c_3 => ?_) (fun c_3 => ?_)
      · rw [if_pos c_3] at hf
        refine lv_bipush (v := (-2)) hx hb dX8_addPile_19 (by decide) ?_
        obtain ⟨rfl, rfl⟩ := Prod.mk.inj (Option.some.inj hf)
        exact e_i hx hb hr hK hN hO hlocks dX8_addPile_21
      · rw [if_neg c_3] at hf
        refine lv_iload_n hx hb dX8_addPile_13 rfl (lv_at hl 2 rfl) ?_
        refine lv_bipush (v := 9) hx hb dX8_addPile_14 (by decide) ?_
        refine lv_icmp_le (tgt := 22) hx hb dX8_addPile_16 (by decide) (fun c_4 => ?_) (fun c_4 => ?_)
        · rw [if_pos c_4] at hf
          refine lv_iload_n hx hb dX8_addPile_22 rfl (lv_at hl 3 rfl) ?_
          refine lv_if_eq (tgt := 34) hx hb dX8_addPile_23 (by decide) (fun c_5 => ?_) (fun c_5 => ?_)
          · rw [if_pos c_5] at hf
            subst c_5
            refine lv_aload_n hx hb dX8_addPile_34 rfl (lv_at hl 0 rfl) ?_
            refine k_get (k := 0) (v := .ref (L (aG 0))) hx hb hts in_X8_addPile_X8 hown hK hO (by decide) rfl rfl (by decide) lk_X8_addPile_f12 rfl dX8_addPile_35 ?_
            refine k_getN (k := 3) (v := .int (X 0 2)) hx hb hts in_X8_addPile_X0 hown hK hN hO (aG_lt (by decide)) (cn_G 0) rfl (by decide) nx_field_X8_137 rfl dX8_addPile_38 ?_
            replace hf := zl_some hf
            obtain ⟨v_6, hv_6, hf⟩ := hf
            refine lv_tope hv_6 ?_
            refine lv_istore (lv' := [(4, .int v_6), (0, .ref (L 0)), (1, .int a1), (2, .int a2), (3, .int 0)]) hx hb dX8_addPile_41 hl (by decide) rfl (fun ls_7 hl_7 => ?_)
            clear hl
            refine lv_iload hx hb dX8_addPile_43 (lv_at hl_7 0 rfl) ?_
            refine lv_if_lt (tgt := 61) hx hb dX8_addPile_45 (by decide) (fun c_8 => ?_) (fun c_8 => ?_)
            · rw [if_pos c_8] at hf
              refine lv_bipush (v := (-4)) hx hb dX8_addPile_61 (by decide) ?_
              obtain ⟨rfl, rfl⟩ := Prod.mk.inj (Option.some.inj hf)
              exact e_i hx hb hr hK hN hO hlocks dX8_addPile_63
            · rw [if_neg c_8] at hf
              refine lv_iload hx hb dX8_addPile_48 (lv_at hl_7 0 rfl) ?_
              refine lv_aload_n hx hb dX8_addPile_50 rfl (lv_at hl_7 1 rfl) ?_
              refine k_get (k := 0) (v := .ref (L (aG 0))) hx hb hts in_X8_addPile_X8 hown hK hO (by decide) rfl rfl (by decide) lk_X8_addPile_f12 rfl dX8_addPile_51 ?_
              refine k_getN (k := 2) (v := .ref (L (aA 0))) hx hb hts in_X8_addPile_X0 hown hK hN hO (aG_lt (by decide)) (cn_G 0) rfl (by decide) nx_field_X8_96 rfl dX8_addPile_54 ?_
              refine k_alen (v := 4) (t := 3) hx hb hK hO (aA_lt (by decide)) (ct_A 0) rfl rfl dX8_addPile_57 ?_
              refine lv_icmp_lt (tgt := 64) hx hb dX8_addPile_58 (by decide) (fun c_9 => ?_) (fun c_9 => ?_)
              · rw [if_pos c_9] at hf
                refine lv_aload_n hx hb dX8_addPile_64 rfl (lv_at hl_7 1 rfl) ?_
                refine k_get (k := 0) (v := .ref (L (aG 0))) hx hb hts in_X8_addPile_X8 hown hK hO (by decide) rfl rfl (by decide) lk_X8_addPile_f12 rfl dX8_addPile_65 ?_
                refine k_getN (k := 2) (v := .ref (L (aA 0))) hx hb hts in_X8_addPile_X0 hown hK hN hO (aG_lt (by decide)) (cn_G 0) rfl (by decide) nx_field_X8_96 rfl dX8_addPile_68 ?_
                refine lv_iload hx hb dX8_addPile_71 (lv_at hl_7 0 rfl) ?_
                replace hf := zd_some hf
                obtain ⟨hi_10, hf⟩ := hf
                refine k_aald hx hb hK hO (aA_lt (by decide)) (ct_A 0) rfl hi_10 dX8_addPile_73 ?_
                refine lv_topr (b := L (aP 0 (Int32.toNatClampNeg v_6))) rfl ?_
                refine lv_iload_n hx hb dX8_addPile_74 rfl (lv_at hl_7 2 rfl) ?_
                refine lv_iload_n hx hb dX8_addPile_75 rfl (lv_at hl_7 3 rfl) ?_
                refine lv_iload_n hx hb dX8_addPile_76 rfl (lv_at hl_7 4 rfl) ?_
                refine lv_iconst (v := 1) hx hb dX8_addPile_77 (by decide) ?_
                refine lv_icmp_ne (tgt := 85) hx hb dX8_addPile_78 (by decide) (fun _ => ?_) (fun c_11 => absurd c_11 (by decide))
                refine lv_iconst (v := 0) hx hb dX8_addPile_85 (by decide) ?_
                replace hf := zv_some hf
                obtain ⟨X_12, hc_12, hf⟩ := hf
                refine k_av (va_runVN (As := [.int a1, .int a2, .int 0]) (rest := []) ⟨hx, hb, hml, hown, hts⟩ (mX3_fill l D L ac hL _ 0 (by decide) (Int32.toNatClampNeg v_6) (vp_lt hi_10) a1 a2 0 _ hc_12) ⟨va_cnB 3 hts gX8_addPile_X3_fill_n221 rfl rfl rfl (hN _ nx_method_X8_221) (hts _ lk_X8_addPile_iX3) (by decide +kernel) ⟨Nat.le_of_ble_eq_true rfl, Nat.le_of_ble_eq_true rfl⟩, hts _ lk_X8_addPile_mX3_fill, hts _ lk_X8_addPile_eX3_fill⟩ (k_pv (j := (aP 0 (Int32.toNatClampNeg v_6))) hK hN hO (aP_lt (by decide) (vp_lt hi_10)) (cn_P 0 (Int32.toNatClampNeg v_6) (vp_lt hi_10)) rfl _) rfl rfl hl_7.1 rfl (lv_room (Nat.le_of_ble_eq_true rfl)) dX8_addPile_86 ⟨Nat.le_of_ble_eq_true rfl, Nat.le_of_ble_eq_true rfl⟩) hA hO (fun H_13 locs_13 hO_13 => ?_)
                clear hO
                refine lv_aload_n hx hb dX8_addPile_89 rfl (lv_at hl_7 1 rfl) ?_
                refine k_get (k := 0) (v := .ref (L (aG 0))) hx hb hts in_X8_addPile_X8 hown hK hO_13 (by decide) rfl rfl (by decide) lk_X8_addPile_f12 rfl dX8_addPile_90 ?_
                refine lv_iload hx hb dX8_addPile_93 (lv_at hl_7 0 rfl) ?_
                refine lv_iconst (v := 1) hx hb dX8_addPile_95 (by decide) ?_
                refine lv_iadd hx hb dX8_addPile_96 ?_
                refine k_putN (ty := .int) (k := 3) (r := 0) (k' := 2) hx hb tyX0 tyX0_ok nmX0 hts in_X8_addPile_X0 hown hK hN hL hA hO_13 (aG_lt (by decide)) (ow_G (by decide) (by decide)) (by omega) (fun Y => (cn_G 0)) (pf_G2 0) rfl (by decide) nx_field_X8_137 rfl (by decide +kernel) rfl rfl (Nat.le_of_ble_eq_true rfl) dX8_addPile_97 (fun H_15 locs_15 hO_15 => ?_)
                replace hf := zl_some hf
                obtain ⟨X_14, hX_14, hf⟩ := hf
                have hQ_15 := zo_eq hX_14 hO_15
                clear hO_15 hO_13
                refine lv_iload hx hb dX8_addPile_100 (lv_at hl_7 0 rfl) ?_
                obtain ⟨rfl, rfl⟩ := Prod.mk.inj (Option.some.inj hf)
                exact e_i hx hb hr hK hN hQ_15 hlocks dX8_addPile_102
              · rw [if_neg c_9] at hf
                refine lv_bipush (v := (-4)) hx hb dX8_addPile_61 (by decide) ?_
                obtain ⟨rfl, rfl⟩ := Prod.mk.inj (Option.some.inj hf)
                exact e_i hx hb hr hK hN hO hlocks dX8_addPile_63
          · rw [if_neg c_5] at hf
            refine lv_iload_n hx hb dX8_addPile_26 rfl (lv_at hl 3 rfl) ?_
            refine lv_iconst (v := 1) hx hb dX8_addPile_27 (by decide) ?_
            refine lv_icmp_eq (tgt := 34) hx hb dX8_addPile_28 (by decide) (fun c_16 => ?_) (fun c_16 => ?_)
            · rw [if_pos c_16] at hf
              subst c_16
              refine lv_aload_n hx hb dX8_addPile_34 rfl (lv_at hl 0 rfl) ?_
              refine k_get (k := 0) (v := .ref (L (aG 0))) hx hb hts in_X8_addPile_X8 hown hK hO (by decide) rfl rfl (by decide) lk_X8_addPile_f12 rfl dX8_addPile_35 ?_
              refine k_getN (k := 3) (v := .int (X 0 2)) hx hb hts in_X8_addPile_X0 hown hK hN hO (aG_lt (by decide)) (cn_G 0) rfl (by decide) nx_field_X8_137 rfl dX8_addPile_38 ?_
              replace hf := zl_some hf
              obtain ⟨v_17, hv_17, hf⟩ := hf
              refine lv_tope hv_17 ?_
              refine lv_istore (lv' := [(4, .int v_17), (0, .ref (L 0)), (1, .int a1), (2, .int a2), (3, .int 1)]) hx hb dX8_addPile_41 hl (by decide) rfl (fun ls_18 hl_18 => ?_)
              clear hl
              refine lv_iload hx hb dX8_addPile_43 (lv_at hl_18 0 rfl) ?_
              refine lv_if_lt (tgt := 61) hx hb dX8_addPile_45 (by decide) (fun c_19 => ?_) (fun c_19 => ?_)
              · rw [if_pos c_19] at hf
                refine lv_bipush (v := (-4)) hx hb dX8_addPile_61 (by decide) ?_
                obtain ⟨rfl, rfl⟩ := Prod.mk.inj (Option.some.inj hf)
                exact e_i hx hb hr hK hN hO hlocks dX8_addPile_63
              · rw [if_neg c_19] at hf
                refine lv_iload hx hb dX8_addPile_48 (lv_at hl_18 0 rfl) ?_
                refine lv_aload_n hx hb dX8_addPile_50 rfl (lv_at hl_18 1 rfl) ?_
                refine k_get (k := 0) (v := .ref (L (aG 0))) hx hb hts in_X8_addPile_X8 hown hK hO (by decide) rfl rfl (by decide) lk_X8_addPile_f12 rfl dX8_addPile_51 ?_
                refine k_getN (k := 2) (v := .ref (L (aA 0))) hx hb hts in_X8_addPile_X0 hown hK hN hO (aG_lt (by decide)) (cn_G 0) rfl (by decide) nx_field_X8_96 rfl dX8_addPile_54 ?_
                refine k_alen (v := 4) (t := 3) hx hb hK hO (aA_lt (by decide)) (ct_A 0) rfl rfl dX8_addPile_57 ?_
                refine lv_icmp_lt (tgt := 64) hx hb dX8_addPile_58 (by decide) (fun c_20 => ?_) (fun c_20 => ?_)
                · rw [if_pos c_20] at hf
                  refine lv_aload_n hx hb dX8_addPile_64 rfl (lv_at hl_18 1 rfl) ?_
                  refine k_get (k := 0) (v := .ref (L (aG 0))) hx hb hts in_X8_addPile_X8 hown hK hO (by decide) rfl rfl (by decide) lk_X8_addPile_f12 rfl dX8_addPile_65 ?_
                  refine k_getN (k := 2) (v := .ref (L (aA 0))) hx hb hts in_X8_addPile_X0 hown hK hN hO (aG_lt (by decide)) (cn_G 0) rfl (by decide) nx_field_X8_96 rfl dX8_addPile_68 ?_
                  refine lv_iload hx hb dX8_addPile_71 (lv_at hl_18 0 rfl) ?_
                  replace hf := zd_some hf
                  obtain ⟨hi_21, hf⟩ := hf
                  refine k_aald hx hb hK hO (aA_lt (by decide)) (ct_A 0) rfl hi_21 dX8_addPile_73 ?_
                  refine lv_topr (b := L (aP 0 (Int32.toNatClampNeg v_17))) rfl ?_
                  refine lv_iload_n hx hb dX8_addPile_74 rfl (lv_at hl_18 2 rfl) ?_
                  refine lv_iload_n hx hb dX8_addPile_75 rfl (lv_at hl_18 3 rfl) ?_
                  refine lv_iload_n hx hb dX8_addPile_76 rfl (lv_at hl_18 4 rfl) ?_
                  refine lv_iconst (v := 1) hx hb dX8_addPile_77 (by decide) ?_
                  refine lv_icmp_ne (tgt := 85) hx hb dX8_addPile_78 (by decide) (fun c_22 => absurd (by decide) c_22) (fun _ => ?_)
                  refine lv_iconst (v := 1) hx hb dX8_addPile_81 (by decide) ?_
                  refine lv_goto (tgt := 86) hx hb dX8_addPile_82 (by decide) ?_
                  replace hf := zv_some hf
                  obtain ⟨X_23, hc_23, hf⟩ := hf
                  refine k_av (va_runVN (As := [.int a1, .int a2, .int 1]) (rest := []) ⟨hx, hb, hml, hown, hts⟩ (mX3_fill l D L ac hL _ 0 (by decide) (Int32.toNatClampNeg v_17) (vp_lt hi_21) a1 a2 1 _ hc_23) ⟨va_cnB 3 hts gX8_addPile_X3_fill_n221 rfl rfl rfl (hN _ nx_method_X8_221) (hts _ lk_X8_addPile_iX3) (by decide +kernel) ⟨Nat.le_of_ble_eq_true rfl, Nat.le_of_ble_eq_true rfl⟩, hts _ lk_X8_addPile_mX3_fill, hts _ lk_X8_addPile_eX3_fill⟩ (k_pv (j := (aP 0 (Int32.toNatClampNeg v_17))) hK hN hO (aP_lt (by decide) (vp_lt hi_21)) (cn_P 0 (Int32.toNatClampNeg v_17) (vp_lt hi_21)) rfl _) rfl rfl hl_18.1 rfl (lv_room (Nat.le_of_ble_eq_true rfl)) dX8_addPile_86 ⟨Nat.le_of_ble_eq_true rfl, Nat.le_of_ble_eq_true rfl⟩) hA hO (fun H_24 locs_24 hO_24 => ?_)
                  clear hO
                  refine lv_aload_n hx hb dX8_addPile_89 rfl (lv_at hl_18 1 rfl) ?_
                  refine k_get (k := 0) (v := .ref (L (aG 0))) hx hb hts in_X8_addPile_X8 hown hK hO_24 (by decide) rfl rfl (by decide) lk_X8_addPile_f12 rfl dX8_addPile_90 ?_
                  refine lv_iload hx hb dX8_addPile_93 (lv_at hl_18 0 rfl) ?_
                  refine lv_iconst (v := 1) hx hb dX8_addPile_95 (by decide) ?_
                  refine lv_iadd hx hb dX8_addPile_96 ?_
                  refine k_putN (ty := .int) (k := 3) (r := 0) (k' := 2) hx hb tyX0 tyX0_ok nmX0 hts in_X8_addPile_X0 hown hK hN hL hA hO_24 (aG_lt (by decide)) (ow_G (by decide) (by decide)) (by omega) (fun Y => (cn_G 0)) (pf_G2 0) rfl (by decide) nx_field_X8_137 rfl (by decide +kernel) rfl rfl (Nat.le_of_ble_eq_true rfl) dX8_addPile_97 (fun H_26 locs_26 hO_26 => ?_)
                  replace hf := zl_some hf
                  obtain ⟨X_25, hX_25, hf⟩ := hf
                  have hQ_26 := zo_eq hX_25 hO_26
                  clear hO_26 hO_24
                  refine lv_iload hx hb dX8_addPile_100 (lv_at hl_18 0 rfl) ?_
                  obtain ⟨rfl, rfl⟩ := Prod.mk.inj (Option.some.inj hf)
                  exact e_i hx hb hr hK hN hQ_26 hlocks dX8_addPile_102
                · rw [if_neg c_20] at hf
                  refine lv_bipush (v := (-4)) hx hb dX8_addPile_61 (by decide) ?_
                  obtain ⟨rfl, rfl⟩ := Prod.mk.inj (Option.some.inj hf)
                  exact e_i hx hb hr hK hN hO hlocks dX8_addPile_63
            · rw [if_neg c_16] at hf
              refine lv_bipush (v := (-2)) hx hb dX8_addPile_31 (by decide) ?_
              obtain ⟨rfl, rfl⟩ := Prod.mk.inj (Option.some.inj hf)
              exact e_i hx hb hr hK hN hO hlocks dX8_addPile_33
        · rw [if_neg c_4] at hf
          refine lv_bipush (v := (-2)) hx hb dX8_addPile_19 (by decide) ?_
          obtain ⟨rfl, rfl⟩ := Prod.mk.inj (Option.some.inj hf)
          exact e_i hx hb hr hK hN hO hlocks dX8_addPile_21
theorem in_X8_givePasses_X0 : ∀ w ∈ u_ws RX0 TX0 10, w ∈ wsX8_givePasses := by decide +kernel
theorem in_X8_givePasses_X4 : ∀ w ∈ u_ws RX4 TX4 2, w ∈ wsX8_givePasses := by decide +kernel
theorem in_X8_givePasses_X8 : ∀ w ∈ u_ws RX8 TX8 8, w ∈ wsX8_givePasses := by decide +kernel
theorem lk_X8_givePasses_f12 : Cond.fieldLink RX8 12 "PoisonPiles" "now" "LPoisonPiles$Game;" ∈ wsX8_givePasses := by decide +kernel
def fX8_givePasses  (a1 : Int32) (a2 : Int32) (X : XM) : Option (Int32 × XM) := if a1 < 0 then some ((-2), X) else if 2 < a1 then some ((-2), X) else if a2 < 0 then some ((-2), X) else if a2 ≤ 2 then zl ((X 0 7) + (X 0 8)) (fun v_5 => zl (xup X 0 7 a1) (fun X_7 => zl (xup X_7 0 8 a2) (fun X_9 => some (v_5, X_9)))) else some ((-2), X)
set_option maxHeartbeats 4000000 in
set_option maxRecDepth 100000 in
theorem mX8_givePasses (l : Launch) (D : va_G) (L : Nat → Nat) (ac : Nat → ClassId) (hL : LL L) (X : XM) (a1 : Int32) (a2 : Int32) (r0 : Int32) (X0 : XM) (hf : fX8_givePasses a1 a2 X = some (r0, X0)) : Ci l yX8_givePasses wsX8_givePasses ({ frames := 0, cells := 0, slots := 0, locals := 0 }) D L ac X [.ref (L 0), .int a1, .int a2] r0 X0 := by
  refine Met.ofK (cc := cX8_givePasses) (maxL := 4) (ret := (some .int)) (lv := [(0, .ref (L 0)), (1, .int a1), (2, .int a2)]) (by decide +kernel) rfl (Nat.le_of_ble_eq_true rfl) rfl ?_
  intro p e s m below meth c F hO ls hl
  obtain ⟨hx, hb, hr, hts, hown, hlocks, hml, hK, hN⟩ := id F
  have hA : ∀ q, fr L q → fr L q := fun q h => h
  unfold fX8_givePasses at hf
  refine lv_iload_n hx hb dX8_givePasses_0 rfl (lv_at hl 1 rfl) ?_
  refine lv_if_lt (tgt := 18) hx hb dX8_givePasses_1 (by decide) (fun c_1 => ?_) (fun c_1 => ?_)
  · rw [if_pos c_1] at hf
    refine lv_bipush (v := (-2)) hx hb dX8_givePasses_18 (by decide) ?_
    obtain ⟨rfl, rfl⟩ := Prod.mk.inj (Option.some.inj hf)
    exact e_i hx hb hr hK hN hO hlocks dX8_givePasses_20
  · rw [if_neg c_1] at hf
    refine lv_iload_n hx hb dX8_givePasses_4 rfl (lv_at hl 1 rfl) ?_
    refine lv_iconst (v := 2) hx hb dX8_givePasses_5 (by decide) ?_
    refine lv_icmp_gt (tgt := 18) hx hb dX8_givePasses_6 (by decide) (fun c_2 => ?_) (fun c_2 => ?_)
    · rw [if_pos c_2] at hf
      refine lv_bipush (v := (-2)) hx hb dX8_givePasses_18 (by decide) ?_
      obtain ⟨rfl, rfl⟩ := Prod.mk.inj (Option.some.inj hf)
      exact e_i hx hb hr hK hN hO hlocks dX8_givePasses_20
    · rw [if_neg c_2] at hf
      refine lv_iload_n hx hb dX8_givePasses_9 rfl (lv_at hl 2 rfl) ?_
      refine lv_if_lt (tgt := 18) hx hb dX8_givePasses_10 (by decide) (fun c_3 => ?_) (fun c_3 => ?_)
      · rw [if_pos c_3] at hf
        refine lv_bipush (v := (-2)) hx hb dX8_givePasses_18 (by decide) ?_
        obtain ⟨rfl, rfl⟩ := Prod.mk.inj (Option.some.inj hf)
        exact e_i hx hb hr hK hN hO hlocks dX8_givePasses_20
      · rw [if_neg c_3] at hf
        refine lv_iload_n hx hb dX8_givePasses_13 rfl (lv_at hl 2 rfl) ?_
        refine lv_iconst (v := 2) hx hb dX8_givePasses_14 (by decide) ?_
        refine lv_icmp_le (tgt := 21) hx hb dX8_givePasses_15 (by decide) (fun c_4 => ?_) (fun c_4 => ?_)
        · rw [if_pos c_4] at hf
          refine lv_aload_n hx hb dX8_givePasses_21 rfl (lv_at hl 0 rfl) ?_
          refine k_get (k := 0) (v := .ref (L (aG 0))) hx hb hts in_X8_givePasses_X8 hown hK hO (by decide) rfl rfl (by decide) lk_X8_givePasses_f12 rfl dX8_givePasses_22 ?_
          refine k_getN (k := 4) (v := .ref (L (aY 0 0))) hx hb hts in_X8_givePasses_X0 hown hK hN hO (aG_lt (by decide)) (cn_G 0) rfl (by decide) nx_field_X8_225 rfl dX8_givePasses_25 ?_
          refine k_getN (k := 1) (v := .int (X 0 7)) hx hb hts in_X8_givePasses_X4 hown hK hN hO (aY_lt (by decide) (by decide)) (cn_Y 0 0 (by decide)) rfl (by decide) nx_field_X8_131 rfl dX8_givePasses_28 ?_
          refine lv_aload_n hx hb dX8_givePasses_31 rfl (lv_at hl 0 rfl) ?_
          refine k_get (k := 0) (v := .ref (L (aG 0))) hx hb hts in_X8_givePasses_X8 hown hK hO (by decide) rfl rfl (by decide) lk_X8_givePasses_f12 rfl dX8_givePasses_32 ?_
          refine k_getN (k := 5) (v := .ref (L (aY 0 1))) hx hb hts in_X8_givePasses_X0 hown hK hN hO (aG_lt (by decide)) (cn_G 0) rfl (by decide) nx_field_X8_229 rfl dX8_givePasses_35 ?_
          refine k_getN (k := 1) (v := .int (X 0 8)) hx hb hts in_X8_givePasses_X4 hown hK hN hO (aY_lt (by decide) (by decide)) (cn_Y 0 1 (by decide)) rfl (by decide) nx_field_X8_131 rfl dX8_givePasses_38 ?_
          refine lv_iadd hx hb dX8_givePasses_41 ?_
          replace hf := zl_some hf
          obtain ⟨v_5, hv_5, hf⟩ := hf
          refine lv_tope hv_5 ?_
          refine lv_istore_n (lv' := [(3, .int v_5), (0, .ref (L 0)), (1, .int a1), (2, .int a2)]) hx hb dX8_givePasses_42 rfl hl (by decide) rfl (fun ls_6 hl_6 => ?_)
          clear hl
          refine lv_aload_n hx hb dX8_givePasses_43 rfl (lv_at hl_6 1 rfl) ?_
          refine k_get (k := 0) (v := .ref (L (aG 0))) hx hb hts in_X8_givePasses_X8 hown hK hO (by decide) rfl rfl (by decide) lk_X8_givePasses_f12 rfl dX8_givePasses_44 ?_
          refine k_getN (k := 4) (v := .ref (L (aY 0 0))) hx hb hts in_X8_givePasses_X0 hown hK hN hO (aG_lt (by decide)) (cn_G 0) rfl (by decide) nx_field_X8_225 rfl dX8_givePasses_47 ?_
          refine lv_iload_n hx hb dX8_givePasses_50 rfl (lv_at hl_6 2 rfl) ?_
          refine k_putN (ty := .int) (k := 1) (r := 0) (k' := 7) hx hb tyX4 tyX4_ok nmX4 hts in_X8_givePasses_X4 hown hK hN hL hA hO (aY_lt (by decide) (by decide)) (ow_Y7 (w := 0) (by decide) (by decide)) (by omega) (fun Y => (cn_Y 0 0 (by decide))) (pf_Y7 0 0 (by decide)) rfl (by decide) nx_field_X8_131 rfl (by decide +kernel) rfl rfl (Nat.le_of_ble_eq_true rfl) dX8_givePasses_51 (fun H_8 locs_8 hO_8 => ?_)
          replace hf := zl_some hf
          obtain ⟨X_7, hX_7, hf⟩ := hf
          have hQ_8 := zo_eq hX_7 hO_8
          clear hO_8 hO
          refine lv_aload_n hx hb dX8_givePasses_54 rfl (lv_at hl_6 1 rfl) ?_
          refine k_get (k := 0) (v := .ref (L (aG 0))) hx hb hts in_X8_givePasses_X8 hown hK hQ_8 (by decide) rfl rfl (by decide) lk_X8_givePasses_f12 rfl dX8_givePasses_55 ?_
          refine k_getN (k := 5) (v := .ref (L (aY 0 1))) hx hb hts in_X8_givePasses_X0 hown hK hN hQ_8 (aG_lt (by decide)) (cn_G 0) rfl (by decide) nx_field_X8_229 rfl dX8_givePasses_58 ?_
          refine lv_iload_n hx hb dX8_givePasses_61 rfl (lv_at hl_6 3 rfl) ?_
          refine k_putN (ty := .int) (k := 1) (r := 0) (k' := 8) hx hb tyX4 tyX4_ok nmX4 hts in_X8_givePasses_X4 hown hK hN hL hA hQ_8 (aY_lt (by decide) (by decide)) (ow_Y7 (w := 1) (by decide) (by decide)) (by omega) (fun Y => (cn_Y 0 1 (by decide))) (pf_Y7 0 1 (by decide)) rfl (by decide) nx_field_X8_131 rfl (by decide +kernel) rfl rfl (Nat.le_of_ble_eq_true rfl) dX8_givePasses_62 (fun H_10 locs_10 hO_10 => ?_)
          replace hf := zl_some hf
          obtain ⟨X_9, hX_9, hf⟩ := hf
          have hQ_10 := zo_eq hX_9 hO_10
          clear hO_10 hQ_8
          refine lv_iload_n hx hb dX8_givePasses_65 rfl (lv_at hl_6 0 rfl) ?_
          obtain ⟨rfl, rfl⟩ := Prod.mk.inj (Option.some.inj hf)
          exact e_i hx hb hr hK hN hQ_10 hlocks dX8_givePasses_66
        · rw [if_neg c_4] at hf
          refine lv_bipush (v := (-2)) hx hb dX8_givePasses_18 (by decide) ?_
          obtain ⟨rfl, rfl⟩ := Prod.mk.inj (Option.some.inj hf)
          exact e_i hx hb hr hK hN hO hlocks dX8_givePasses_20
theorem in_X8_takeTokens_X8 : ∀ w ∈ u_ws RX8 TX8 8, w ∈ wsX8_takeTokens := by decide +kernel
theorem lk_X8_takeTokens_eX0_allows : Cond.selects RX0 yX0_allows yX0_allows ∈ wsX8_takeTokens := by decide +kernel
theorem lk_X8_takeTokens_eX0_hasPile : Cond.selects RX0 yX0_hasPile yX0_hasPile ∈ wsX8_takeTokens := by decide +kernel
theorem lk_X8_takeTokens_eX0_takeFrom : Cond.selects RX0 yX0_takeFrom yX0_takeFrom ∈ wsX8_takeTokens := by decide +kernel
theorem lk_X8_takeTokens_f12 : Cond.fieldLink RX8 12 "PoisonPiles" "now" "LPoisonPiles$Game;" ∈ wsX8_takeTokens := by decide +kernel
theorem lk_X8_takeTokens_iX0 : Cond.initialized RX0 ∈ wsX8_takeTokens := by decide +kernel
theorem lk_X8_takeTokens_mX0_allows : Cond.instanceMethod yX0_allows ∈ wsX8_takeTokens := by decide +kernel
theorem lk_X8_takeTokens_mX0_hasPile : Cond.instanceMethod yX0_hasPile ∈ wsX8_takeTokens := by decide +kernel
theorem lk_X8_takeTokens_mX0_takeFrom : Cond.instanceMethod yX0_takeFrom ∈ wsX8_takeTokens := by decide +kernel
def fX8_takeTokens  (a1 : Int32) (a2 : Int32) (X : XM) : Option (Int32 × XM) := zi (fX0_hasPile 0 a1 X) (fun r_2 X_1 => if r_2 = 0 then some ((-1), X_1) else if a2 < 1 then some ((-5), X_1) else if 5 < a2 then some ((-5), X_1) else zi (fX8_takeMove a1 a2 X_1) (fun r_8 X_7 => zi (fX0_allows 0 r_8 X_7) (fun r_11 X_10 => if r_11 = 0 then some ((-5), X_10) else zi (fX0_takeFrom 0 a1 a2 X_10) (fun r_15 X_14 => some (r_15, X_14)))))
set_option maxHeartbeats 4000000 in
set_option maxRecDepth 100000 in
theorem mX8_takeTokens (l : Launch) (D : va_G) (L : Nat → Nat) (ac : Nat → ClassId) (hL : LL L) (X : XM) (a1 : Int32) (a2 : Int32) (r0 : Int32) (X0 : XM) (hf : fX8_takeTokens a1 a2 X = some (r0, X0)) : Ci l yX8_takeTokens wsX8_takeTokens ({ frames := 3, cells := 0, slots := 0, locals := 68 }) D L ac X [.ref (L 0), .int a1, .int a2] r0 X0 := by
  refine Met.ofK (cc := cX8_takeTokens) (maxL := 3) (ret := (some .int)) (lv := [(0, .ref (L 0)), (1, .int a1), (2, .int a2)]) (by decide +kernel) rfl (Nat.le_of_ble_eq_true rfl) rfl ?_
  intro p e s m below meth c F hO ls hl
  obtain ⟨hx, hb, hr, hts, hown, hlocks, hml, hK, hN⟩ := id F
  have hA : ∀ q, fr L q → fr L q := fun q h => h
  unfold fX8_takeTokens at hf
  refine lv_aload_n hx hb dX8_takeTokens_0 rfl (lv_at hl 0 rfl) ?_
  refine k_get (k := 0) (v := .ref (L (aG 0))) hx hb hts in_X8_takeTokens_X8 hown hK hO (by decide) rfl rfl (by decide) lk_X8_takeTokens_f12 rfl dX8_takeTokens_1 ?_
  refine lv_iload_n hx hb dX8_takeTokens_4 rfl (lv_at hl 1 rfl) ?_
  replace hf := zi_some hf
  obtain ⟨r_2, X_1, hc_1, hf⟩ := hf
  refine k_ai (va_runVN (As := [.int a1]) (rest := []) ⟨hx, hb, hml, hown, hts⟩ (mX0_hasPile l D L ac hL _ 0 (by decide) a1 _ _ hc_1) ⟨va_cnB 1 hts gX8_takeTokens_X0_hasPile_n92 rfl rfl rfl (hN _ nx_method_X8_92) (hts _ lk_X8_takeTokens_iX0) (by decide +kernel) ⟨Nat.le_of_ble_eq_true rfl, Nat.le_of_ble_eq_true rfl⟩, hts _ lk_X8_takeTokens_mX0_hasPile, hts _ lk_X8_takeTokens_eX0_hasPile⟩ (k_pv (j := (aG 0)) hK hN hO (aG_lt (by decide)) (cn_G 0) rfl _) rfl rfl hl.1 rfl (lv_room (Nat.le_of_ble_eq_true rfl)) dX8_takeTokens_5 ⟨Nat.le_of_ble_eq_true rfl, Nat.le_of_ble_eq_true rfl⟩) hA hO (fun H_3 locs_3 hO_3 => ?_)
  clear hO
  refine lv_if_ne (tgt := 13) hx hb dX8_takeTokens_8 (by decide) (fun c_4 => ?_) (fun c_4 => ?_)
  · rw [if_neg c_4] at hf
    refine lv_iload_n hx hb dX8_takeTokens_13 rfl (lv_at hl 2 rfl) ?_
    refine lv_iconst (v := 1) hx hb dX8_takeTokens_14 (by decide) ?_
    refine lv_icmp_lt (tgt := 38) hx hb dX8_takeTokens_15 (by decide) (fun c_5 => ?_) (fun c_5 => ?_)
    · rw [if_pos c_5] at hf
      refine lv_bipush (v := (-5)) hx hb dX8_takeTokens_38 (by decide) ?_
      obtain ⟨rfl, rfl⟩ := Prod.mk.inj (Option.some.inj hf)
      exact e_i hx hb hr hK hN hO_3 hlocks dX8_takeTokens_40
    · rw [if_neg c_5] at hf
      refine lv_iload_n hx hb dX8_takeTokens_18 rfl (lv_at hl 2 rfl) ?_
      refine lv_iconst (v := 5) hx hb dX8_takeTokens_19 (by decide) ?_
      refine lv_icmp_gt (tgt := 38) hx hb dX8_takeTokens_20 (by decide) (fun c_6 => ?_) (fun c_6 => ?_)
      · rw [if_pos c_6] at hf
        refine lv_bipush (v := (-5)) hx hb dX8_takeTokens_38 (by decide) ?_
        obtain ⟨rfl, rfl⟩ := Prod.mk.inj (Option.some.inj hf)
        exact e_i hx hb hr hK hN hO_3 hlocks dX8_takeTokens_40
      · rw [if_neg c_6] at hf
        refine lv_aload_n hx hb dX8_takeTokens_23 rfl (lv_at hl 0 rfl) ?_
        refine k_get (k := 0) (v := .ref (L (aG 0))) hx hb hts in_X8_takeTokens_X8 hown hK hO_3 (by decide) rfl rfl (by decide) lk_X8_takeTokens_f12 rfl dX8_takeTokens_24 ?_
        refine lv_iload_n hx hb dX8_takeTokens_27 rfl (lv_at hl 1 rfl) ?_
        refine lv_iload_n hx hb dX8_takeTokens_28 rfl (lv_at hl 2 rfl) ?_
        replace hf := zi_some hf
        obtain ⟨r_8, X_7, hc_7, hf⟩ := hf
        refine k_ai (va_runS (As := [.int a1, .int a2]) (rest := [.ref (L (aG 0))]) ⟨hx, hb, hml, hown, hts⟩ (mX8_takeMove l D L ac hL _ a1 a2 _ _ hc_7) (va_cwS 2 hts gX8_takeTokens_X8_takeMove rfl rfl rfl (by decide +kernel) ⟨Nat.le_of_ble_eq_true rfl, Nat.le_of_ble_eq_true rfl⟩) (k_ps hK hN hO_3 _) rfl rfl hl.1 rfl (lv_room (Nat.le_of_ble_eq_true rfl)) dX8_takeTokens_29 ⟨Nat.le_of_ble_eq_true rfl, Nat.le_of_ble_eq_true rfl⟩) hA hO_3 (fun H_9 locs_9 hO_9 => ?_)
        clear hO_3
        replace hf := zi_some hf
        obtain ⟨r_11, X_10, hc_10, hf⟩ := hf
        refine k_ai (va_runVN (As := [.int r_8]) (rest := []) ⟨hx, hb, hml, hown, hts⟩ (mX0_allows l D L ac hL _ 0 (by decide) r_8 _ _ hc_10) ⟨va_cnB 1 hts gX8_takeTokens_X0_allows_n235 rfl rfl rfl (hN _ nx_method_X8_235) (hts _ lk_X8_takeTokens_iX0) (by decide +kernel) ⟨Nat.le_of_ble_eq_true rfl, Nat.le_of_ble_eq_true rfl⟩, hts _ lk_X8_takeTokens_mX0_allows, hts _ lk_X8_takeTokens_eX0_allows⟩ (k_pv (j := (aG 0)) hK hN hO_9 (aG_lt (by decide)) (cn_G 0) rfl _) rfl rfl hl.1 rfl (lv_room (Nat.le_of_ble_eq_true rfl)) dX8_takeTokens_32 ⟨Nat.le_of_ble_eq_true rfl, Nat.le_of_ble_eq_true rfl⟩) hA hO_9 (fun H_12 locs_12 hO_12 => ?_)
        clear hO_9
        refine lv_if_ne (tgt := 41) hx hb dX8_takeTokens_35 (by decide) (fun c_13 => ?_) (fun c_13 => ?_)
        · rw [if_neg c_13] at hf
          refine lv_aload_n hx hb dX8_takeTokens_41 rfl (lv_at hl 0 rfl) ?_
          refine k_get (k := 0) (v := .ref (L (aG 0))) hx hb hts in_X8_takeTokens_X8 hown hK hO_12 (by decide) rfl rfl (by decide) lk_X8_takeTokens_f12 rfl dX8_takeTokens_42 ?_
          refine lv_iload_n hx hb dX8_takeTokens_45 rfl (lv_at hl 1 rfl) ?_
          refine lv_iload_n hx hb dX8_takeTokens_46 rfl (lv_at hl 2 rfl) ?_
          replace hf := zi_some hf
          obtain ⟨r_15, X_14, hc_14, hf⟩ := hf
          refine k_ai (va_runVN (As := [.int a1, .int a2]) (rest := []) ⟨hx, hb, hml, hown, hts⟩ (mX0_takeFrom l D L ac hL _ 0 (by decide) a1 a2 _ _ hc_14) ⟨va_cnB 2 hts gX8_takeTokens_X0_takeFrom_n238 rfl rfl rfl (hN _ nx_method_X8_238) (hts _ lk_X8_takeTokens_iX0) (by decide +kernel) ⟨Nat.le_of_ble_eq_true rfl, Nat.le_of_ble_eq_true rfl⟩, hts _ lk_X8_takeTokens_mX0_takeFrom, hts _ lk_X8_takeTokens_eX0_takeFrom⟩ (k_pv (j := (aG 0)) hK hN hO_12 (aG_lt (by decide)) (cn_G 0) rfl _) rfl rfl hl.1 rfl (lv_room (Nat.le_of_ble_eq_true rfl)) dX8_takeTokens_47 ⟨Nat.le_of_ble_eq_true rfl, Nat.le_of_ble_eq_true rfl⟩) hA hO_12 (fun H_16 locs_16 hO_16 => ?_)
          clear hO_12
          obtain ⟨rfl, rfl⟩ := Prod.mk.inj (Option.some.inj hf)
          exact e_i hx hb hr hK hN hO_16 hlocks dX8_takeTokens_50
        · rw [if_pos c_13] at hf
          subst c_13
          refine lv_bipush (v := (-5)) hx hb dX8_takeTokens_38 (by decide) ?_
          obtain ⟨rfl, rfl⟩ := Prod.mk.inj (Option.some.inj hf)
          exact e_i hx hb hr hK hN hO_12 hlocks dX8_takeTokens_40
  · rw [if_pos c_4] at hf
    subst c_4
    refine lv_iconst (v := (-1)) hx hb dX8_takeTokens_11 (by decide) ?_
    obtain ⟨rfl, rfl⟩ := Prod.mk.inj (Option.some.inj hf)
    exact e_i hx hb hr hK hN hO_3 hlocks dX8_takeTokens_12
theorem in_X8_usePass_X8 : ∀ w ∈ u_ws RX8 TX8 8, w ∈ wsX8_usePass := by decide +kernel
theorem lk_X8_usePass_eX0_allows : Cond.selects RX0 yX0_allows yX0_allows ∈ wsX8_usePass := by decide +kernel
theorem lk_X8_usePass_eX0_usePass : Cond.selects RX0 yX0_usePass yX0_usePass ∈ wsX8_usePass := by decide +kernel
theorem lk_X8_usePass_f12 : Cond.fieldLink RX8 12 "PoisonPiles" "now" "LPoisonPiles$Game;" ∈ wsX8_usePass := by decide +kernel
theorem lk_X8_usePass_iX0 : Cond.initialized RX0 ∈ wsX8_usePass := by decide +kernel
theorem lk_X8_usePass_mX0_allows : Cond.instanceMethod yX0_allows ∈ wsX8_usePass := by decide +kernel
theorem lk_X8_usePass_mX0_usePass : Cond.instanceMethod yX0_usePass ∈ wsX8_usePass := by decide +kernel
def fX8_usePass   (X : XM) : Option (Int32 × XM) := zi (fX0_allows 0 20 X) (fun r_2 X_1 => if r_2 = 0 then some ((-5), X_1) else zi (fX0_usePass 0 X_1) (fun r_6 X_5 => some (r_6, X_5)))
set_option maxHeartbeats 4000000 in
set_option maxRecDepth 100000 in
theorem mX8_usePass (l : Launch) (D : va_G) (L : Nat → Nat) (ac : Nat → ClassId) (hL : LL L) (X : XM)  (r0 : Int32) (X0 : XM) (hf : fX8_usePass  X = some (r0, X0)) : Ci l yX8_usePass wsX8_usePass ({ frames := 3, cells := 0, slots := 0, locals := 68 }) D L ac X [.ref (L 0)] r0 X0 := by
  refine Met.ofK (cc := cX8_usePass) (maxL := 1) (ret := (some .int)) (lv := [(0, .ref (L 0))]) (by decide +kernel) rfl (Nat.le_of_ble_eq_true rfl) rfl ?_
  intro p e s m below meth c F hO ls hl
  obtain ⟨hx, hb, hr, hts, hown, hlocks, hml, hK, hN⟩ := id F
  have hA : ∀ q, fr L q → fr L q := fun q h => h
  unfold fX8_usePass at hf
  refine lv_aload_n hx hb dX8_usePass_0 rfl (lv_at hl 0 rfl) ?_
  refine k_get (k := 0) (v := .ref (L (aG 0))) hx hb hts in_X8_usePass_X8 hown hK hO (by decide) rfl rfl (by decide) lk_X8_usePass_f12 rfl dX8_usePass_1 ?_
  refine lv_bipush (v := 20) hx hb dX8_usePass_4 (by decide) ?_
  replace hf := zi_some hf
  obtain ⟨r_2, X_1, hc_1, hf⟩ := hf
  refine k_ai (va_runVN (As := [.int 20]) (rest := []) ⟨hx, hb, hml, hown, hts⟩ (mX0_allows l D L ac hL _ 0 (by decide) 20 _ _ hc_1) ⟨va_cnB 1 hts gX8_usePass_X0_allows_n235 rfl rfl rfl (hN _ nx_method_X8_235) (hts _ lk_X8_usePass_iX0) (by decide +kernel) ⟨Nat.le_of_ble_eq_true rfl, Nat.le_of_ble_eq_true rfl⟩, hts _ lk_X8_usePass_mX0_allows, hts _ lk_X8_usePass_eX0_allows⟩ (k_pv (j := (aG 0)) hK hN hO (aG_lt (by decide)) (cn_G 0) rfl _) rfl rfl hl.1 rfl (lv_room (Nat.le_of_ble_eq_true rfl)) dX8_usePass_6 ⟨Nat.le_of_ble_eq_true rfl, Nat.le_of_ble_eq_true rfl⟩) hA hO (fun H_3 locs_3 hO_3 => ?_)
  clear hO
  refine lv_if_eq (tgt := 22) hx hb dX8_usePass_9 (by decide) (fun c_4 => ?_) (fun c_4 => ?_)
  · rw [if_pos c_4] at hf
    subst c_4
    refine lv_bipush (v := (-5)) hx hb dX8_usePass_22 (by decide) ?_
    obtain ⟨rfl, rfl⟩ := Prod.mk.inj (Option.some.inj hf)
    exact e_i hx hb hr hK hN hO_3 hlocks dX8_usePass_24
  · rw [if_neg c_4] at hf
    refine lv_aload_n hx hb dX8_usePass_12 rfl (lv_at hl 0 rfl) ?_
    refine k_get (k := 0) (v := .ref (L (aG 0))) hx hb hts in_X8_usePass_X8 hown hK hO_3 (by decide) rfl rfl (by decide) lk_X8_usePass_f12 rfl dX8_usePass_13 ?_
    replace hf := zi_some hf
    obtain ⟨r_6, X_5, hc_5, hf⟩ := hf
    refine k_ai (va_runVN (As := []) (rest := []) ⟨hx, hb, hml, hown, hts⟩ (mX0_usePass l D L ac hL _ 0 (by decide) _ _ hc_5) ⟨va_cnB 0 hts gX8_usePass_X0_usePass_n241 rfl rfl rfl (hN _ nx_method_X8_241) (hts _ lk_X8_usePass_iX0) (by decide +kernel) ⟨Nat.le_of_ble_eq_true rfl, Nat.le_of_ble_eq_true rfl⟩, hts _ lk_X8_usePass_mX0_usePass, hts _ lk_X8_usePass_eX0_usePass⟩ (k_pv (j := (aG 0)) hK hN hO_3 (aG_lt (by decide)) (cn_G 0) rfl _) rfl rfl hl.1 rfl (lv_room (Nat.le_of_ble_eq_true rfl)) dX8_usePass_16 ⟨Nat.le_of_ble_eq_true rfl, Nat.le_of_ble_eq_true rfl⟩) hA hO_3 (fun H_7 locs_7 hO_7 => ?_)
    clear hO_3
    refine lv_goto (tgt := 24) hx hb dX8_usePass_19 (by decide) ?_
    obtain ⟨rfl, rfl⟩ := Prod.mk.inj (Option.some.inj hf)
    exact e_i hx hb hr hK hN hO_7 hlocks dX8_usePass_24
theorem in_X8_playOn_X8 : ∀ w ∈ u_ws RX8 TX8 8, w ∈ wsX8_playOn := by decide +kernel
theorem lk_X8_playOn_eX0_isOver : Cond.selects RX0 yX0_isOver yX0_isOver ∈ wsX8_playOn := by decide +kernel
theorem lk_X8_playOn_eX0_make : Cond.selects RX0 yX0_make yX0_make ∈ wsX8_playOn := by decide +kernel
theorem lk_X8_playOn_eX7_bestMove : Cond.selects RX7 yX7_bestMove yX7_bestMove ∈ wsX8_playOn := by decide +kernel
theorem lk_X8_playOn_f12 : Cond.fieldLink RX8 12 "PoisonPiles" "now" "LPoisonPiles$Game;" ∈ wsX8_playOn := by decide +kernel
theorem lk_X8_playOn_f38 : Cond.fieldLink RX8 38 "PoisonPiles" "solver" "LPoisonPiles$Solver;" ∈ wsX8_playOn := by decide +kernel
theorem lk_X8_playOn_iX0 : Cond.initialized RX0 ∈ wsX8_playOn := by decide +kernel
theorem lk_X8_playOn_iX7 : Cond.initialized RX7 ∈ wsX8_playOn := by decide +kernel
theorem lk_X8_playOn_mX0_isOver : Cond.instanceMethod yX0_isOver ∈ wsX8_playOn := by decide +kernel
theorem lk_X8_playOn_mX0_make : Cond.instanceMethod yX0_make ∈ wsX8_playOn := by decide +kernel
theorem lk_X8_playOn_mX7_bestMove : Cond.instanceMethod yX7_bestMove ∈ wsX8_playOn := by decide +kernel
def fX8_playOn_29   : Nat → Int32 → Int32 → XM → Option (Int32 × XM)
  | 0, _, _, _ => none
  | n + 1, x1, x2, X => if x1 ≤ x2 then some (x2, X) else zi (fX0_isOver 0 X) (fun r_3 X_2 => if r_3 = 0 then zi (fX7_bestMove 0 X_2) (fun r_7 X_6 => zv (fX0_make 0 r_7 X_6) (fun X_9 => fX8_playOn_29 n x1 (x2 + 1) X_9)) else some (x2, X_2))
set_option maxHeartbeats 4000000 in
set_option maxRecDepth 100000 in
theorem wX8_playOn_29 {p : Program} {l : Launch} {e : Env} {s : State} {m : MethodId} {args : Array Value} {below : List Frame} {meth : Method} {c : Code} {D : va_G} {L : Nat → Nat} {ac : Nat → ClassId} {r0 : Int32} {X0 : XM} (hL : LL L) (F : Fx p s m args meth c cX8_playOn 3 (some .int) wsX8_playOn yX8_playOn.cls D ac) : ∀ (n : Nat) (x1 : Int32) (x2 : Int32) (X : XM) (H : Heap) (locs : List Loc) (ls : Array Slot), Oh D L ac X (fr L) s.heap H locs → lv_has ls 3 [(0, .ref (L 0)), (1, .int x1), (2, .int x2)] → fX8_playOn_29 n x1 x2 X = some (r0, X0) → W p l e (headSpec wsX8_playOn ({ frames := 65, cells := 0, slots := 0, locals := 1983 })).room s m args below meth c H locs 0 0 (MQ below (va_Qi (fun (r : Int32) (Y : XM) => r = r0 ∧ Y = X0) (fun (Y : XM) t => St D L ac Y t) (fr L)) args s 0 0 (fr L)) (F0 m 29 ls []) := by
  obtain ⟨hx, hb, hr, hts, hown, hlocks, hml, hK, hN⟩ := id F
  have hA : ∀ q, fr L q → fr L q := fun q h => h
  intro n
  induction n with
  | zero => intro x1 x2 X H locs ls hO hl hf; simp [fX8_playOn_29] at hf
  | succ n ih =>
    intro x1 x2 X H locs ls hO hl hf
    rw [fX8_playOn_29] at hf
    refine lv_iload_n hx hb dX8_playOn_29 rfl (lv_at hl 2 rfl) ?_
    refine lv_iload_n hx hb dX8_playOn_30 rfl (lv_at hl 1 rfl) ?_
    refine lv_icmp_ge (tgt := 68) hx hb dX8_playOn_31 (by decide) (fun c_1 => ?_) (fun c_1 => ?_)
    · rw [if_pos c_1] at hf
      refine lv_iload_n hx hb dX8_playOn_68 rfl (lv_at hl 2 rfl) ?_
      obtain ⟨rfl, rfl⟩ := Prod.mk.inj (Option.some.inj hf)
      exact e_i hx hb hr hK hN hO hlocks dX8_playOn_69
    · rw [if_neg c_1] at hf
      refine lv_aload_n hx hb dX8_playOn_34 rfl (lv_at hl 0 rfl) ?_
      refine k_get (k := 0) (v := .ref (L (aG 0))) hx hb hts in_X8_playOn_X8 hown hK hO (by decide) rfl rfl (by decide) lk_X8_playOn_f12 rfl dX8_playOn_35 ?_
      replace hf := zi_some hf
      obtain ⟨r_3, X_2, hc_2, hf⟩ := hf
      refine k_ai (va_runVN (As := []) (rest := []) ⟨hx, hb, hml, hown, hts⟩ (mX0_isOver l D L ac hL _ 0 (by decide) _ _ hc_2) ⟨va_cnB 0 hts gX8_playOn_X0_isOver_n143 rfl rfl rfl (hN _ nx_method_X8_143) (hts _ lk_X8_playOn_iX0) (by decide +kernel) ⟨Nat.le_of_ble_eq_true rfl, Nat.le_of_ble_eq_true rfl⟩, hts _ lk_X8_playOn_mX0_isOver, hts _ lk_X8_playOn_eX0_isOver⟩ (k_pv (j := (aG 0)) hK hN hO (aG_lt (by decide)) (cn_G 0) rfl _) rfl rfl hl.1 rfl (lv_room (Nat.le_of_ble_eq_true rfl)) dX8_playOn_38 ⟨Nat.le_of_ble_eq_true rfl, Nat.le_of_ble_eq_true rfl⟩) hA hO (fun H_4 locs_4 hO_4 => ?_)
      clear hO
      refine lv_if_ne (tgt := 68) hx hb dX8_playOn_41 (by decide) (fun c_5 => ?_) (fun c_5 => ?_)
      · rw [if_neg c_5] at hf
        refine lv_iload_n hx hb dX8_playOn_68 rfl (lv_at hl 2 rfl) ?_
        obtain ⟨rfl, rfl⟩ := Prod.mk.inj (Option.some.inj hf)
        exact e_i hx hb hr hK hN hO_4 hlocks dX8_playOn_69
      · rw [if_pos c_5] at hf
        subst c_5
        refine lv_aload_n hx hb dX8_playOn_44 rfl (lv_at hl 0 rfl) ?_
        refine k_get (k := 0) (v := .ref (L (aG 0))) hx hb hts in_X8_playOn_X8 hown hK hO_4 (by decide) rfl rfl (by decide) lk_X8_playOn_f12 rfl dX8_playOn_45 ?_
        refine lv_aload_n hx hb dX8_playOn_48 rfl (lv_at hl 0 rfl) ?_
        refine k_get (k := 5) (v := .ref (L 6)) hx hb hts in_X8_playOn_X8 hown hK hO_4 (by decide) rfl rfl (by decide) lk_X8_playOn_f38 rfl dX8_playOn_49 ?_
        refine lv_aload_n hx hb dX8_playOn_52 rfl (lv_at hl 0 rfl) ?_
        refine k_get (k := 0) (v := .ref (L (aG 0))) hx hb hts in_X8_playOn_X8 hown hK hO_4 (by decide) rfl rfl (by decide) lk_X8_playOn_f12 rfl dX8_playOn_53 ?_
        replace hf := zi_some hf
        obtain ⟨r_7, X_6, hc_6, hf⟩ := hf
        refine k_ai (va_runVN (As := [.ref (L (aG 0))]) (rest := [.ref (L (aG 0))]) ⟨hx, hb, hml, hown, hts⟩ (mX7_bestMove l D L ac hL _ 0 (by decide) _ _ hc_6) ⟨va_cnB 1 hts gX8_playOn_X7_bestMove_n179 rfl rfl rfl (hN _ nx_method_X8_179) (hts _ lk_X8_playOn_iX7) (by decide +kernel) ⟨Nat.le_of_ble_eq_true rfl, Nat.le_of_ble_eq_true rfl⟩, hts _ lk_X8_playOn_mX7_bestMove, hts _ lk_X8_playOn_eX7_bestMove⟩ (k_pv (j := 6) hK hN hO_4 (by decide) rfl rfl _) rfl rfl hl.1 rfl (lv_room (Nat.le_of_ble_eq_true rfl)) dX8_playOn_56 ⟨Nat.le_of_ble_eq_true rfl, Nat.le_of_ble_eq_true rfl⟩) hA hO_4 (fun H_8 locs_8 hO_8 => ?_)
        clear hO_4
        replace hf := zv_some hf
        obtain ⟨X_9, hc_9, hf⟩ := hf
        refine k_av (va_runVN (As := [.int r_7]) (rest := []) ⟨hx, hb, hml, hown, hts⟩ (mX0_make l D L ac hL _ 0 (by decide) r_7 _ hc_9) ⟨va_cnB 1 hts gX8_playOn_X0_make_n242 rfl rfl rfl (hN _ nx_method_X8_242) (hts _ lk_X8_playOn_iX0) (by decide +kernel) ⟨Nat.le_of_ble_eq_true rfl, Nat.le_of_ble_eq_true rfl⟩, hts _ lk_X8_playOn_mX0_make, hts _ lk_X8_playOn_eX0_make⟩ (k_pv (j := (aG 0)) hK hN hO_8 (aG_lt (by decide)) (cn_G 0) rfl _) rfl rfl hl.1 rfl (lv_room (Nat.le_of_ble_eq_true rfl)) dX8_playOn_59 ⟨Nat.le_of_ble_eq_true rfl, Nat.le_of_ble_eq_true rfl⟩) hA hO_8 (fun H_10 locs_10 hO_10 => ?_)
        clear hO_8
        refine lv_iinc (v := x2 + 1) (lv' := [(2, .int (x2 + 1)), (0, .ref (L 0)), (1, .int x1)]) hx hb dX8_playOn_62 hl (k := 2) rfl rfl (by decide) rfl (fun ls_11 hl_11 => ?_)
        clear hl
        refine lv_goto (tgt := 29) hx hb dX8_playOn_65 (by decide) ?_
        exact ih _ _ _  _ _ _ hO_10 (lv_sub hl_11 [1, 2, 0] rfl) hf
def fX8_playOn  (a1 : Int32) (X : XM) : Option (Int32 × XM) := if a1 < 1 then some ((-2), X) else if a1 ≤ 40 then zi (fX0_isOver 0 X) (fun r_15 X_14 => if r_15 = 0 then fX8_playOn_29 fuel a1 0 X_14 else some ((-5), X_14)) else some ((-2), X)
set_option maxHeartbeats 4000000 in
set_option maxRecDepth 100000 in
theorem mX8_playOn (l : Launch) (D : va_G) (L : Nat → Nat) (ac : Nat → ClassId) (hL : LL L) (X : XM) (a1 : Int32) (r0 : Int32) (X0 : XM) (hf : fX8_playOn a1 X = some (r0, X0)) : Ci l yX8_playOn wsX8_playOn ({ frames := 65, cells := 0, slots := 0, locals := 1983 }) D L ac X [.ref (L 0), .int a1] r0 X0 := by
  refine Met.ofK (cc := cX8_playOn) (maxL := 3) (ret := (some .int)) (lv := [(0, .ref (L 0)), (1, .int a1)]) (by decide +kernel) rfl (Nat.le_of_ble_eq_true rfl) rfl ?_
  intro p e s m below meth c F hO ls hl
  obtain ⟨hx, hb, hr, hts, hown, hlocks, hml, hK, hN⟩ := id F
  have hA : ∀ q, fr L q → fr L q := fun q h => h
  unfold fX8_playOn at hf
  refine lv_iload_n hx hb dX8_playOn_0 rfl (lv_at hl 1 rfl) ?_
  refine lv_iconst (v := 1) hx hb dX8_playOn_1 (by decide) ?_
  refine lv_icmp_lt (tgt := 11) hx hb dX8_playOn_2 (by decide) (fun c_12 => ?_) (fun c_12 => ?_)
  · rw [if_pos c_12] at hf
    refine lv_bipush (v := (-2)) hx hb dX8_playOn_11 (by decide) ?_
    obtain ⟨rfl, rfl⟩ := Prod.mk.inj (Option.some.inj hf)
    exact e_i hx hb hr hK hN hO hlocks dX8_playOn_13
  · rw [if_neg c_12] at hf
    refine lv_iload_n hx hb dX8_playOn_5 rfl (lv_at hl 1 rfl) ?_
    refine lv_bipush (v := 40) hx hb dX8_playOn_6 (by decide) ?_
    refine lv_icmp_le (tgt := 14) hx hb dX8_playOn_8 (by decide) (fun c_13 => ?_) (fun c_13 => ?_)
    · rw [if_pos c_13] at hf
      refine lv_aload_n hx hb dX8_playOn_14 rfl (lv_at hl 0 rfl) ?_
      refine k_get (k := 0) (v := .ref (L (aG 0))) hx hb hts in_X8_playOn_X8 hown hK hO (by decide) rfl rfl (by decide) lk_X8_playOn_f12 rfl dX8_playOn_15 ?_
      replace hf := zi_some hf
      obtain ⟨r_15, X_14, hc_14, hf⟩ := hf
      refine k_ai (va_runVN (As := []) (rest := []) ⟨hx, hb, hml, hown, hts⟩ (mX0_isOver l D L ac hL _ 0 (by decide) _ _ hc_14) ⟨va_cnB 0 hts gX8_playOn_X0_isOver_n143 rfl rfl rfl (hN _ nx_method_X8_143) (hts _ lk_X8_playOn_iX0) (by decide +kernel) ⟨Nat.le_of_ble_eq_true rfl, Nat.le_of_ble_eq_true rfl⟩, hts _ lk_X8_playOn_mX0_isOver, hts _ lk_X8_playOn_eX0_isOver⟩ (k_pv (j := (aG 0)) hK hN hO (aG_lt (by decide)) (cn_G 0) rfl _) rfl rfl hl.1 rfl (lv_room (Nat.le_of_ble_eq_true rfl)) dX8_playOn_18 ⟨Nat.le_of_ble_eq_true rfl, Nat.le_of_ble_eq_true rfl⟩) hA hO (fun H_16 locs_16 hO_16 => ?_)
      clear hO
      refine lv_if_eq (tgt := 27) hx hb dX8_playOn_21 (by decide) (fun c_17 => ?_) (fun c_17 => ?_)
      · rw [if_pos c_17] at hf
        subst c_17
        refine lv_iconst (v := 0) hx hb dX8_playOn_27 (by decide) ?_
        refine lv_istore_n (lv' := [(2, .int 0), (0, .ref (L 0)), (1, .int a1)]) hx hb dX8_playOn_28 rfl hl (by decide) rfl (fun ls_18 hl_18 => ?_)
        clear hl
        exact wX8_playOn_29 hL F  fuel _ _ _  _ _ _ hO_16 (lv_sub hl_18 [1, 2, 0] rfl) hf
      · rw [if_neg c_17] at hf
        refine lv_bipush (v := (-5)) hx hb dX8_playOn_24 (by decide) ?_
        obtain ⟨rfl, rfl⟩ := Prod.mk.inj (Option.some.inj hf)
        exact e_i hx hb hr hK hN hO_16 hlocks dX8_playOn_26
    · rw [if_neg c_13] at hf
      refine lv_bipush (v := (-2)) hx hb dX8_playOn_11 (by decide) ?_
      obtain ⟨rfl, rfl⟩ := Prod.mk.inj (Option.some.inj hf)
      exact e_i hx hb hr hK hN hO hlocks dX8_playOn_13
theorem in_X8_carryOutPile_X8 : ∀ w ∈ u_ws RX8 TX8 8, w ∈ wsX8_carryOutPile := by decide +kernel
theorem lk_X8_carryOutPile_eX2_at : Cond.selects RX2 yX2_at yX2_at ∈ wsX8_carryOutPile := by decide +kernel
theorem lk_X8_carryOutPile_eX2_digitAt : Cond.selects RX2 yX2_digitAt yX2_digitAt ∈ wsX8_carryOutPile := by decide +kernel
theorem lk_X8_carryOutPile_f52 : Cond.fieldLink RX8 52 "PoisonPiles" "pad" "LPoisonPiles$Pad;" ∈ wsX8_carryOutPile := by decide +kernel
theorem lk_X8_carryOutPile_iX2 : Cond.initialized RX2 ∈ wsX8_carryOutPile := by decide +kernel
theorem lk_X8_carryOutPile_mX2_at : Cond.instanceMethod yX2_at ∈ wsX8_carryOutPile := by decide +kernel
theorem lk_X8_carryOutPile_mX2_digitAt : Cond.instanceMethod yX2_digitAt ∈ wsX8_carryOutPile := by decide +kernel
def fX8_carryOutPile  (a1 : Int32) (X : XM) : Option (Int32 × XM) := zi (fX2_at (a1 + 2) X) (fun r_2 X_1 => if r_2 = 119 then zi (fX2_digitAt (a1 + 3) X_1) (fun r_30 X_29 => zi (fX2_at (a1 + 4) X_29) (fun r_35 X_34 => if r_35 = 33 then zi (fX2_digitAt (a1 + 1) X_34) (fun r_47 X_46 => zi (fX8_addPile r_47 r_30 1 X_46) (fun r_50 X_49 => some (r_50, X_49))) else zi (fX2_digitAt (a1 + 1) X_34) (fun r_40 X_39 => zi (fX8_addPile r_40 r_30 0 X_39) (fun r_43 X_42 => some (r_43, X_42))))) else zi (fX2_at (a1 + 2) X_1) (fun r_10 X_9 => if r_10 = 33 then zi (fX2_digitAt (a1 + 1) X_9) (fun r_22 X_21 => zi (fX8_addPile r_22 1 1 X_21) (fun r_25 X_24 => some (r_25, X_24))) else zi (fX2_digitAt (a1 + 1) X_9) (fun r_15 X_14 => zi (fX8_addPile r_15 1 0 X_14) (fun r_18 X_17 => some (r_18, X_17)))))
set_option maxHeartbeats 4000000 in
set_option maxRecDepth 100000 in
theorem mX8_carryOutPile (l : Launch) (D : va_G) (L : Nat → Nat) (ac : Nat → ClassId) (hL : LL L) (X : XM) (a1 : Int32) (r0 : Int32) (X0 : XM) (hf : fX8_carryOutPile a1 X = some (r0, X0)) : Ci l yX8_carryOutPile wsX8_carryOutPile ({ frames := 2, cells := 0, slots := 0, locals := 47 }) D L ac X [.ref (L 0), .int a1] r0 X0 := by
  refine Met.ofK (cc := cX8_carryOutPile) (maxL := 5) (ret := (some .int)) (lv := [(0, .ref (L 0)), (1, .int a1)]) (by decide +kernel) rfl (Nat.le_of_ble_eq_true rfl) rfl ?_
  intro p e s m below meth c F hO ls hl
  obtain ⟨hx, hb, hr, hts, hown, hlocks, hml, hK, hN⟩ := id F
  have hA : ∀ q, fr L q → fr L q := fun q h => h
  unfold fX8_carryOutPile at hf
  refine lv_aload_n hx hb dX8_carryOutPile_0 rfl (lv_at hl 0 rfl) ?_
  refine k_get (k := 7) (v := .ref (L 13)) hx hb hts in_X8_carryOutPile_X8 hown hK hO (by decide) rfl rfl (by decide) lk_X8_carryOutPile_f52 rfl dX8_carryOutPile_1 ?_
  refine lv_iload_n hx hb dX8_carryOutPile_4 rfl (lv_at hl 1 rfl) ?_
  refine lv_iconst (v := 2) hx hb dX8_carryOutPile_5 (by decide) ?_
  refine lv_iadd hx hb dX8_carryOutPile_6 ?_
  replace hf := zi_some hf
  obtain ⟨r_2, X_1, hc_1, hf⟩ := hf
  refine k_ai (va_runVN (As := [.int (a1 + 2)]) (rest := []) ⟨hx, hb, hml, hown, hts⟩ (mX2_at l D L ac hL _ (a1 + 2) _ _ hc_1) ⟨va_cnB 1 hts gX8_carryOutPile_X2_at_n246 rfl rfl rfl (hN _ nx_method_X8_246) (hts _ lk_X8_carryOutPile_iX2) (by decide +kernel) ⟨Nat.le_of_ble_eq_true rfl, Nat.le_of_ble_eq_true rfl⟩, hts _ lk_X8_carryOutPile_mX2_at, hts _ lk_X8_carryOutPile_eX2_at⟩ (k_pv (j := 13) hK hN hO (by decide) rfl rfl _) rfl rfl hl.1 rfl (lv_room (Nat.le_of_ble_eq_true rfl)) dX8_carryOutPile_7 ⟨Nat.le_of_ble_eq_true rfl, Nat.le_of_ble_eq_true rfl⟩) hA hO (fun H_3 locs_3 hO_3 => ?_)
  clear hO
  refine lv_bipush (v := 119) hx hb dX8_carryOutPile_10 (by decide) ?_
  refine lv_icmp_ne (tgt := 19) hx hb dX8_carryOutPile_12 (by decide) (fun c_4 => ?_) (fun c_4 => ?_)
  · rw [if_neg c_4] at hf
    refine lv_iconst (v := 0) hx hb dX8_carryOutPile_19 (by decide) ?_
    refine lv_istore_n (lv' := [(2, .int 0), (0, .ref (L 0)), (1, .int a1)]) hx hb dX8_carryOutPile_20 rfl hl (by decide) rfl (fun ls_5 hl_5 => ?_)
    clear hl
    refine lv_iload_n hx hb dX8_carryOutPile_21 rfl (lv_at hl_5 0 rfl) ?_
    refine lv_if_eq (tgt := 38) hx hb dX8_carryOutPile_22 (by decide) (fun _ => ?_) (fun c_6 => absurd (by decide) c_6)
    refine lv_iconst (v := 1) hx hb dX8_carryOutPile_38 (by decide) ?_
    refine lv_istore_n (lv' := [(3, .int 1), (2, .int 0), (0, .ref (L 0)), (1, .int a1)]) hx hb dX8_carryOutPile_39 rfl hl_5 (by decide) rfl (fun ls_7 hl_7 => ?_)
    clear hl_5
    refine lv_aload_n hx hb dX8_carryOutPile_40 rfl (lv_at hl_7 2 rfl) ?_
    refine k_get (k := 7) (v := .ref (L 13)) hx hb hts in_X8_carryOutPile_X8 hown hK hO_3 (by decide) rfl rfl (by decide) lk_X8_carryOutPile_f52 rfl dX8_carryOutPile_41 ?_
    refine lv_iload_n hx hb dX8_carryOutPile_44 rfl (lv_at hl_7 1 rfl) ?_
    refine lv_if_eq (tgt := 54) hx hb dX8_carryOutPile_45 (by decide) (fun _ => ?_) (fun c_8 => absurd (by decide) c_8)
    refine lv_iload_n hx hb dX8_carryOutPile_54 rfl (lv_at hl_7 3 rfl) ?_
    refine lv_iconst (v := 2) hx hb dX8_carryOutPile_55 (by decide) ?_
    refine lv_iadd hx hb dX8_carryOutPile_56 ?_
    replace hf := zi_some hf
    obtain ⟨r_10, X_9, hc_9, hf⟩ := hf
    refine k_ai (va_runVN (As := [.int (a1 + 2)]) (rest := []) ⟨hx, hb, hml, hown, hts⟩ (mX2_at l D L ac hL _ (a1 + 2) _ _ hc_9) ⟨va_cnB 1 hts gX8_carryOutPile_X2_at_n246 rfl rfl rfl (hN _ nx_method_X8_246) (hts _ lk_X8_carryOutPile_iX2) (by decide +kernel) ⟨Nat.le_of_ble_eq_true rfl, Nat.le_of_ble_eq_true rfl⟩, hts _ lk_X8_carryOutPile_mX2_at, hts _ lk_X8_carryOutPile_eX2_at⟩ (k_pv (j := 13) hK hN hO_3 (by decide) rfl rfl _) rfl rfl hl_7.1 rfl (lv_room (Nat.le_of_ble_eq_true rfl)) dX8_carryOutPile_57 ⟨Nat.le_of_ble_eq_true rfl, Nat.le_of_ble_eq_true rfl⟩) hA hO_3 (fun H_11 locs_11 hO_11 => ?_)
    clear hO_3
    refine lv_bipush (v := 33) hx hb dX8_carryOutPile_60 (by decide) ?_
    refine lv_icmp_ne (tgt := 69) hx hb dX8_carryOutPile_62 (by decide) (fun c_12 => ?_) (fun c_12 => ?_)
    · rw [if_neg c_12] at hf
      refine lv_iconst (v := 0) hx hb dX8_carryOutPile_69 (by decide) ?_
      refine lv_istore (lv' := [(4, .int 0), (3, .int 1), (2, .int 0), (0, .ref (L 0)), (1, .int a1)]) hx hb dX8_carryOutPile_70 hl_7 (by decide) rfl (fun ls_13 hl_13 => ?_)
      clear hl_7
      refine lv_aload_n hx hb dX8_carryOutPile_72 rfl (lv_at hl_13 3 rfl) ?_
      refine lv_aload_n hx hb dX8_carryOutPile_73 rfl (lv_at hl_13 3 rfl) ?_
      refine k_get (k := 7) (v := .ref (L 13)) hx hb hts in_X8_carryOutPile_X8 hown hK hO_11 (by decide) rfl rfl (by decide) lk_X8_carryOutPile_f52 rfl dX8_carryOutPile_74 ?_
      refine lv_iload_n hx hb dX8_carryOutPile_77 rfl (lv_at hl_13 4 rfl) ?_
      refine lv_iconst (v := 1) hx hb dX8_carryOutPile_78 (by decide) ?_
      refine lv_iadd hx hb dX8_carryOutPile_79 ?_
      replace hf := zi_some hf
      obtain ⟨r_15, X_14, hc_14, hf⟩ := hf
      refine k_ai (va_runVN (As := [.int (a1 + 1)]) (rest := [.ref (L 0)]) ⟨hx, hb, hml, hown, hts⟩ (mX2_digitAt l D L ac hL _ (a1 + 1) _ _ hc_14) ⟨va_cnB 1 hts gX8_carryOutPile_X2_digitAt_n253 rfl rfl rfl (hN _ nx_method_X8_253) (hts _ lk_X8_carryOutPile_iX2) (by decide +kernel) ⟨Nat.le_of_ble_eq_true rfl, Nat.le_of_ble_eq_true rfl⟩, hts _ lk_X8_carryOutPile_mX2_digitAt, hts _ lk_X8_carryOutPile_eX2_digitAt⟩ (k_pv (j := 13) hK hN hO_11 (by decide) rfl rfl _) rfl rfl hl_13.1 rfl (lv_room (Nat.le_of_ble_eq_true rfl)) dX8_carryOutPile_80 ⟨Nat.le_of_ble_eq_true rfl, Nat.le_of_ble_eq_true rfl⟩) hA hO_11 (fun H_16 locs_16 hO_16 => ?_)
      clear hO_11
      refine lv_iload_n hx hb dX8_carryOutPile_83 rfl (lv_at hl_13 1 rfl) ?_
      refine lv_iload hx hb dX8_carryOutPile_84 (lv_at hl_13 0 rfl) ?_
      replace hf := zi_some hf
      obtain ⟨r_18, X_17, hc_17, hf⟩ := hf
      refine k_ai (va_runV (As := [.int r_15, .int 1, .int 0]) (rest := []) ⟨hx, hb, hml, hown, hts⟩ (mX8_addPile l D L ac hL _ r_15 1 0 _ _ hc_17) (cwV 3 hts gX8_carryOutPile_X8_addPile rfl rfl rfl (by decide +kernel) ⟨Nat.le_of_ble_eq_true rfl, Nat.le_of_ble_eq_true rfl⟩) (k_pv (j := 0) hK hN hO_16 (by decide) rfl rfl _) rfl rfl hl_13.1 rfl (lv_room (Nat.le_of_ble_eq_true rfl)) dX8_carryOutPile_86 ⟨Nat.le_of_ble_eq_true rfl, Nat.le_of_ble_eq_true rfl⟩) hA hO_16 (fun H_19 locs_19 hO_19 => ?_)
      clear hO_16
      obtain ⟨rfl, rfl⟩ := Prod.mk.inj (Option.some.inj hf)
      exact e_i hx hb hr hK hN hO_19 hlocks dX8_carryOutPile_89
    · rw [if_pos c_12] at hf
      subst c_12
      refine lv_iconst (v := 1) hx hb dX8_carryOutPile_65 (by decide) ?_
      refine lv_goto (tgt := 70) hx hb dX8_carryOutPile_66 (by decide) ?_
      refine lv_istore (lv' := [(4, .int 1), (3, .int 1), (2, .int 0), (0, .ref (L 0)), (1, .int a1)]) hx hb dX8_carryOutPile_70 hl_7 (by decide) rfl (fun ls_20 hl_20 => ?_)
      clear hl_7
      refine lv_aload_n hx hb dX8_carryOutPile_72 rfl (lv_at hl_20 3 rfl) ?_
      refine lv_aload_n hx hb dX8_carryOutPile_73 rfl (lv_at hl_20 3 rfl) ?_
      refine k_get (k := 7) (v := .ref (L 13)) hx hb hts in_X8_carryOutPile_X8 hown hK hO_11 (by decide) rfl rfl (by decide) lk_X8_carryOutPile_f52 rfl dX8_carryOutPile_74 ?_
      refine lv_iload_n hx hb dX8_carryOutPile_77 rfl (lv_at hl_20 4 rfl) ?_
      refine lv_iconst (v := 1) hx hb dX8_carryOutPile_78 (by decide) ?_
      refine lv_iadd hx hb dX8_carryOutPile_79 ?_
      replace hf := zi_some hf
      obtain ⟨r_22, X_21, hc_21, hf⟩ := hf
      refine k_ai (va_runVN (As := [.int (a1 + 1)]) (rest := [.ref (L 0)]) ⟨hx, hb, hml, hown, hts⟩ (mX2_digitAt l D L ac hL _ (a1 + 1) _ _ hc_21) ⟨va_cnB 1 hts gX8_carryOutPile_X2_digitAt_n253 rfl rfl rfl (hN _ nx_method_X8_253) (hts _ lk_X8_carryOutPile_iX2) (by decide +kernel) ⟨Nat.le_of_ble_eq_true rfl, Nat.le_of_ble_eq_true rfl⟩, hts _ lk_X8_carryOutPile_mX2_digitAt, hts _ lk_X8_carryOutPile_eX2_digitAt⟩ (k_pv (j := 13) hK hN hO_11 (by decide) rfl rfl _) rfl rfl hl_20.1 rfl (lv_room (Nat.le_of_ble_eq_true rfl)) dX8_carryOutPile_80 ⟨Nat.le_of_ble_eq_true rfl, Nat.le_of_ble_eq_true rfl⟩) hA hO_11 (fun H_23 locs_23 hO_23 => ?_)
      clear hO_11
      refine lv_iload_n hx hb dX8_carryOutPile_83 rfl (lv_at hl_20 1 rfl) ?_
      refine lv_iload hx hb dX8_carryOutPile_84 (lv_at hl_20 0 rfl) ?_
      replace hf := zi_some hf
      obtain ⟨r_25, X_24, hc_24, hf⟩ := hf
      refine k_ai (va_runV (As := [.int r_22, .int 1, .int 1]) (rest := []) ⟨hx, hb, hml, hown, hts⟩ (mX8_addPile l D L ac hL _ r_22 1 1 _ _ hc_24) (cwV 3 hts gX8_carryOutPile_X8_addPile rfl rfl rfl (by decide +kernel) ⟨Nat.le_of_ble_eq_true rfl, Nat.le_of_ble_eq_true rfl⟩) (k_pv (j := 0) hK hN hO_23 (by decide) rfl rfl _) rfl rfl hl_20.1 rfl (lv_room (Nat.le_of_ble_eq_true rfl)) dX8_carryOutPile_86 ⟨Nat.le_of_ble_eq_true rfl, Nat.le_of_ble_eq_true rfl⟩) hA hO_23 (fun H_26 locs_26 hO_26 => ?_)
      clear hO_23
      obtain ⟨rfl, rfl⟩ := Prod.mk.inj (Option.some.inj hf)
      exact e_i hx hb hr hK hN hO_26 hlocks dX8_carryOutPile_89
  · rw [if_pos c_4] at hf
    subst c_4
    refine lv_iconst (v := 1) hx hb dX8_carryOutPile_15 (by decide) ?_
    refine lv_goto (tgt := 20) hx hb dX8_carryOutPile_16 (by decide) ?_
    refine lv_istore_n (lv' := [(2, .int 1), (0, .ref (L 0)), (1, .int a1)]) hx hb dX8_carryOutPile_20 rfl hl (by decide) rfl (fun ls_27 hl_27 => ?_)
    clear hl
    refine lv_iload_n hx hb dX8_carryOutPile_21 rfl (lv_at hl_27 0 rfl) ?_
    refine lv_if_eq (tgt := 38) hx hb dX8_carryOutPile_22 (by decide) (fun c_28 => absurd c_28 (by decide)) (fun _ => ?_)
    refine lv_aload_n hx hb dX8_carryOutPile_25 rfl (lv_at hl_27 1 rfl) ?_
    refine k_get (k := 7) (v := .ref (L 13)) hx hb hts in_X8_carryOutPile_X8 hown hK hO_3 (by decide) rfl rfl (by decide) lk_X8_carryOutPile_f52 rfl dX8_carryOutPile_26 ?_
    refine lv_iload_n hx hb dX8_carryOutPile_29 rfl (lv_at hl_27 2 rfl) ?_
    refine lv_iconst (v := 3) hx hb dX8_carryOutPile_30 (by decide) ?_
    refine lv_iadd hx hb dX8_carryOutPile_31 ?_
    replace hf := zi_some hf
    obtain ⟨r_30, X_29, hc_29, hf⟩ := hf
    refine k_ai (va_runVN (As := [.int (a1 + 3)]) (rest := []) ⟨hx, hb, hml, hown, hts⟩ (mX2_digitAt l D L ac hL _ (a1 + 3) _ _ hc_29) ⟨va_cnB 1 hts gX8_carryOutPile_X2_digitAt_n253 rfl rfl rfl (hN _ nx_method_X8_253) (hts _ lk_X8_carryOutPile_iX2) (by decide +kernel) ⟨Nat.le_of_ble_eq_true rfl, Nat.le_of_ble_eq_true rfl⟩, hts _ lk_X8_carryOutPile_mX2_digitAt, hts _ lk_X8_carryOutPile_eX2_digitAt⟩ (k_pv (j := 13) hK hN hO_3 (by decide) rfl rfl _) rfl rfl hl_27.1 rfl (lv_room (Nat.le_of_ble_eq_true rfl)) dX8_carryOutPile_32 ⟨Nat.le_of_ble_eq_true rfl, Nat.le_of_ble_eq_true rfl⟩) hA hO_3 (fun H_31 locs_31 hO_31 => ?_)
    clear hO_3
    refine lv_goto (tgt := 39) hx hb dX8_carryOutPile_35 (by decide) ?_
    refine lv_istore_n (lv' := [(3, .int r_30), (2, .int 1), (0, .ref (L 0)), (1, .int a1)]) hx hb dX8_carryOutPile_39 rfl hl_27 (by decide) rfl (fun ls_32 hl_32 => ?_)
    clear hl_27
    refine lv_aload_n hx hb dX8_carryOutPile_40 rfl (lv_at hl_32 2 rfl) ?_
    refine k_get (k := 7) (v := .ref (L 13)) hx hb hts in_X8_carryOutPile_X8 hown hK hO_31 (by decide) rfl rfl (by decide) lk_X8_carryOutPile_f52 rfl dX8_carryOutPile_41 ?_
    refine lv_iload_n hx hb dX8_carryOutPile_44 rfl (lv_at hl_32 1 rfl) ?_
    refine lv_if_eq (tgt := 54) hx hb dX8_carryOutPile_45 (by decide) (fun c_33 => absurd c_33 (by decide)) (fun _ => ?_)
    refine lv_iload_n hx hb dX8_carryOutPile_48 rfl (lv_at hl_32 3 rfl) ?_
    refine lv_iconst (v := 4) hx hb dX8_carryOutPile_49 (by decide) ?_
    refine lv_iadd hx hb dX8_carryOutPile_50 ?_
    refine lv_goto (tgt := 57) hx hb dX8_carryOutPile_51 (by decide) ?_
    replace hf := zi_some hf
    obtain ⟨r_35, X_34, hc_34, hf⟩ := hf
    refine k_ai (va_runVN (As := [.int (a1 + 4)]) (rest := []) ⟨hx, hb, hml, hown, hts⟩ (mX2_at l D L ac hL _ (a1 + 4) _ _ hc_34) ⟨va_cnB 1 hts gX8_carryOutPile_X2_at_n246 rfl rfl rfl (hN _ nx_method_X8_246) (hts _ lk_X8_carryOutPile_iX2) (by decide +kernel) ⟨Nat.le_of_ble_eq_true rfl, Nat.le_of_ble_eq_true rfl⟩, hts _ lk_X8_carryOutPile_mX2_at, hts _ lk_X8_carryOutPile_eX2_at⟩ (k_pv (j := 13) hK hN hO_31 (by decide) rfl rfl _) rfl rfl hl_32.1 rfl (lv_room (Nat.le_of_ble_eq_true rfl)) dX8_carryOutPile_57 ⟨Nat.le_of_ble_eq_true rfl, Nat.le_of_ble_eq_true rfl⟩) hA hO_31 (fun H_36 locs_36 hO_36 => ?_)
    clear hO_31
    refine lv_bipush (v := 33) hx hb dX8_carryOutPile_60 (by decide) ?_
    refine lv_icmp_ne (tgt := 69) hx hb dX8_carryOutPile_62 (by decide) (fun c_37 => ?_) (fun c_37 => ?_)
    · rw [if_neg c_37] at hf
      refine lv_iconst (v := 0) hx hb dX8_carryOutPile_69 (by decide) ?_
      refine lv_istore (lv' := [(4, .int 0), (3, .int r_30), (2, .int 1), (0, .ref (L 0)), (1, .int a1)]) hx hb dX8_carryOutPile_70 hl_32 (by decide) rfl (fun ls_38 hl_38 => ?_)
      clear hl_32
      refine lv_aload_n hx hb dX8_carryOutPile_72 rfl (lv_at hl_38 3 rfl) ?_
      refine lv_aload_n hx hb dX8_carryOutPile_73 rfl (lv_at hl_38 3 rfl) ?_
      refine k_get (k := 7) (v := .ref (L 13)) hx hb hts in_X8_carryOutPile_X8 hown hK hO_36 (by decide) rfl rfl (by decide) lk_X8_carryOutPile_f52 rfl dX8_carryOutPile_74 ?_
      refine lv_iload_n hx hb dX8_carryOutPile_77 rfl (lv_at hl_38 4 rfl) ?_
      refine lv_iconst (v := 1) hx hb dX8_carryOutPile_78 (by decide) ?_
      refine lv_iadd hx hb dX8_carryOutPile_79 ?_
      replace hf := zi_some hf
      obtain ⟨r_40, X_39, hc_39, hf⟩ := hf
      refine k_ai (va_runVN (As := [.int (a1 + 1)]) (rest := [.ref (L 0)]) ⟨hx, hb, hml, hown, hts⟩ (mX2_digitAt l D L ac hL _ (a1 + 1) _ _ hc_39) ⟨va_cnB 1 hts gX8_carryOutPile_X2_digitAt_n253 rfl rfl rfl (hN _ nx_method_X8_253) (hts _ lk_X8_carryOutPile_iX2) (by decide +kernel) ⟨Nat.le_of_ble_eq_true rfl, Nat.le_of_ble_eq_true rfl⟩, hts _ lk_X8_carryOutPile_mX2_digitAt, hts _ lk_X8_carryOutPile_eX2_digitAt⟩ (k_pv (j := 13) hK hN hO_36 (by decide) rfl rfl _) rfl rfl hl_38.1 rfl (lv_room (Nat.le_of_ble_eq_true rfl)) dX8_carryOutPile_80 ⟨Nat.le_of_ble_eq_true rfl, Nat.le_of_ble_eq_true rfl⟩) hA hO_36 (fun H_41 locs_41 hO_41 => ?_)
      clear hO_36
      refine lv_iload_n hx hb dX8_carryOutPile_83 rfl (lv_at hl_38 1 rfl) ?_
      refine lv_iload hx hb dX8_carryOutPile_84 (lv_at hl_38 0 rfl) ?_
      replace hf := zi_some hf
      obtain ⟨r_43, X_42, hc_42, hf⟩ := hf
      refine k_ai (va_runV (As := [.int r_40, .int r_30, .int 0]) (rest := []) ⟨hx, hb, hml, hown, hts⟩ (mX8_addPile l D L ac hL _ r_40 r_30 0 _ _ hc_42) (cwV 3 hts gX8_carryOutPile_X8_addPile rfl rfl rfl (by decide +kernel) ⟨Nat.le_of_ble_eq_true rfl, Nat.le_of_ble_eq_true rfl⟩) (k_pv (j := 0) hK hN hO_41 (by decide) rfl rfl _) rfl rfl hl_38.1 rfl (lv_room (Nat.le_of_ble_eq_true rfl)) dX8_carryOutPile_86 ⟨Nat.le_of_ble_eq_true rfl, Nat.le_of_ble_eq_true rfl⟩) hA hO_41 (fun H_44 locs_44 hO_44 => ?_)
      clear hO_41
      obtain ⟨rfl, rfl⟩ := Prod.mk.inj (Option.some.inj hf)
      exact e_i hx hb hr hK hN hO_44 hlocks dX8_carryOutPile_89
    · rw [if_pos c_37] at hf
      subst c_37
      refine lv_iconst (v := 1) hx hb dX8_carryOutPile_65 (by decide) ?_
      refine lv_goto (tgt := 70) hx hb dX8_carryOutPile_66 (by decide) ?_
      refine lv_istore (lv' := [(4, .int 1), (3, .int r_30), (2, .int 1), (0, .ref (L 0)), (1, .int a1)]) hx hb dX8_carryOutPile_70 hl_32 (by decide) rfl (fun ls_45 hl_45 => ?_)
      clear hl_32
      refine lv_aload_n hx hb dX8_carryOutPile_72 rfl (lv_at hl_45 3 rfl) ?_
      refine lv_aload_n hx hb dX8_carryOutPile_73 rfl (lv_at hl_45 3 rfl) ?_
      refine k_get (k := 7) (v := .ref (L 13)) hx hb hts in_X8_carryOutPile_X8 hown hK hO_36 (by decide) rfl rfl (by decide) lk_X8_carryOutPile_f52 rfl dX8_carryOutPile_74 ?_
      refine lv_iload_n hx hb dX8_carryOutPile_77 rfl (lv_at hl_45 4 rfl) ?_
      refine lv_iconst (v := 1) hx hb dX8_carryOutPile_78 (by decide) ?_
      refine lv_iadd hx hb dX8_carryOutPile_79 ?_
      replace hf := zi_some hf
      obtain ⟨r_47, X_46, hc_46, hf⟩ := hf
      refine k_ai (va_runVN (As := [.int (a1 + 1)]) (rest := [.ref (L 0)]) ⟨hx, hb, hml, hown, hts⟩ (mX2_digitAt l D L ac hL _ (a1 + 1) _ _ hc_46) ⟨va_cnB 1 hts gX8_carryOutPile_X2_digitAt_n253 rfl rfl rfl (hN _ nx_method_X8_253) (hts _ lk_X8_carryOutPile_iX2) (by decide +kernel) ⟨Nat.le_of_ble_eq_true rfl, Nat.le_of_ble_eq_true rfl⟩, hts _ lk_X8_carryOutPile_mX2_digitAt, hts _ lk_X8_carryOutPile_eX2_digitAt⟩ (k_pv (j := 13) hK hN hO_36 (by decide) rfl rfl _) rfl rfl hl_45.1 rfl (lv_room (Nat.le_of_ble_eq_true rfl)) dX8_carryOutPile_80 ⟨Nat.le_of_ble_eq_true rfl, Nat.le_of_ble_eq_true rfl⟩) hA hO_36 (fun H_48 locs_48 hO_48 => ?_)
      clear hO_36
      refine lv_iload_n hx hb dX8_carryOutPile_83 rfl (lv_at hl_45 1 rfl) ?_
      refine lv_iload hx hb dX8_carryOutPile_84 (lv_at hl_45 0 rfl) ?_
      replace hf := zi_some hf
      obtain ⟨r_50, X_49, hc_49, hf⟩ := hf
      refine k_ai (va_runV (As := [.int r_47, .int r_30, .int 1]) (rest := []) ⟨hx, hb, hml, hown, hts⟩ (mX8_addPile l D L ac hL _ r_47 r_30 1 _ _ hc_49) (cwV 3 hts gX8_carryOutPile_X8_addPile rfl rfl rfl (by decide +kernel) ⟨Nat.le_of_ble_eq_true rfl, Nat.le_of_ble_eq_true rfl⟩) (k_pv (j := 0) hK hN hO_48 (by decide) rfl rfl _) rfl rfl hl_45.1 rfl (lv_room (Nat.le_of_ble_eq_true rfl)) dX8_carryOutPile_86 ⟨Nat.le_of_ble_eq_true rfl, Nat.le_of_ble_eq_true rfl⟩) hA hO_48 (fun H_51 locs_51 hO_51 => ?_)
      clear hO_48
      obtain ⟨rfl, rfl⟩ := Prod.mk.inj (Option.some.inj hf)
      exact e_i hx hb hr hK hN hO_51 hlocks dX8_carryOutPile_89
theorem in_X8_carryOutOrder_X8 : ∀ w ∈ u_ws RX8 TX8 8, w ∈ wsX8_carryOutOrder := by decide +kernel
theorem lk_X8_carryOutOrder_eX2_at : Cond.selects RX2 yX2_at yX2_at ∈ wsX8_carryOutOrder := by decide +kernel
theorem lk_X8_carryOutOrder_eX2_digitAt : Cond.selects RX2 yX2_digitAt yX2_digitAt ∈ wsX8_carryOutOrder := by decide +kernel
theorem lk_X8_carryOutOrder_f52 : Cond.fieldLink RX8 52 "PoisonPiles" "pad" "LPoisonPiles$Pad;" ∈ wsX8_carryOutOrder := by decide +kernel
theorem lk_X8_carryOutOrder_iX2 : Cond.initialized RX2 ∈ wsX8_carryOutOrder := by decide +kernel
theorem lk_X8_carryOutOrder_mX2_at : Cond.instanceMethod yX2_at ∈ wsX8_carryOutOrder := by decide +kernel
theorem lk_X8_carryOutOrder_mX2_digitAt : Cond.instanceMethod yX2_digitAt ∈ wsX8_carryOutOrder := by decide +kernel
def fX8_carryOutOrder  (a1 : Int32) (X : XM) : Option (Int32 × XM) := zi (fX2_at a1 X) (fun r_2 X_1 => if r_2 = 43 then zi (fX8_carryOutPile a1 X_1) (fun r_34 X_33 => some (r_34, X_33)) else if r_2 = 45 then zi (fX2_digitAt (a1 + 1) X_1) (fun r_25 X_24 => zi (fX2_digitAt (a1 + 3) X_24) (fun r_28 X_27 => zi (fX8_takeTokens r_25 r_28 X_27) (fun r_31 X_30 => some (r_31, X_30)))) else if r_2 = 114 then zi (fX2_digitAt (a1 + 1) X_1) (fun r_16 X_15 => zi (fX2_digitAt (a1 + 2) X_15) (fun r_19 X_18 => zi (fX8_givePasses r_16 r_19 X_18) (fun r_22 X_21 => some (r_22, X_21)))) else if r_2 = 112 then zi (fX8_usePass X_1) (fun r_13 X_12 => some (r_13, X_12)) else zi (fX8_playOn 1 X_1) (fun r_10 X_9 => some (r_10, X_9)))
set_option maxHeartbeats 4000000 in
set_option maxRecDepth 100000 in
theorem mX8_carryOutOrder (l : Launch) (D : va_G) (L : Nat → Nat) (ac : Nat → ClassId) (hL : LL L) (X : XM) (a1 : Int32) (r0 : Int32) (X0 : XM) (hf : fX8_carryOutOrder a1 X = some (r0, X0)) : Ci l yX8_carryOutOrder wsX8_carryOutOrder ({ frames := 66, cells := 0, slots := 0, locals := 2005 }) D L ac X [.ref (L 0), .int a1] r0 X0 := by
  refine Met.ofK (cc := cX8_carryOutOrder) (maxL := 3) (ret := (some .int)) (lv := [(0, .ref (L 0)), (1, .int a1)]) (by decide +kernel) rfl (Nat.le_of_ble_eq_true rfl) rfl ?_
  intro p e s m below meth c F hO ls hl
  obtain ⟨hx, hb, hr, hts, hown, hlocks, hml, hK, hN⟩ := id F
  have hA : ∀ q, fr L q → fr L q := fun q h => h
  unfold fX8_carryOutOrder at hf
  refine lv_aload_n hx hb dX8_carryOutOrder_0 rfl (lv_at hl 0 rfl) ?_
  refine k_get (k := 7) (v := .ref (L 13)) hx hb hts in_X8_carryOutOrder_X8 hown hK hO (by decide) rfl rfl (by decide) lk_X8_carryOutOrder_f52 rfl dX8_carryOutOrder_1 ?_
  refine lv_iload_n hx hb dX8_carryOutOrder_4 rfl (lv_at hl 1 rfl) ?_
  replace hf := zi_some hf
  obtain ⟨r_2, X_1, hc_1, hf⟩ := hf
  refine k_ai (va_runVN (As := [.int a1]) (rest := []) ⟨hx, hb, hml, hown, hts⟩ (mX2_at l D L ac hL _ a1 _ _ hc_1) ⟨va_cnB 1 hts gX8_carryOutOrder_X2_at_n246 rfl rfl rfl (hN _ nx_method_X8_246) (hts _ lk_X8_carryOutOrder_iX2) (by decide +kernel) ⟨Nat.le_of_ble_eq_true rfl, Nat.le_of_ble_eq_true rfl⟩, hts _ lk_X8_carryOutOrder_mX2_at, hts _ lk_X8_carryOutOrder_eX2_at⟩ (k_pv (j := 13) hK hN hO (by decide) rfl rfl _) rfl rfl hl.1 rfl (lv_room (Nat.le_of_ble_eq_true rfl)) dX8_carryOutOrder_5 ⟨Nat.le_of_ble_eq_true rfl, Nat.le_of_ble_eq_true rfl⟩) hA hO (fun H_3 locs_3 hO_3 => ?_)
  clear hO
  refine lv_istore_n (lv' := [(2, .int r_2), (0, .ref (L 0)), (1, .int a1)]) hx hb dX8_carryOutOrder_8 rfl hl (by decide) rfl (fun ls_4 hl_4 => ?_)
  clear hl
  refine lv_iload_n hx hb dX8_carryOutOrder_9 rfl (lv_at hl_4 0 rfl) ?_
  refine lv_bipush (v := 43) hx hb dX8_carryOutOrder_10 (by decide) ?_
  refine lv_icmp_ne (tgt := 21) hx hb dX8_carryOutOrder_12 (by decide) (fun c_5 => ?_) (fun c_5 => ?_)
  · rw [if_neg c_5] at hf
    refine lv_iload_n hx hb dX8_carryOutOrder_21 rfl (lv_at hl_4 0 rfl) ?_
    refine lv_bipush (v := 45) hx hb dX8_carryOutOrder_22 (by decide) ?_
    refine lv_icmp_ne (tgt := 52) hx hb dX8_carryOutOrder_24 (by decide) (fun c_6 => ?_) (fun c_6 => ?_)
    · rw [if_neg c_6] at hf
      refine lv_iload_n hx hb dX8_carryOutOrder_52 rfl (lv_at hl_4 0 rfl) ?_
      refine lv_bipush (v := 114) hx hb dX8_carryOutOrder_53 (by decide) ?_
      refine lv_icmp_ne (tgt := 83) hx hb dX8_carryOutOrder_55 (by decide) (fun c_7 => ?_) (fun c_7 => ?_)
      · rw [if_neg c_7] at hf
        refine lv_iload_n hx hb dX8_carryOutOrder_83 rfl (lv_at hl_4 0 rfl) ?_
        refine lv_bipush (v := 112) hx hb dX8_carryOutOrder_84 (by decide) ?_
        refine lv_icmp_ne (tgt := 96) hx hb dX8_carryOutOrder_86 (by decide) (fun c_8 => ?_) (fun c_8 => ?_)
        · rw [if_neg c_8] at hf
          refine lv_aload_n hx hb dX8_carryOutOrder_96 rfl (lv_at hl_4 1 rfl) ?_
          refine lv_iconst (v := 1) hx hb dX8_carryOutOrder_97 (by decide) ?_
          replace hf := zi_some hf
          obtain ⟨r_10, X_9, hc_9, hf⟩ := hf
          refine k_ai (va_runV (As := [.int 1]) (rest := []) ⟨hx, hb, hml, hown, hts⟩ (mX8_playOn l D L ac hL _ 1 _ _ hc_9) (cwV 1 hts gX8_carryOutOrder_X8_playOn rfl rfl rfl (by decide +kernel) ⟨Nat.le_of_ble_eq_true rfl, Nat.le_of_ble_eq_true rfl⟩) (k_pv (j := 0) hK hN hO_3 (by decide) rfl rfl _) rfl rfl hl_4.1 rfl (lv_room (Nat.le_of_ble_eq_true rfl)) dX8_carryOutOrder_98 ⟨Nat.le_of_ble_eq_true rfl, Nat.le_of_ble_eq_true rfl⟩) hA hO_3 (fun H_11 locs_11 hO_11 => ?_)
          clear hO_3
          obtain ⟨rfl, rfl⟩ := Prod.mk.inj (Option.some.inj hf)
          exact e_i hx hb hr hK hN hO_11 hlocks dX8_carryOutOrder_101
        · rw [if_pos c_8] at hf
          subst c_8
          refine lv_aload_n hx hb dX8_carryOutOrder_89 rfl (lv_at hl_4 1 rfl) ?_
          replace hf := zi_some hf
          obtain ⟨r_13, X_12, hc_12, hf⟩ := hf
          refine k_ai (va_runV (As := []) (rest := []) ⟨hx, hb, hml, hown, hts⟩ (mX8_usePass l D L ac hL _  _ _ hc_12) (cwV 0 hts gX8_carryOutOrder_X8_usePass rfl rfl rfl (by decide +kernel) ⟨Nat.le_of_ble_eq_true rfl, Nat.le_of_ble_eq_true rfl⟩) (k_pv (j := 0) hK hN hO_3 (by decide) rfl rfl _) rfl rfl hl_4.1 rfl (lv_room (Nat.le_of_ble_eq_true rfl)) dX8_carryOutOrder_90 ⟨Nat.le_of_ble_eq_true rfl, Nat.le_of_ble_eq_true rfl⟩) hA hO_3 (fun H_14 locs_14 hO_14 => ?_)
          clear hO_3
          refine lv_goto (tgt := 101) hx hb dX8_carryOutOrder_93 (by decide) ?_
          obtain ⟨rfl, rfl⟩ := Prod.mk.inj (Option.some.inj hf)
          exact e_i hx hb hr hK hN hO_14 hlocks dX8_carryOutOrder_101
      · rw [if_pos c_7] at hf
        subst c_7
        refine lv_aload_n hx hb dX8_carryOutOrder_58 rfl (lv_at hl_4 1 rfl) ?_
        refine lv_aload_n hx hb dX8_carryOutOrder_59 rfl (lv_at hl_4 1 rfl) ?_
        refine k_get (k := 7) (v := .ref (L 13)) hx hb hts in_X8_carryOutOrder_X8 hown hK hO_3 (by decide) rfl rfl (by decide) lk_X8_carryOutOrder_f52 rfl dX8_carryOutOrder_60 ?_
        refine lv_iload_n hx hb dX8_carryOutOrder_63 rfl (lv_at hl_4 2 rfl) ?_
        refine lv_iconst (v := 1) hx hb dX8_carryOutOrder_64 (by decide) ?_
        refine lv_iadd hx hb dX8_carryOutOrder_65 ?_
        replace hf := zi_some hf
        obtain ⟨r_16, X_15, hc_15, hf⟩ := hf
        refine k_ai (va_runVN (As := [.int (a1 + 1)]) (rest := [.ref (L 0)]) ⟨hx, hb, hml, hown, hts⟩ (mX2_digitAt l D L ac hL _ (a1 + 1) _ _ hc_15) ⟨va_cnB 1 hts gX8_carryOutOrder_X2_digitAt_n253 rfl rfl rfl (hN _ nx_method_X8_253) (hts _ lk_X8_carryOutOrder_iX2) (by decide +kernel) ⟨Nat.le_of_ble_eq_true rfl, Nat.le_of_ble_eq_true rfl⟩, hts _ lk_X8_carryOutOrder_mX2_digitAt, hts _ lk_X8_carryOutOrder_eX2_digitAt⟩ (k_pv (j := 13) hK hN hO_3 (by decide) rfl rfl _) rfl rfl hl_4.1 rfl (lv_room (Nat.le_of_ble_eq_true rfl)) dX8_carryOutOrder_66 ⟨Nat.le_of_ble_eq_true rfl, Nat.le_of_ble_eq_true rfl⟩) hA hO_3 (fun H_17 locs_17 hO_17 => ?_)
        clear hO_3
        refine lv_aload_n hx hb dX8_carryOutOrder_69 rfl (lv_at hl_4 1 rfl) ?_
        refine k_get (k := 7) (v := .ref (L 13)) hx hb hts in_X8_carryOutOrder_X8 hown hK hO_17 (by decide) rfl rfl (by decide) lk_X8_carryOutOrder_f52 rfl dX8_carryOutOrder_70 ?_
        refine lv_iload_n hx hb dX8_carryOutOrder_73 rfl (lv_at hl_4 2 rfl) ?_
        refine lv_iconst (v := 2) hx hb dX8_carryOutOrder_74 (by decide) ?_
        refine lv_iadd hx hb dX8_carryOutOrder_75 ?_
        replace hf := zi_some hf
        obtain ⟨r_19, X_18, hc_18, hf⟩ := hf
        refine k_ai (va_runVN (As := [.int (a1 + 2)]) (rest := [.int r_16, .ref (L 0)]) ⟨hx, hb, hml, hown, hts⟩ (mX2_digitAt l D L ac hL _ (a1 + 2) _ _ hc_18) ⟨va_cnB 1 hts gX8_carryOutOrder_X2_digitAt_n253 rfl rfl rfl (hN _ nx_method_X8_253) (hts _ lk_X8_carryOutOrder_iX2) (by decide +kernel) ⟨Nat.le_of_ble_eq_true rfl, Nat.le_of_ble_eq_true rfl⟩, hts _ lk_X8_carryOutOrder_mX2_digitAt, hts _ lk_X8_carryOutOrder_eX2_digitAt⟩ (k_pv (j := 13) hK hN hO_17 (by decide) rfl rfl _) rfl rfl hl_4.1 rfl (lv_room (Nat.le_of_ble_eq_true rfl)) dX8_carryOutOrder_76 ⟨Nat.le_of_ble_eq_true rfl, Nat.le_of_ble_eq_true rfl⟩) hA hO_17 (fun H_20 locs_20 hO_20 => ?_)
        clear hO_17
        replace hf := zi_some hf
        obtain ⟨r_22, X_21, hc_21, hf⟩ := hf
        refine k_ai (va_runV (As := [.int r_16, .int r_19]) (rest := []) ⟨hx, hb, hml, hown, hts⟩ (mX8_givePasses l D L ac hL _ r_16 r_19 _ _ hc_21) (cwV 2 hts gX8_carryOutOrder_X8_givePasses rfl rfl rfl (by decide +kernel) ⟨Nat.le_of_ble_eq_true rfl, Nat.le_of_ble_eq_true rfl⟩) (k_pv (j := 0) hK hN hO_20 (by decide) rfl rfl _) rfl rfl hl_4.1 rfl (lv_room (Nat.le_of_ble_eq_true rfl)) dX8_carryOutOrder_79 ⟨Nat.le_of_ble_eq_true rfl, Nat.le_of_ble_eq_true rfl⟩) hA hO_20 (fun H_23 locs_23 hO_23 => ?_)
        clear hO_20
        obtain ⟨rfl, rfl⟩ := Prod.mk.inj (Option.some.inj hf)
        exact e_i hx hb hr hK hN hO_23 hlocks dX8_carryOutOrder_82
    · rw [if_pos c_6] at hf
      subst c_6
      refine lv_aload_n hx hb dX8_carryOutOrder_27 rfl (lv_at hl_4 1 rfl) ?_
      refine lv_aload_n hx hb dX8_carryOutOrder_28 rfl (lv_at hl_4 1 rfl) ?_
      refine k_get (k := 7) (v := .ref (L 13)) hx hb hts in_X8_carryOutOrder_X8 hown hK hO_3 (by decide) rfl rfl (by decide) lk_X8_carryOutOrder_f52 rfl dX8_carryOutOrder_29 ?_
      refine lv_iload_n hx hb dX8_carryOutOrder_32 rfl (lv_at hl_4 2 rfl) ?_
      refine lv_iconst (v := 1) hx hb dX8_carryOutOrder_33 (by decide) ?_
      refine lv_iadd hx hb dX8_carryOutOrder_34 ?_
      replace hf := zi_some hf
      obtain ⟨r_25, X_24, hc_24, hf⟩ := hf
      refine k_ai (va_runVN (As := [.int (a1 + 1)]) (rest := [.ref (L 0)]) ⟨hx, hb, hml, hown, hts⟩ (mX2_digitAt l D L ac hL _ (a1 + 1) _ _ hc_24) ⟨va_cnB 1 hts gX8_carryOutOrder_X2_digitAt_n253 rfl rfl rfl (hN _ nx_method_X8_253) (hts _ lk_X8_carryOutOrder_iX2) (by decide +kernel) ⟨Nat.le_of_ble_eq_true rfl, Nat.le_of_ble_eq_true rfl⟩, hts _ lk_X8_carryOutOrder_mX2_digitAt, hts _ lk_X8_carryOutOrder_eX2_digitAt⟩ (k_pv (j := 13) hK hN hO_3 (by decide) rfl rfl _) rfl rfl hl_4.1 rfl (lv_room (Nat.le_of_ble_eq_true rfl)) dX8_carryOutOrder_35 ⟨Nat.le_of_ble_eq_true rfl, Nat.le_of_ble_eq_true rfl⟩) hA hO_3 (fun H_26 locs_26 hO_26 => ?_)
      clear hO_3
      refine lv_aload_n hx hb dX8_carryOutOrder_38 rfl (lv_at hl_4 1 rfl) ?_
      refine k_get (k := 7) (v := .ref (L 13)) hx hb hts in_X8_carryOutOrder_X8 hown hK hO_26 (by decide) rfl rfl (by decide) lk_X8_carryOutOrder_f52 rfl dX8_carryOutOrder_39 ?_
      refine lv_iload_n hx hb dX8_carryOutOrder_42 rfl (lv_at hl_4 2 rfl) ?_
      refine lv_iconst (v := 3) hx hb dX8_carryOutOrder_43 (by decide) ?_
      refine lv_iadd hx hb dX8_carryOutOrder_44 ?_
      replace hf := zi_some hf
      obtain ⟨r_28, X_27, hc_27, hf⟩ := hf
      refine k_ai (va_runVN (As := [.int (a1 + 3)]) (rest := [.int r_25, .ref (L 0)]) ⟨hx, hb, hml, hown, hts⟩ (mX2_digitAt l D L ac hL _ (a1 + 3) _ _ hc_27) ⟨va_cnB 1 hts gX8_carryOutOrder_X2_digitAt_n253 rfl rfl rfl (hN _ nx_method_X8_253) (hts _ lk_X8_carryOutOrder_iX2) (by decide +kernel) ⟨Nat.le_of_ble_eq_true rfl, Nat.le_of_ble_eq_true rfl⟩, hts _ lk_X8_carryOutOrder_mX2_digitAt, hts _ lk_X8_carryOutOrder_eX2_digitAt⟩ (k_pv (j := 13) hK hN hO_26 (by decide) rfl rfl _) rfl rfl hl_4.1 rfl (lv_room (Nat.le_of_ble_eq_true rfl)) dX8_carryOutOrder_45 ⟨Nat.le_of_ble_eq_true rfl, Nat.le_of_ble_eq_true rfl⟩) hA hO_26 (fun H_29 locs_29 hO_29 => ?_)
      clear hO_26
      replace hf := zi_some hf
      obtain ⟨r_31, X_30, hc_30, hf⟩ := hf
      refine k_ai (va_runV (As := [.int r_25, .int r_28]) (rest := []) ⟨hx, hb, hml, hown, hts⟩ (mX8_takeTokens l D L ac hL _ r_25 r_28 _ _ hc_30) (cwV 2 hts gX8_carryOutOrder_X8_takeTokens rfl rfl rfl (by decide +kernel) ⟨Nat.le_of_ble_eq_true rfl, Nat.le_of_ble_eq_true rfl⟩) (k_pv (j := 0) hK hN hO_29 (by decide) rfl rfl _) rfl rfl hl_4.1 rfl (lv_room (Nat.le_of_ble_eq_true rfl)) dX8_carryOutOrder_48 ⟨Nat.le_of_ble_eq_true rfl, Nat.le_of_ble_eq_true rfl⟩) hA hO_29 (fun H_32 locs_32 hO_32 => ?_)
      clear hO_29
      obtain ⟨rfl, rfl⟩ := Prod.mk.inj (Option.some.inj hf)
      exact e_i hx hb hr hK hN hO_32 hlocks dX8_carryOutOrder_51
  · rw [if_pos c_5] at hf
    subst c_5
    refine lv_aload_n hx hb dX8_carryOutOrder_15 rfl (lv_at hl_4 1 rfl) ?_
    refine lv_iload_n hx hb dX8_carryOutOrder_16 rfl (lv_at hl_4 2 rfl) ?_
    replace hf := zi_some hf
    obtain ⟨r_34, X_33, hc_33, hf⟩ := hf
    refine k_ai (va_runV (As := [.int a1]) (rest := []) ⟨hx, hb, hml, hown, hts⟩ (mX8_carryOutPile l D L ac hL _ a1 _ _ hc_33) (cwV 1 hts gX8_carryOutOrder_X8_carryOutPile rfl rfl rfl (by decide +kernel) ⟨Nat.le_of_ble_eq_true rfl, Nat.le_of_ble_eq_true rfl⟩) (k_pv (j := 0) hK hN hO_3 (by decide) rfl rfl _) rfl rfl hl_4.1 rfl (lv_room (Nat.le_of_ble_eq_true rfl)) dX8_carryOutOrder_17 ⟨Nat.le_of_ble_eq_true rfl, Nat.le_of_ble_eq_true rfl⟩) hA hO_3 (fun H_35 locs_35 hO_35 => ?_)
    clear hO_3
    obtain ⟨rfl, rfl⟩ := Prod.mk.inj (Option.some.inj hf)
    exact e_i hx hb hr hK hN hO_35 hlocks dX8_carryOutOrder_20
def fX8_moveInPlace_19   : Nat → Int32 → Int32 → Int32 → Int32 → Int32 → XM → Option (Int32 × XM)
  | 0, _, _, _, _, _, _ => none
  | n + 1, x0, x1, x2, x3, x4, X => if 20 < x4 then some ((-6), X) else zi (fX8_isIn x0 x4 X) (fun r_3 X_2 => if r_3 = 0 then fX8_moveInPlace_19 n x0 x1 x2 x3 (x4 + 1) X_2 else if x3 = 0 then some (x4, X_2) else fX8_moveInPlace_19 n x0 x1 x2 (x3 + (-1)) (x4 + 1) X_2)
set_option maxHeartbeats 4000000 in
set_option maxRecDepth 100000 in
theorem wX8_moveInPlace_19 {p : Program} {l : Launch} {e : Env} {s : State} {m : MethodId} {args : Array Value} {below : List Frame} {meth : Method} {c : Code} {D : va_G} {L : Nat → Nat} {ac : Nat → ClassId} {r0 : Int32} {X0 : XM} (hL : LL L) (F : Fx p s m args meth c cX8_moveInPlace 5 (some .int) wsX8_moveInPlace yX8_moveInPlace.cls D ac) : ∀ (n : Nat) (x0 : Int32) (x1 : Int32) (x2 : Int32) (x3 : Int32) (x4 : Int32) (X : XM) (H : Heap) (locs : List Loc) (ls : Array Slot), Oh D L ac X (fr L) s.heap H locs → lv_has ls 5 [(0, .int x0), (1, .int x1), (2, .int x2), (3, .int x3), (4, .int x4)] → fX8_moveInPlace_19 n x0 x1 x2 x3 x4 X = some (r0, X0) → W p l e (headSpec wsX8_moveInPlace ({ frames := 1, cells := 0, slots := 0, locals := 21 })).room s m args below meth c H locs 0 0 (MQ below (va_Qi (fun (r : Int32) (Y : XM) => r = r0 ∧ Y = X0) (fun (Y : XM) t => St D L ac Y t) (fr L)) args s 0 0 (fr L)) (F0 m 19 ls []) := by
  obtain ⟨hx, hb, hr, hts, hown, hlocks, hml, hK, hN⟩ := id F
  have hA : ∀ q, fr L q → fr L q := fun q h => h
  intro n
  induction n with
  | zero => intro x0 x1 x2 x3 x4 X H locs ls hO hl hf; simp [fX8_moveInPlace_19] at hf
  | succ n ih =>
    intro x0 x1 x2 x3 x4 X H locs ls hO hl hf
    rw [fX8_moveInPlace_19] at hf
    refine lv_iload hx hb dX8_moveInPlace_19 (lv_at hl 4 rfl) ?_
    refine lv_bipush (v := 20) hx hb dX8_moveInPlace_21 (by decide) ?_
    refine lv_icmp_gt (tgt := 51) hx hb dX8_moveInPlace_23 (by decide) (fun c_1 => ?_) (fun c_1 => ?_)
    · rw [if_pos c_1] at hf
      refine lv_bipush (v := (-6)) hx hb dX8_moveInPlace_51 (by decide) ?_
      obtain ⟨rfl, rfl⟩ := Prod.mk.inj (Option.some.inj hf)
      exact e_i hx hb hr hK hN hO hlocks dX8_moveInPlace_53
    · rw [if_neg c_1] at hf
      refine lv_iload_n hx hb dX8_moveInPlace_26 rfl (lv_at hl 0 rfl) ?_
      refine lv_iload hx hb dX8_moveInPlace_27 (lv_at hl 4 rfl) ?_
      replace hf := zi_some hf
      obtain ⟨r_3, X_2, hc_2, hf⟩ := hf
      refine k_ai (va_runS (As := [.int x0, .int x4]) (rest := []) ⟨hx, hb, hml, hown, hts⟩ (mX8_isIn l D L ac hL _ x0 x4 _ _ hc_2) (va_cwS 2 hts gX8_moveInPlace_X8_isIn rfl rfl rfl (by decide +kernel) ⟨Nat.le_of_ble_eq_true rfl, Nat.le_of_ble_eq_true rfl⟩) (k_ps hK hN hO _) rfl rfl hl.1 rfl (lv_room (Nat.le_of_ble_eq_true rfl)) dX8_moveInPlace_29 ⟨Nat.le_of_ble_eq_true rfl, Nat.le_of_ble_eq_true rfl⟩) hA hO (fun H_4 locs_4 hO_4 => ?_)
      clear hO
      refine lv_if_eq (tgt := 45) hx hb dX8_moveInPlace_32 (by decide) (fun c_5 => ?_) (fun c_5 => ?_)
      · rw [if_pos c_5] at hf
        subst c_5
        refine lv_iinc (v := x4 + 1) (lv' := [(4, .int (x4 + 1)), (0, .int x0), (1, .int x1), (2, .int x2), (3, .int x3)]) hx hb dX8_moveInPlace_45 hl (k := 4) rfl rfl (by decide) rfl (fun ls_6 hl_6 => ?_)
        clear hl
        refine lv_goto (tgt := 19) hx hb dX8_moveInPlace_48 (by decide) ?_
        exact ih _ _ _ _ _ _  _ _ _ hO_4 (lv_sub hl_6 [1, 2, 3, 4, 0] rfl) hf
      · rw [if_neg c_5] at hf
        refine lv_iload_n hx hb dX8_moveInPlace_35 rfl (lv_at hl 3 rfl) ?_
        refine lv_if_ne (tgt := 42) hx hb dX8_moveInPlace_36 (by decide) (fun c_7 => ?_) (fun c_7 => ?_)
        · rw [if_neg c_7] at hf
          refine lv_iinc (v := x3 + (-1)) (lv' := [(3, .int (x3 + (-1))), (0, .int x0), (1, .int x1), (2, .int x2), (4, .int x4)]) hx hb dX8_moveInPlace_42 hl (k := 3) rfl rfl (by decide) rfl (fun ls_8 hl_8 => ?_)
          clear hl
          refine lv_iinc (v := x4 + 1) (lv' := [(4, .int (x4 + 1)), (3, .int (x3 + (-1))), (0, .int x0), (1, .int x1), (2, .int x2)]) hx hb dX8_moveInPlace_45 hl_8 (k := 4) rfl rfl (by decide) rfl (fun ls_9 hl_9 => ?_)
          clear hl_8
          refine lv_goto (tgt := 19) hx hb dX8_moveInPlace_48 (by decide) ?_
          exact ih _ _ _ _ _ _  _ _ _ hO_4 (lv_sub hl_9 [2, 3, 4, 1, 0] rfl) hf
        · rw [if_pos c_7] at hf
          subst c_7
          refine lv_iload hx hb dX8_moveInPlace_39 (lv_at hl 4 rfl) ?_
          obtain ⟨rfl, rfl⟩ := Prod.mk.inj (Option.some.inj hf)
          exact e_i hx hb hr hK hN hO_4 hlocks dX8_moveInPlace_41
def fX8_moveInPlace  (a1 : Int32) (a2 : Int32) (X : XM) : Option (Int32 × XM) := zi (fJ6_bitCount_0f7a4 a1 X) (fun r_11 X_10 => if r_11 = 0 then some ((-6), X_10) else zz r_11 (zl (o_rem a2 r_11) (fun v_16 => fX8_moveInPlace_19 fuel a1 a2 r_11 v_16 0 X_10)))
set_option maxHeartbeats 4000000 in
set_option maxRecDepth 100000 in
theorem mX8_moveInPlace (l : Launch) (D : va_G) (L : Nat → Nat) (ac : Nat → ClassId) (hL : LL L) (X : XM) (a1 : Int32) (a2 : Int32) (r0 : Int32) (X0 : XM) (hf : fX8_moveInPlace a1 a2 X = some (r0, X0)) : Ci l yX8_moveInPlace wsX8_moveInPlace ({ frames := 1, cells := 0, slots := 0, locals := 21 }) D L ac X [.int a1, .int a2] r0 X0 := by
  refine Met.ofK (cc := cX8_moveInPlace) (maxL := 5) (ret := (some .int)) (lv := [(0, .int a1), (1, .int a2)]) (by decide +kernel) rfl (Nat.le_of_ble_eq_true rfl) rfl ?_
  intro p e s m below meth c F hO ls hl
  obtain ⟨hx, hb, hr, hts, hown, hlocks, hml, hK, hN⟩ := id F
  have hA : ∀ q, fr L q → fr L q := fun q h => h
  unfold fX8_moveInPlace at hf
  refine lv_iload_n hx hb dX8_moveInPlace_0 rfl (lv_at hl 0 rfl) ?_
  replace hf := zi_some hf
  obtain ⟨r_11, X_10, hc_10, hf⟩ := hf
  refine k_ai (va_runS (As := [.int a1]) (rest := []) ⟨hx, hb, hml, hown, hts⟩ (mJ6_bitCount_0f7a4 l D L ac hL _ a1 _ _ hc_10) (va_cwS 1 hts gX8_moveInPlace_J6_bitCount_0f7a4 rfl rfl rfl (by decide +kernel) ⟨Nat.le_of_ble_eq_true rfl, Nat.le_of_ble_eq_true rfl⟩) (k_ps hK hN hO _) rfl rfl hl.1 rfl (lv_room (Nat.le_of_ble_eq_true rfl)) dX8_moveInPlace_1 ⟨Nat.le_of_ble_eq_true rfl, Nat.le_of_ble_eq_true rfl⟩) hA hO (fun H_12 locs_12 hO_12 => ?_)
  clear hO
  refine lv_istore_n (lv' := [(2, .int r_11), (0, .int a1), (1, .int a2)]) hx hb dX8_moveInPlace_4 rfl hl (by decide) rfl (fun ls_13 hl_13 => ?_)
  clear hl
  refine lv_iload_n hx hb dX8_moveInPlace_5 rfl (lv_at hl_13 0 rfl) ?_
  refine lv_if_ne (tgt := 12) hx hb dX8_moveInPlace_6 (by decide) (fun c_14 => ?_) (fun c_14 => ?_)
  · rw [if_neg c_14] at hf
    refine lv_iload_n hx hb dX8_moveInPlace_12 rfl (lv_at hl_13 2 rfl) ?_
    refine lv_iload_n hx hb dX8_moveInPlace_13 rfl (lv_at hl_13 0 rfl) ?_
    replace hf := zz_some hf
    obtain ⟨hz_15, hf⟩ := hf
    refine lv_irem hx hb dX8_moveInPlace_14 hz_15 ?_
    replace hf := zl_some hf
    obtain ⟨v_16, hv_16, hf⟩ := hf
    refine lv_tope hv_16 ?_
    refine lv_istore_n (lv' := [(3, .int v_16), (2, .int r_11), (0, .int a1), (1, .int a2)]) hx hb dX8_moveInPlace_15 rfl hl_13 (by decide) rfl (fun ls_17 hl_17 => ?_)
    clear hl_13
    refine lv_iconst (v := 0) hx hb dX8_moveInPlace_16 (by decide) ?_
    refine lv_istore (lv' := [(4, .int 0), (3, .int v_16), (2, .int r_11), (0, .int a1), (1, .int a2)]) hx hb dX8_moveInPlace_17 hl_17 (by decide) rfl (fun ls_18 hl_18 => ?_)
    clear hl_17
    exact wX8_moveInPlace_19 hL F  fuel _ _ _ _ _ _  _ _ _ hO_12 (lv_sub hl_18 [3, 4, 2, 1, 0] rfl) hf
  · rw [if_pos c_14] at hf
    subst c_14
    refine lv_bipush (v := (-6)) hx hb dX8_moveInPlace_9 (by decide) ?_
    obtain ⟨rfl, rfl⟩ := Prod.mk.inj (Option.some.inj hf)
    exact e_i hx hb hr hK hN hO_12 hlocks dX8_moveInPlace_11
theorem in_X8_gamesWonByDraws_X0 : ∀ w ∈ u_ws RX0 TX0 10, w ∈ wsX8_gamesWonByDraws := by decide +kernel
theorem in_X8_gamesWonByDraws_X8 : ∀ w ∈ u_ws RX8 TX8 8, w ∈ wsX8_gamesWonByDraws := by decide +kernel
theorem lk_X8_gamesWonByDraws_c185 : Cond.constant RX8 185 (65537) ∈ wsX8_gamesWonByDraws := by decide +kernel
theorem lk_X8_gamesWonByDraws_eX0_copyFrom : Cond.selects RX0 yX0_copyFrom yX0_copyFrom ∈ wsX8_gamesWonByDraws := by decide +kernel
theorem lk_X8_gamesWonByDraws_eX0_isOver : Cond.selects RX0 yX0_isOver yX0_isOver ∈ wsX8_gamesWonByDraws := by decide +kernel
theorem lk_X8_gamesWonByDraws_eX0_make : Cond.selects RX0 yX0_make yX0_make ∈ wsX8_gamesWonByDraws := by decide +kernel
theorem lk_X8_gamesWonByDraws_eX0_moveSet : Cond.selects RX0 yX0_moveSet yX0_moveSet ∈ wsX8_gamesWonByDraws := by decide +kernel
theorem lk_X8_gamesWonByDraws_eX0_winner : Cond.selects RX0 yX0_winner yX0_winner ∈ wsX8_gamesWonByDraws := by decide +kernel
theorem lk_X8_gamesWonByDraws_f12 : Cond.fieldLink RX8 12 "PoisonPiles" "now" "LPoisonPiles$Game;" ∈ wsX8_gamesWonByDraws := by decide +kernel
theorem lk_X8_gamesWonByDraws_f19 : Cond.fieldLink RX8 19 "PoisonPiles" "draft" "LPoisonPiles$Game;" ∈ wsX8_gamesWonByDraws := by decide +kernel
theorem lk_X8_gamesWonByDraws_iX0 : Cond.initialized RX0 ∈ wsX8_gamesWonByDraws := by decide +kernel
theorem lk_X8_gamesWonByDraws_mX0_copyFrom : Cond.instanceMethod yX0_copyFrom ∈ wsX8_gamesWonByDraws := by decide +kernel
theorem lk_X8_gamesWonByDraws_mX0_isOver : Cond.instanceMethod yX0_isOver ∈ wsX8_gamesWonByDraws := by decide +kernel
theorem lk_X8_gamesWonByDraws_mX0_make : Cond.instanceMethod yX0_make ∈ wsX8_gamesWonByDraws := by decide +kernel
theorem lk_X8_gamesWonByDraws_mX0_moveSet : Cond.instanceMethod yX0_moveSet ∈ wsX8_gamesWonByDraws := by decide +kernel
theorem lk_X8_gamesWonByDraws_mX0_winner : Cond.instanceMethod yX0_winner ∈ wsX8_gamesWonByDraws := by decide +kernel
def fX8_gamesWonByDraws_28  (k8 : Int32 → Int32 → Int32 → Int32 → Int32 → XM → Option (Int32 × XM)) : Nat → Int32 → Int32 → Int32 → Int32 → Int32 → Int32 → XM → Option (Int32 × XM)
  | 0, _, _, _, _, _, _, _ => none
  | n + 1, x1, x2, x3, x4, x5, x6, X => if 40 ≤ x6 then zi (fX0_winner 2 X) (fun r_3 X_2 => if r_3 = (X_2 0 3) then k8 x1 x2 (x3 + 1) x4 (x5 + 1) X_2 else k8 x1 x2 x3 x4 (x5 + 1) X_2) else zi (fX0_isOver 2 X) (fun r_10 X_9 => if r_10 = 0 then zl (o_rem ((75 * x4) + 74) 65537) (fun v_20 => zi (fX0_moveSet 2 X_9) (fun r_23 X_22 => zi (fX8_moveInPlace r_23 (v_20 / 64) X_22) (fun r_26 X_25 => zv (fX0_make 2 r_26 X_25) (fun X_28 => fX8_gamesWonByDraws_28 k8 n x1 x2 x3 v_20 x5 (x6 + 1) X_28)))) else zi (fX0_winner 2 X_9) (fun r_14 X_13 => if r_14 = (X_13 0 3) then k8 x1 x2 (x3 + 1) x4 (x5 + 1) X_13 else k8 x1 x2 x3 x4 (x5 + 1) X_13))
set_option maxHeartbeats 4000000 in
set_option maxRecDepth 100000 in
theorem wX8_gamesWonByDraws_28 {p : Program} {l : Launch} {e : Env} {s : State} {m : MethodId} {args : Array Value} {below : List Frame} {meth : Method} {c : Code} {D : va_G} {L : Nat → Nat} {ac : Nat → ClassId} {r0 : Int32} {X0 : XM} (hL : LL L) (F : Fx p s m args meth c cX8_gamesWonByDraws 7 (some .int) wsX8_gamesWonByDraws yX8_gamesWonByDraws.cls D ac) (k8 : Int32 → Int32 → Int32 → Int32 → Int32 → XM → Option (Int32 × XM)) (hk8 : ∀ (x1 : Int32) (x2 : Int32) (x3 : Int32) (x4 : Int32) (x5 : Int32) (X : XM) (H : Heap) (locs : List Loc) (ls : Array Slot), Oh D L ac X (fr L) s.heap H locs → lv_has ls 7 [(0, .ref (L 0)), (1, .int x1), (2, .int x2), (3, .int x3), (4, .int x4), (5, .int x5)] → k8 x1 x2 x3 x4 x5 X = some (r0, X0) → W p l e (headSpec wsX8_gamesWonByDraws ({ frames := 4, cells := 0, slots := 0, locals := 89 })).room s m args below meth c H locs 0 0 (MQ below (va_Qi (fun (r : Int32) (Y : XM) => r = r0 ∧ Y = X0) (fun (Y : XM) t => St D L ac Y t) (fr L)) args s 0 0 (fr L)) (F0 m 8 ls [])) : ∀ (n : Nat) (x1 : Int32) (x2 : Int32) (x3 : Int32) (x4 : Int32) (x5 : Int32) (x6 : Int32) (X : XM) (H : Heap) (locs : List Loc) (ls : Array Slot), Oh D L ac X (fr L) s.heap H locs → lv_has ls 7 [(0, .ref (L 0)), (1, .int x1), (2, .int x2), (3, .int x3), (4, .int x4), (5, .int x5), (6, .int x6)] → fX8_gamesWonByDraws_28 k8 n x1 x2 x3 x4 x5 x6 X = some (r0, X0) → W p l e (headSpec wsX8_gamesWonByDraws ({ frames := 4, cells := 0, slots := 0, locals := 89 })).room s m args below meth c H locs 0 0 (MQ below (va_Qi (fun (r : Int32) (Y : XM) => r = r0 ∧ Y = X0) (fun (Y : XM) t => St D L ac Y t) (fr L)) args s 0 0 (fr L)) (F0 m 28 ls []) := by
  obtain ⟨hx, hb, hr, hts, hown, hlocks, hml, hK, hN⟩ := id F
  have hA : ∀ q, fr L q → fr L q := fun q h => h
  intro n
  induction n with
  | zero => intro x1 x2 x3 x4 x5 x6 X H locs ls hO hl hf; simp [fX8_gamesWonByDraws_28] at hf
  | succ n ih =>
    intro x1 x2 x3 x4 x5 x6 X H locs ls hO hl hf
    rw [fX8_gamesWonByDraws_28] at hf
    refine lv_iload hx hb dX8_gamesWonByDraws_28 (lv_at hl 6 rfl) ?_
    refine lv_bipush (v := 40) hx hb dX8_gamesWonByDraws_30 (by decide) ?_
    refine lv_icmp_ge (tgt := 86) hx hb dX8_gamesWonByDraws_32 (by decide) (fun c_1 => ?_) (fun c_1 => ?_)
    · rw [if_pos c_1] at hf
      refine lv_aload_n hx hb dX8_gamesWonByDraws_86 rfl (lv_at hl 0 rfl) ?_
      refine k_get (k := 2) (v := .ref (L (aG 2))) hx hb hts in_X8_gamesWonByDraws_X8 hown hK hO (by decide) rfl rfl (by decide) lk_X8_gamesWonByDraws_f19 rfl dX8_gamesWonByDraws_87 ?_
      replace hf := zi_some hf
      obtain ⟨r_3, X_2, hc_2, hf⟩ := hf
      refine k_ai (va_runVN (As := []) (rest := []) ⟨hx, hb, hml, hown, hts⟩ (mX0_winner l D L ac hL _ 2 (by decide) _ _ hc_2) ⟨va_cnB 0 hts gX8_gamesWonByDraws_X0_winner_n147 rfl rfl rfl (hN _ nx_method_X8_147) (hts _ lk_X8_gamesWonByDraws_iX0) (by decide +kernel) ⟨Nat.le_of_ble_eq_true rfl, Nat.le_of_ble_eq_true rfl⟩, hts _ lk_X8_gamesWonByDraws_mX0_winner, hts _ lk_X8_gamesWonByDraws_eX0_winner⟩ (k_pv (j := (aG 2)) hK hN hO (aG_lt (by decide)) (cn_G 2) rfl _) rfl rfl hl.1 rfl (lv_room (Nat.le_of_ble_eq_true rfl)) dX8_gamesWonByDraws_90 ⟨Nat.le_of_ble_eq_true rfl, Nat.le_of_ble_eq_true rfl⟩) hA hO (fun H_4 locs_4 hO_4 => ?_)
      clear hO
      refine lv_aload_n hx hb dX8_gamesWonByDraws_93 rfl (lv_at hl 0 rfl) ?_
      refine k_get (k := 0) (v := .ref (L (aG 0))) hx hb hts in_X8_gamesWonByDraws_X8 hown hK hO_4 (by decide) rfl rfl (by decide) lk_X8_gamesWonByDraws_f12 rfl dX8_gamesWonByDraws_94 ?_
      refine k_getN (k := 6) (v := .int (X_2 0 3)) hx hb hts in_X8_gamesWonByDraws_X0 hown hK hN hO_4 (aG_lt (by decide)) (cn_G 0) rfl (by decide) nx_field_X8_140 rfl dX8_gamesWonByDraws_97 ?_
      refine lv_icmp_ne (tgt := 106) hx hb dX8_gamesWonByDraws_100 (by decide) (fun c_5 => ?_) (fun c_5 => ?_)
      · rw [if_neg c_5] at hf
        refine lv_iinc (v := x5 + 1) (lv' := [(5, .int (x5 + 1)), (0, .ref (L 0)), (1, .int x1), (2, .int x2), (3, .int x3), (4, .int x4), (6, .int x6)]) hx hb dX8_gamesWonByDraws_106 hl (k := 5) rfl rfl (by decide) rfl (fun ls_6 hl_6 => ?_)
        clear hl
        refine lv_goto (tgt := 8) hx hb dX8_gamesWonByDraws_109 (by decide) ?_
        exact hk8 _ _ _ _ _ _  _ _ _ hO_4 (lv_sub hl_6 [1, 2, 3, 4, 5, 0] rfl) hf
      · rw [if_pos c_5] at hf
        refine lv_iinc (v := x3 + 1) (lv' := [(3, .int (x3 + 1)), (0, .ref (L 0)), (1, .int x1), (2, .int x2), (4, .int x4), (5, .int x5), (6, .int x6)]) hx hb dX8_gamesWonByDraws_103 hl (k := 3) rfl rfl (by decide) rfl (fun ls_7 hl_7 => ?_)
        clear hl
        refine lv_iinc (v := x5 + 1) (lv' := [(5, .int (x5 + 1)), (3, .int (x3 + 1)), (0, .ref (L 0)), (1, .int x1), (2, .int x2), (4, .int x4), (6, .int x6)]) hx hb dX8_gamesWonByDraws_106 hl_7 (k := 5) rfl rfl (by decide) rfl (fun ls_8 hl_8 => ?_)
        clear hl_7
        refine lv_goto (tgt := 8) hx hb dX8_gamesWonByDraws_109 (by decide) ?_
        exact hk8 _ _ _ _ _ _  _ _ _ hO_4 (lv_sub hl_8 [2, 3, 4, 1, 5, 0] rfl) hf
    · rw [if_neg c_1] at hf
      refine lv_aload_n hx hb dX8_gamesWonByDraws_35 rfl (lv_at hl 0 rfl) ?_
      refine k_get (k := 2) (v := .ref (L (aG 2))) hx hb hts in_X8_gamesWonByDraws_X8 hown hK hO (by decide) rfl rfl (by decide) lk_X8_gamesWonByDraws_f19 rfl dX8_gamesWonByDraws_36 ?_
      replace hf := zi_some hf
      obtain ⟨r_10, X_9, hc_9, hf⟩ := hf
      refine k_ai (va_runVN (As := []) (rest := []) ⟨hx, hb, hml, hown, hts⟩ (mX0_isOver l D L ac hL _ 2 (by decide) _ _ hc_9) ⟨va_cnB 0 hts gX8_gamesWonByDraws_X0_isOver_n143 rfl rfl rfl (hN _ nx_method_X8_143) (hts _ lk_X8_gamesWonByDraws_iX0) (by decide +kernel) ⟨Nat.le_of_ble_eq_true rfl, Nat.le_of_ble_eq_true rfl⟩, hts _ lk_X8_gamesWonByDraws_mX0_isOver, hts _ lk_X8_gamesWonByDraws_eX0_isOver⟩ (k_pv (j := (aG 2)) hK hN hO (aG_lt (by decide)) (cn_G 2) rfl _) rfl rfl hl.1 rfl (lv_room (Nat.le_of_ble_eq_true rfl)) dX8_gamesWonByDraws_39 ⟨Nat.le_of_ble_eq_true rfl, Nat.le_of_ble_eq_true rfl⟩) hA hO (fun H_11 locs_11 hO_11 => ?_)
      clear hO
      refine lv_if_ne (tgt := 86) hx hb dX8_gamesWonByDraws_42 (by decide) (fun c_12 => ?_) (fun c_12 => ?_)
      · rw [if_neg c_12] at hf
        refine lv_aload_n hx hb dX8_gamesWonByDraws_86 rfl (lv_at hl 0 rfl) ?_
        refine k_get (k := 2) (v := .ref (L (aG 2))) hx hb hts in_X8_gamesWonByDraws_X8 hown hK hO_11 (by decide) rfl rfl (by decide) lk_X8_gamesWonByDraws_f19 rfl dX8_gamesWonByDraws_87 ?_
        replace hf := zi_some hf
        obtain ⟨r_14, X_13, hc_13, hf⟩ := hf
        refine k_ai (va_runVN (As := []) (rest := []) ⟨hx, hb, hml, hown, hts⟩ (mX0_winner l D L ac hL _ 2 (by decide) _ _ hc_13) ⟨va_cnB 0 hts gX8_gamesWonByDraws_X0_winner_n147 rfl rfl rfl (hN _ nx_method_X8_147) (hts _ lk_X8_gamesWonByDraws_iX0) (by decide +kernel) ⟨Nat.le_of_ble_eq_true rfl, Nat.le_of_ble_eq_true rfl⟩, hts _ lk_X8_gamesWonByDraws_mX0_winner, hts _ lk_X8_gamesWonByDraws_eX0_winner⟩ (k_pv (j := (aG 2)) hK hN hO_11 (aG_lt (by decide)) (cn_G 2) rfl _) rfl rfl hl.1 rfl (lv_room (Nat.le_of_ble_eq_true rfl)) dX8_gamesWonByDraws_90 ⟨Nat.le_of_ble_eq_true rfl, Nat.le_of_ble_eq_true rfl⟩) hA hO_11 (fun H_15 locs_15 hO_15 => ?_)
        clear hO_11
        refine lv_aload_n hx hb dX8_gamesWonByDraws_93 rfl (lv_at hl 0 rfl) ?_
        refine k_get (k := 0) (v := .ref (L (aG 0))) hx hb hts in_X8_gamesWonByDraws_X8 hown hK hO_15 (by decide) rfl rfl (by decide) lk_X8_gamesWonByDraws_f12 rfl dX8_gamesWonByDraws_94 ?_
        refine k_getN (k := 6) (v := .int (X_13 0 3)) hx hb hts in_X8_gamesWonByDraws_X0 hown hK hN hO_15 (aG_lt (by decide)) (cn_G 0) rfl (by decide) nx_field_X8_140 rfl dX8_gamesWonByDraws_97 ?_
        refine lv_icmp_ne (tgt := 106) hx hb dX8_gamesWonByDraws_100 (by decide) (fun c_16 => ?_) (fun c_16 => ?_)
        · rw [if_neg c_16] at hf
          refine lv_iinc (v := x5 + 1) (lv' := [(5, .int (x5 + 1)), (0, .ref (L 0)), (1, .int x1), (2, .int x2), (3, .int x3), (4, .int x4), (6, .int x6)]) hx hb dX8_gamesWonByDraws_106 hl (k := 5) rfl rfl (by decide) rfl (fun ls_17 hl_17 => ?_)
          clear hl
          refine lv_goto (tgt := 8) hx hb dX8_gamesWonByDraws_109 (by decide) ?_
          exact hk8 _ _ _ _ _ _  _ _ _ hO_15 (lv_sub hl_17 [1, 2, 3, 4, 5, 0] rfl) hf
        · rw [if_pos c_16] at hf
          refine lv_iinc (v := x3 + 1) (lv' := [(3, .int (x3 + 1)), (0, .ref (L 0)), (1, .int x1), (2, .int x2), (4, .int x4), (5, .int x5), (6, .int x6)]) hx hb dX8_gamesWonByDraws_103 hl (k := 3) rfl rfl (by decide) rfl (fun ls_18 hl_18 => ?_)
          clear hl
          refine lv_iinc (v := x5 + 1) (lv' := [(5, .int (x5 + 1)), (3, .int (x3 + 1)), (0, .ref (L 0)), (1, .int x1), (2, .int x2), (4, .int x4), (6, .int x6)]) hx hb dX8_gamesWonByDraws_106 hl_18 (k := 5) rfl rfl (by decide) rfl (fun ls_19 hl_19 => ?_)
          clear hl_18
          refine lv_goto (tgt := 8) hx hb dX8_gamesWonByDraws_109 (by decide) ?_
          exact hk8 _ _ _ _ _ _  _ _ _ hO_15 (lv_sub hl_19 [2, 3, 4, 1, 5, 0] rfl) hf
      · rw [if_pos c_12] at hf
        subst c_12
        refine lv_bipush (v := 75) hx hb dX8_gamesWonByDraws_45 (by decide) ?_
        refine lv_iload hx hb dX8_gamesWonByDraws_47 (lv_at hl 4 rfl) ?_
        refine lv_imul hx hb dX8_gamesWonByDraws_49 ?_
        refine lv_bipush (v := 74) hx hb dX8_gamesWonByDraws_50 (by decide) ?_
        refine lv_iadd hx hb dX8_gamesWonByDraws_52 ?_
        refine lv_ldc (v := 65537) hx hb hown (hts _ lk_X8_gamesWonByDraws_c185) dX8_gamesWonByDraws_53 ?_
        refine lv_irem hx hb dX8_gamesWonByDraws_55 (by decide) ?_
        replace hf := zl_some hf
        obtain ⟨v_20, hv_20, hf⟩ := hf
        refine lv_tope hv_20 ?_
        refine lv_istore (lv' := [(4, .int v_20), (0, .ref (L 0)), (1, .int x1), (2, .int x2), (3, .int x3), (5, .int x5), (6, .int x6)]) hx hb dX8_gamesWonByDraws_56 hl (by decide) rfl (fun ls_21 hl_21 => ?_)
        clear hl
        refine lv_aload_n hx hb dX8_gamesWonByDraws_58 rfl (lv_at hl_21 1 rfl) ?_
        refine k_get (k := 2) (v := .ref (L (aG 2))) hx hb hts in_X8_gamesWonByDraws_X8 hown hK hO_11 (by decide) rfl rfl (by decide) lk_X8_gamesWonByDraws_f19 rfl dX8_gamesWonByDraws_59 ?_
        refine lv_aload_n hx hb dX8_gamesWonByDraws_62 rfl (lv_at hl_21 1 rfl) ?_
        refine k_get (k := 2) (v := .ref (L (aG 2))) hx hb hts in_X8_gamesWonByDraws_X8 hown hK hO_11 (by decide) rfl rfl (by decide) lk_X8_gamesWonByDraws_f19 rfl dX8_gamesWonByDraws_63 ?_
        replace hf := zi_some hf
        obtain ⟨r_23, X_22, hc_22, hf⟩ := hf
        refine k_ai (va_runVN (As := []) (rest := [.ref (L (aG 2))]) ⟨hx, hb, hml, hown, hts⟩ (mX0_moveSet l D L ac hL _ 2 (by decide) _ _ hc_22) ⟨va_cnB 0 hts gX8_gamesWonByDraws_X0_moveSet_n165 rfl rfl rfl (hN _ nx_method_X8_165) (hts _ lk_X8_gamesWonByDraws_iX0) (by decide +kernel) ⟨Nat.le_of_ble_eq_true rfl, Nat.le_of_ble_eq_true rfl⟩, hts _ lk_X8_gamesWonByDraws_mX0_moveSet, hts _ lk_X8_gamesWonByDraws_eX0_moveSet⟩ (k_pv (j := (aG 2)) hK hN hO_11 (aG_lt (by decide)) (cn_G 2) rfl _) rfl rfl hl_21.1 rfl (lv_room (Nat.le_of_ble_eq_true rfl)) dX8_gamesWonByDraws_66 ⟨Nat.le_of_ble_eq_true rfl, Nat.le_of_ble_eq_true rfl⟩) hA hO_11 (fun H_24 locs_24 hO_24 => ?_)
        clear hO_11
        refine lv_iload hx hb dX8_gamesWonByDraws_69 (lv_at hl_21 0 rfl) ?_
        refine lv_bipush (v := 64) hx hb dX8_gamesWonByDraws_71 (by decide) ?_
        refine lv_idiv hx hb dX8_gamesWonByDraws_73 (by decide) ?_
        replace hf := zi_some hf
        obtain ⟨r_26, X_25, hc_25, hf⟩ := hf
        refine k_ai (va_runS (As := [.int r_23, .int (v_20 / 64)]) (rest := [.ref (L (aG 2))]) ⟨hx, hb, hml, hown, hts⟩ (mX8_moveInPlace l D L ac hL _ r_23 (v_20 / 64) _ _ hc_25) (va_cwS 2 hts gX8_gamesWonByDraws_X8_moveInPlace rfl rfl rfl (by decide +kernel) ⟨Nat.le_of_ble_eq_true rfl, Nat.le_of_ble_eq_true rfl⟩) (k_ps hK hN hO_24 _) rfl rfl hl_21.1 rfl (lv_room (Nat.le_of_ble_eq_true rfl)) dX8_gamesWonByDraws_74 ⟨Nat.le_of_ble_eq_true rfl, Nat.le_of_ble_eq_true rfl⟩) hA hO_24 (fun H_27 locs_27 hO_27 => ?_)
        clear hO_24
        replace hf := zv_some hf
        obtain ⟨X_28, hc_28, hf⟩ := hf
        refine k_av (va_runVN (As := [.int r_26]) (rest := []) ⟨hx, hb, hml, hown, hts⟩ (mX0_make l D L ac hL _ 2 (by decide) r_26 _ hc_28) ⟨va_cnB 1 hts gX8_gamesWonByDraws_X0_make_n242 rfl rfl rfl (hN _ nx_method_X8_242) (hts _ lk_X8_gamesWonByDraws_iX0) (by decide +kernel) ⟨Nat.le_of_ble_eq_true rfl, Nat.le_of_ble_eq_true rfl⟩, hts _ lk_X8_gamesWonByDraws_mX0_make, hts _ lk_X8_gamesWonByDraws_eX0_make⟩ (k_pv (j := (aG 2)) hK hN hO_27 (aG_lt (by decide)) (cn_G 2) rfl _) rfl rfl hl_21.1 rfl (lv_room (Nat.le_of_ble_eq_true rfl)) dX8_gamesWonByDraws_77 ⟨Nat.le_of_ble_eq_true rfl, Nat.le_of_ble_eq_true rfl⟩) hA hO_27 (fun H_29 locs_29 hO_29 => ?_)
        clear hO_27
        refine lv_iinc (v := x6 + 1) (lv' := [(6, .int (x6 + 1)), (4, .int v_20), (0, .ref (L 0)), (1, .int x1), (2, .int x2), (3, .int x3), (5, .int x5)]) hx hb dX8_gamesWonByDraws_80 hl_21 (k := 6) rfl rfl (by decide) rfl (fun ls_30 hl_30 => ?_)
        clear hl_21
        refine lv_goto (tgt := 28) hx hb dX8_gamesWonByDraws_83 (by decide) ?_
        exact ih _ _ _ _ _ _ _  _ _ _ hO_29 (lv_sub hl_30 [2, 3, 4, 5, 1, 6, 0] rfl) hf
def fX8_gamesWonByDraws_8   : Nat → Int32 → Int32 → Int32 → Int32 → Int32 → XM → Option (Int32 × XM)
  | 0, _, _, _, _, _, _ => none
  | n + 1, x1, x2, x3, x4, x5, X => if x1 ≤ x5 then some (x3, X) else zv (fX0_copyFrom 2 0 X) (fun X_32 => fX8_gamesWonByDraws_28 (fX8_gamesWonByDraws_8 n) fuel x1 x2 x3 x4 x5 0 X_32)
set_option maxHeartbeats 4000000 in
set_option maxRecDepth 100000 in
theorem wX8_gamesWonByDraws_8 {p : Program} {l : Launch} {e : Env} {s : State} {m : MethodId} {args : Array Value} {below : List Frame} {meth : Method} {c : Code} {D : va_G} {L : Nat → Nat} {ac : Nat → ClassId} {r0 : Int32} {X0 : XM} (hL : LL L) (F : Fx p s m args meth c cX8_gamesWonByDraws 7 (some .int) wsX8_gamesWonByDraws yX8_gamesWonByDraws.cls D ac) : ∀ (n : Nat) (x1 : Int32) (x2 : Int32) (x3 : Int32) (x4 : Int32) (x5 : Int32) (X : XM) (H : Heap) (locs : List Loc) (ls : Array Slot), Oh D L ac X (fr L) s.heap H locs → lv_has ls 7 [(0, .ref (L 0)), (1, .int x1), (2, .int x2), (3, .int x3), (4, .int x4), (5, .int x5)] → fX8_gamesWonByDraws_8 n x1 x2 x3 x4 x5 X = some (r0, X0) → W p l e (headSpec wsX8_gamesWonByDraws ({ frames := 4, cells := 0, slots := 0, locals := 89 })).room s m args below meth c H locs 0 0 (MQ below (va_Qi (fun (r : Int32) (Y : XM) => r = r0 ∧ Y = X0) (fun (Y : XM) t => St D L ac Y t) (fr L)) args s 0 0 (fr L)) (F0 m 8 ls []) := by
  obtain ⟨hx, hb, hr, hts, hown, hlocks, hml, hK, hN⟩ := id F
  have hA : ∀ q, fr L q → fr L q := fun q h => h
  intro n
  induction n with
  | zero => intro x1 x2 x3 x4 x5 X H locs ls hO hl hf; simp [fX8_gamesWonByDraws_8] at hf
  | succ n ih =>
    intro x1 x2 x3 x4 x5 X H locs ls hO hl hf
    rw [fX8_gamesWonByDraws_8] at hf
    refine lv_iload hx hb dX8_gamesWonByDraws_8 (lv_at hl 5 rfl) ?_
    refine lv_iload_n hx hb dX8_gamesWonByDraws_10 rfl (lv_at hl 1 rfl) ?_
    refine lv_icmp_ge (tgt := 112) hx hb dX8_gamesWonByDraws_11 (by decide) (fun c_31 => ?_) (fun c_31 => ?_)
    · rw [if_pos c_31] at hf
      refine lv_iload_n hx hb dX8_gamesWonByDraws_112 rfl (lv_at hl 3 rfl) ?_
      obtain ⟨rfl, rfl⟩ := Prod.mk.inj (Option.some.inj hf)
      exact e_i hx hb hr hK hN hO hlocks dX8_gamesWonByDraws_113
    · rw [if_neg c_31] at hf
      refine lv_aload_n hx hb dX8_gamesWonByDraws_14 rfl (lv_at hl 0 rfl) ?_
      refine k_get (k := 2) (v := .ref (L (aG 2))) hx hb hts in_X8_gamesWonByDraws_X8 hown hK hO (by decide) rfl rfl (by decide) lk_X8_gamesWonByDraws_f19 rfl dX8_gamesWonByDraws_15 ?_
      refine lv_aload_n hx hb dX8_gamesWonByDraws_18 rfl (lv_at hl 0 rfl) ?_
      refine k_get (k := 0) (v := .ref (L (aG 0))) hx hb hts in_X8_gamesWonByDraws_X8 hown hK hO (by decide) rfl rfl (by decide) lk_X8_gamesWonByDraws_f12 rfl dX8_gamesWonByDraws_19 ?_
      replace hf := zv_some hf
      obtain ⟨X_32, hc_32, hf⟩ := hf
      refine k_av (va_runVN (As := [.ref (L (aG 0))]) (rest := []) ⟨hx, hb, hml, hown, hts⟩ (mX0_copyFrom l D L ac hL _ 2 (by decide) 0 (by decide) _ hc_32) ⟨va_cnB 1 hts gX8_gamesWonByDraws_X0_copyFrom_n57 rfl rfl rfl (hN _ nx_method_X8_57) (hts _ lk_X8_gamesWonByDraws_iX0) (by decide +kernel) ⟨Nat.le_of_ble_eq_true rfl, Nat.le_of_ble_eq_true rfl⟩, hts _ lk_X8_gamesWonByDraws_mX0_copyFrom, hts _ lk_X8_gamesWonByDraws_eX0_copyFrom⟩ (k_pv (j := (aG 2)) hK hN hO (aG_lt (by decide)) (cn_G 2) rfl _) rfl rfl hl.1 rfl (lv_room (Nat.le_of_ble_eq_true rfl)) dX8_gamesWonByDraws_22 ⟨Nat.le_of_ble_eq_true rfl, Nat.le_of_ble_eq_true rfl⟩) hA hO (fun H_33 locs_33 hO_33 => ?_)
      clear hO
      refine lv_iconst (v := 0) hx hb dX8_gamesWonByDraws_25 (by decide) ?_
      refine lv_istore (lv' := [(6, .int 0), (0, .ref (L 0)), (1, .int x1), (2, .int x2), (3, .int x3), (4, .int x4), (5, .int x5)]) hx hb dX8_gamesWonByDraws_26 hl (by decide) rfl (fun ls_34 hl_34 => ?_)
      clear hl
      exact wX8_gamesWonByDraws_28 hL F _ ih fuel _ _ _ _ _ _ _  _ _ _ hO_33 (lv_sub hl_34 [1, 2, 3, 4, 5, 6, 0] rfl) hf
def fX8_gamesWonByDraws  (a1 : Int32) (a2 : Int32) (X : XM) : Option (Int32 × XM) := fX8_gamesWonByDraws_8 fuel a1 a2 0 a2 0 X
set_option maxHeartbeats 4000000 in
set_option maxRecDepth 100000 in
theorem mX8_gamesWonByDraws (l : Launch) (D : va_G) (L : Nat → Nat) (ac : Nat → ClassId) (hL : LL L) (X : XM) (a1 : Int32) (a2 : Int32) (r0 : Int32) (X0 : XM) (hf : fX8_gamesWonByDraws a1 a2 X = some (r0, X0)) : Ci l yX8_gamesWonByDraws wsX8_gamesWonByDraws ({ frames := 4, cells := 0, slots := 0, locals := 89 }) D L ac X [.ref (L 0), .int a1, .int a2] r0 X0 := by
  refine Met.ofK (cc := cX8_gamesWonByDraws) (maxL := 7) (ret := (some .int)) (lv := [(0, .ref (L 0)), (1, .int a1), (2, .int a2)]) (by decide +kernel) rfl (Nat.le_of_ble_eq_true rfl) rfl ?_
  intro p e s m below meth c F hO ls hl
  obtain ⟨hx, hb, hr, hts, hown, hlocks, hml, hK, hN⟩ := id F
  have hA : ∀ q, fr L q → fr L q := fun q h => h
  unfold fX8_gamesWonByDraws at hf
  refine lv_iconst (v := 0) hx hb dX8_gamesWonByDraws_0 (by decide) ?_
  refine lv_istore_n (lv' := [(3, .int 0), (0, .ref (L 0)), (1, .int a1), (2, .int a2)]) hx hb dX8_gamesWonByDraws_1 rfl hl (by decide) rfl (fun ls_35 hl_35 => ?_)
  clear hl
  refine lv_iload_n hx hb dX8_gamesWonByDraws_2 rfl (lv_at hl_35 3 rfl) ?_
  refine lv_istore (lv' := [(4, .int a2), (3, .int 0), (0, .ref (L 0)), (1, .int a1), (2, .int a2)]) hx hb dX8_gamesWonByDraws_3 hl_35 (by decide) rfl (fun ls_36 hl_36 => ?_)
  clear hl_35
  refine lv_iconst (v := 0) hx hb dX8_gamesWonByDraws_5 (by decide) ?_
  refine lv_istore (lv' := [(5, .int 0), (4, .int a2), (3, .int 0), (0, .ref (L 0)), (1, .int a1), (2, .int a2)]) hx hb dX8_gamesWonByDraws_6 hl_36 (by decide) rfl (fun ls_37 hl_37 => ?_)
  clear hl_36
  exact wX8_gamesWonByDraws_8 hL F  fuel _ _ _ _ _ _  _ _ _ hO (lv_sub hl_37 [3, 4, 5, 2, 1, 0] rfl) hf
