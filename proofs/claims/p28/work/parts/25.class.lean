theorem nx_field_X8_96 : Cond.fieldLinkNest "PoisonPiles" 96 "PoisonPiles$Game" "piles" "[LPoisonPiles$Pile;" "PoisonPiles" ∈ nxW := List.mem_of_getElem? (i := 24) rfl
theorem nx_field_X8_116 : Cond.fieldLinkNest "PoisonPiles" 116 "PoisonPiles$Game" "takes" "I" "PoisonPiles" ∈ nxW := List.mem_of_getElem? (i := 20) rfl
theorem nx_field_X8_131 : Cond.fieldLinkNest "PoisonPiles" 131 "PoisonPiles$Player" "passesLeft" "I" "PoisonPiles" ∈ nxW := List.mem_of_getElem? (i := 6) rfl
theorem nx_field_X8_137 : Cond.fieldLinkNest "PoisonPiles" 137 "PoisonPiles$Game" "pileCount" "I" "PoisonPiles" ∈ nxW := List.mem_of_getElem? (i := 25) rfl
theorem nx_field_X8_156 : Cond.fieldLinkNest "PoisonPiles" 156 "PoisonPiles$Game" "bonus" "I" "PoisonPiles" ∈ nxW := List.mem_of_getElem? (i := 22) rfl
theorem nx_field_X8_225 : Cond.fieldLinkNest "PoisonPiles" 225 "PoisonPiles$Game" "first" "LPoisonPiles$Player;" "PoisonPiles" ∈ nxW := List.mem_of_getElem? (i := 26) rfl
theorem nx_field_X8_229 : Cond.fieldLinkNest "PoisonPiles" 229 "PoisonPiles$Game" "second" "LPoisonPiles$Player;" "PoisonPiles" ∈ nxW := List.mem_of_getElem? (i := 27) rfl
theorem nx_method_X8_92 : Cond.methodLinkNest "PoisonPiles" 92 ⟨"PoisonPiles$Game", "hasPile", "(I)Z"⟩ "PoisonPiles" ∈ nxW := List.mem_of_getElem? (i := 54) rfl
theorem nx_method_X8_143 : Cond.methodLinkNest "PoisonPiles" 143 ⟨"PoisonPiles$Game", "isOver", "()Z"⟩ "PoisonPiles" ∈ nxW := List.mem_of_getElem? (i := 45) rfl
theorem nx_method_X8_179 : Cond.methodLinkNest "PoisonPiles" 179 ⟨"PoisonPiles$Solver", "bestMove", "(LPoisonPiles$Game;)I"⟩ "PoisonPiles" ∈ nxW := List.mem_of_getElem? (i := 65) rfl
theorem nx_method_X8_218 : Cond.methodLinkNest "PoisonPiles" 218 ⟨"PoisonPiles$History", "add", "(LPoisonPiles$Game;)V"⟩ "PoisonPiles" ∈ nxW := List.mem_of_getElem? (i := 53) rfl
theorem nx_method_X8_221 : Cond.methodLinkNest "PoisonPiles" 221 ⟨"PoisonPiles$Pile", "fill", "(IIZ)V"⟩ "PoisonPiles" ∈ nxW := List.mem_of_getElem? (i := 60) rfl
theorem nx_method_X8_235 : Cond.methodLinkNest "PoisonPiles" 235 ⟨"PoisonPiles$Game", "allows", "(I)Z"⟩ "PoisonPiles" ∈ nxW := List.mem_of_getElem? (i := 62) rfl
theorem nx_method_X8_238 : Cond.methodLinkNest "PoisonPiles" 238 ⟨"PoisonPiles$Game", "takeFrom", "(II)I"⟩ "PoisonPiles" ∈ nxW := List.mem_of_getElem? (i := 71) rfl
theorem nx_method_X8_241 : Cond.methodLinkNest "PoisonPiles" 241 ⟨"PoisonPiles$Game", "usePass", "()I"⟩ "PoisonPiles" ∈ nxW := List.mem_of_getElem? (i := 64) rfl
theorem nx_method_X8_242 : Cond.methodLinkNest "PoisonPiles" 242 ⟨"PoisonPiles$Game", "make", "(I)V"⟩ "PoisonPiles" ∈ nxW := List.mem_of_getElem? (i := 70) rfl
theorem in_X8_recorded_X8 : ∀ w ∈ u_ws RX8 TX8 8, w ∈ wsX8_recorded := by decide +kernel
theorem lk_X8_recorded_eX1_add : Cond.selects RX1 yX1_add yX1_add ∈ wsX8_recorded := by decide +kernel
theorem lk_X8_recorded_f16 : Cond.fieldLink RX8 16 "PoisonPiles" "before" "LPoisonPiles$Game;" ∈ wsX8_recorded := by decide +kernel
theorem lk_X8_recorded_f25 : Cond.fieldLink RX8 25 "PoisonPiles" "history" "LPoisonPiles$History;" ∈ wsX8_recorded := by decide +kernel
theorem lk_X8_recorded_iX1 : Cond.initialized RX1 ∈ wsX8_recorded := by decide +kernel
theorem lk_X8_recorded_mX1_add : Cond.instanceMethod yX1_add ∈ wsX8_recorded := by decide +kernel
def fX8_recorded  (a1 : Int32) (X : XM) : Option (Int32 × XM) := if a1 < 0 then some (a1, X) else zv (fX1_add 1 X) (fun X_2 => some (a1, X_2))
set_option maxHeartbeats 4000000 in
set_option maxRecDepth 100000 in
theorem mX8_recorded (l : Launch) (D : va_G) (L : Nat → Nat) (ac : Nat → ClassId) (hL : LL L) (X : XM) (a1 : Int32) (r0 : Int32) (X0 : XM) (hf : fX8_recorded a1 X = some (r0, X0)) : Ci l yX8_recorded wsX8_recorded ({ frames := 3, cells := 0, slots := 0, locals := 64 }) D L ac X [.ref (L 0), .int a1] r0 X0 := by
  refine Met.ofK (cc := cX8_recorded) (maxL := 2) (ret := (some .int)) (lv := [(0, .ref (L 0)), (1, .int a1)]) (by decide +kernel) rfl (Nat.le_of_ble_eq_true rfl) rfl ?_
  intro p e s m below meth c F hO ls hl
  obtain ⟨hx, hb, hr, hts, hown, hlocks, hml, hK, hN⟩ := id F
  have hA : ∀ q, fr L q → fr L q := fun q h => h
  unfold fX8_recorded at hf
  refine lv_iload_n hx hb dX8_recorded_0 rfl (lv_at hl 1 rfl) ?_
  refine lv_if_lt (tgt := 15) hx hb dX8_recorded_1 (by decide) (fun c_1 => ?_) (fun c_1 => ?_)
  · rw [if_pos c_1] at hf
    refine lv_iload_n hx hb dX8_recorded_15 rfl (lv_at hl 1 rfl) ?_
    obtain ⟨rfl, rfl⟩ := Prod.mk.inj (Option.some.inj hf)
    exact e_i hx hb hr hK hN hO hlocks dX8_recorded_16
  · rw [if_neg c_1] at hf
    refine lv_aload_n hx hb dX8_recorded_4 rfl (lv_at hl 0 rfl) ?_
    refine k_get (k := 3) (v := .ref (L 1)) hx hb hts in_X8_recorded_X8 hown hK hO (by decide) rfl rfl (by decide) lk_X8_recorded_f25 rfl dX8_recorded_5 ?_
    refine lv_aload_n hx hb dX8_recorded_8 rfl (lv_at hl 0 rfl) ?_
    refine k_get (k := 1) (v := .ref (L (aG 1))) hx hb hts in_X8_recorded_X8 hown hK hO (by decide) rfl rfl (by decide) lk_X8_recorded_f16 rfl dX8_recorded_9 ?_
    replace hf := zv_some hf
    obtain ⟨X_2, hc_2, hf⟩ := hf
    refine k_av (va_runVN (As := [.ref (L (aG 1))]) (rest := []) ⟨hx, hb, hml, hown, hts⟩ (mX1_add l D L ac hL _ 1 (by decide) _ hc_2) ⟨va_cnB 1 hts gX8_recorded_X1_add_n218 rfl rfl rfl (hN _ nx_method_X8_218) (hts _ lk_X8_recorded_iX1) (by decide +kernel) ⟨Nat.le_of_ble_eq_true rfl, Nat.le_of_ble_eq_true rfl⟩, hts _ lk_X8_recorded_mX1_add, hts _ lk_X8_recorded_eX1_add⟩ (k_pv (j := 1) hK hN hO (by decide) rfl rfl _) rfl rfl hl.1 rfl (lv_room (Nat.le_of_ble_eq_true rfl)) dX8_recorded_12 ⟨Nat.le_of_ble_eq_true rfl, Nat.le_of_ble_eq_true rfl⟩) hA hO (fun H_3 locs_3 hO_3 => ?_)
    clear hO
    refine lv_iload_n hx hb dX8_recorded_15 rfl (lv_at hl 1 rfl) ?_
    obtain ⟨rfl, rfl⟩ := Prod.mk.inj (Option.some.inj hf)
    exact e_i hx hb hr hK hN hO_3 hlocks dX8_recorded_16
theorem in_X8_changeSetting_X0 : ∀ w ∈ u_ws RX0 TX0 10, w ∈ wsX8_changeSetting := by decide +kernel
theorem in_X8_changeSetting_X8 : ∀ w ∈ u_ws RX8 TX8 8, w ∈ wsX8_changeSetting := by decide +kernel
theorem lk_X8_changeSetting_f12 : Cond.fieldLink RX8 12 "PoisonPiles" "now" "LPoisonPiles$Game;" ∈ wsX8_changeSetting := by decide +kernel
def fX8_changeSetting  (a1 : Int32) (a2 : Int32) (X : XM) : Option (Int32 × XM) := if a1 = 0 then if a2 < 1 then some ((-2), X) else if 31 < a2 then some ((-2), X) else zl (X 0 0) (fun v_13 => zl (xup X 0 0 a2) (fun X_15 => some (v_13, X_15))) else if a1 = 1 then if a2 < 0 then some ((-2), X) else if 99 < a2 then some ((-2), X) else zl (X 0 1) (fun v_5 => zl (xup X 0 1 a2) (fun X_7 => some (v_5, X_7))) else some ((-2), X)
set_option maxHeartbeats 4000000 in
set_option maxRecDepth 100000 in
theorem mX8_changeSetting (l : Launch) (D : va_G) (L : Nat → Nat) (ac : Nat → ClassId) (hL : LL L) (X : XM) (a1 : Int32) (a2 : Int32) (r0 : Int32) (X0 : XM) (hf : fX8_changeSetting a1 a2 X = some (r0, X0)) : Ci l yX8_changeSetting wsX8_changeSetting ({ frames := 0, cells := 0, slots := 0, locals := 0 }) D L ac X [.ref (L 0), .int a1, .int a2] r0 X0 := by
  refine Met.ofK (cc := cX8_changeSetting) (maxL := 4) (ret := (some .int)) (lv := [(0, .ref (L 0)), (1, .int a1), (2, .int a2)]) (by decide +kernel) rfl (Nat.le_of_ble_eq_true rfl) rfl ?_
  intro p e s m below meth c F hO ls hl
  obtain ⟨hx, hb, hr, hts, hown, hlocks, hml, hK, hN⟩ := id F
  have hA : ∀ q, fr L q → fr L q := fun q h => h
  unfold fX8_changeSetting at hf
  refine lv_iload_n hx hb dX8_changeSetting_0 rfl (lv_at hl 1 rfl) ?_
  refine lv_if_ne (tgt := 33) hx hb dX8_changeSetting_1 (by decide) (fun c_1 => ?_) (fun c_1 => ?_)
  · rw [if_neg c_1] at hf
    refine lv_iload_n hx hb dX8_changeSetting_33 rfl (lv_at hl 1 rfl) ?_
    refine lv_iconst (v := 1) hx hb dX8_changeSetting_34 (by decide) ?_
    refine lv_icmp_ne (tgt := 66) hx hb dX8_changeSetting_35 (by decide) (fun c_2 => ?_) (fun c_2 => ?_)
    · rw [if_neg c_2] at hf
      refine lv_bipush (v := (-2)) hx hb dX8_changeSetting_66 (by decide) ?_
      obtain ⟨rfl, rfl⟩ := Prod.mk.inj (Option.some.inj hf)
      exact e_i hx hb hr hK hN hO hlocks dX8_changeSetting_68
    · rw [if_pos c_2] at hf
      subst c_2
      refine lv_iload_n hx hb dX8_changeSetting_38 rfl (lv_at hl 2 rfl) ?_
      refine lv_if_lt (tgt := 66) hx hb dX8_changeSetting_39 (by decide) (fun c_3 => ?_) (fun c_3 => ?_)
      · rw [if_pos c_3] at hf
        refine lv_bipush (v := (-2)) hx hb dX8_changeSetting_66 (by decide) ?_
        obtain ⟨rfl, rfl⟩ := Prod.mk.inj (Option.some.inj hf)
        exact e_i hx hb hr hK hN hO hlocks dX8_changeSetting_68
      · rw [if_neg c_3] at hf
        refine lv_iload_n hx hb dX8_changeSetting_42 rfl (lv_at hl 2 rfl) ?_
        refine lv_bipush (v := 99) hx hb dX8_changeSetting_43 (by decide) ?_
        refine lv_icmp_gt (tgt := 66) hx hb dX8_changeSetting_45 (by decide) (fun c_4 => ?_) (fun c_4 => ?_)
        · rw [if_pos c_4] at hf
          refine lv_bipush (v := (-2)) hx hb dX8_changeSetting_66 (by decide) ?_
          obtain ⟨rfl, rfl⟩ := Prod.mk.inj (Option.some.inj hf)
          exact e_i hx hb hr hK hN hO hlocks dX8_changeSetting_68
        · rw [if_neg c_4] at hf
          refine lv_aload_n hx hb dX8_changeSetting_48 rfl (lv_at hl 0 rfl) ?_
          refine k_get (k := 0) (v := .ref (L (aG 0))) hx hb hts in_X8_changeSetting_X8 hown hK hO (by decide) rfl rfl (by decide) lk_X8_changeSetting_f12 rfl dX8_changeSetting_49 ?_
          refine k_getN (k := 1) (v := .int (X 0 1)) hx hb hts in_X8_changeSetting_X0 hown hK hN hO (aG_lt (by decide)) (cn_G 0) rfl (by decide) nx_field_X8_156 rfl dX8_changeSetting_52 ?_
          replace hf := zl_some hf
          obtain ⟨v_5, hv_5, hf⟩ := hf
          refine lv_tope hv_5 ?_
          refine lv_istore_n (lv' := [(3, .int v_5), (0, .ref (L 0)), (1, .int 1), (2, .int a2)]) hx hb dX8_changeSetting_55 rfl hl (by decide) rfl (fun ls_6 hl_6 => ?_)
          clear hl
          refine lv_aload_n hx hb dX8_changeSetting_56 rfl (lv_at hl_6 1 rfl) ?_
          refine k_get (k := 0) (v := .ref (L (aG 0))) hx hb hts in_X8_changeSetting_X8 hown hK hO (by decide) rfl rfl (by decide) lk_X8_changeSetting_f12 rfl dX8_changeSetting_57 ?_
          refine lv_iload_n hx hb dX8_changeSetting_60 rfl (lv_at hl_6 3 rfl) ?_
          refine k_putN (ty := .int) (k := 1) (r := 0) (k' := 1) hx hb tyX0 tyX0_ok nmX0 hts in_X8_changeSetting_X0 hown hK hN hL hA hO (aG_lt (by decide)) (ow_G (by decide) (by decide)) (by omega) (fun Y => (cn_G 0)) (pf_G1 0) rfl (by decide) nx_field_X8_156 rfl (by decide +kernel) rfl rfl (Nat.le_of_ble_eq_true rfl) dX8_changeSetting_61 (fun H_8 locs_8 hO_8 => ?_)
          replace hf := zl_some hf
          obtain ⟨X_7, hX_7, hf⟩ := hf
          have hQ_8 := zo_eq hX_7 hO_8
          clear hO_8 hO
          refine lv_iload_n hx hb dX8_changeSetting_64 rfl (lv_at hl_6 0 rfl) ?_
          obtain ⟨rfl, rfl⟩ := Prod.mk.inj (Option.some.inj hf)
          exact e_i hx hb hr hK hN hQ_8 hlocks dX8_changeSetting_65
  · rw [if_pos c_1] at hf
    subst c_1
    refine lv_iload_n hx hb dX8_changeSetting_4 rfl (lv_at hl 2 rfl) ?_
    refine lv_iconst (v := 1) hx hb dX8_changeSetting_5 (by decide) ?_
    refine lv_icmp_lt (tgt := 33) hx hb dX8_changeSetting_6 (by decide) (fun c_9 => ?_) (fun c_9 => ?_)
    · rw [if_pos c_9] at hf
      refine lv_iload_n hx hb dX8_changeSetting_33 rfl (lv_at hl 1 rfl) ?_
      refine lv_iconst (v := 1) hx hb dX8_changeSetting_34 (by decide) ?_
      refine lv_icmp_ne (tgt := 66) hx hb dX8_changeSetting_35 (by decide) (fun _ => ?_) (fun c_10 => absurd c_10 (by decide))
      refine lv_bipush (v := (-2)) hx hb dX8_changeSetting_66 (by decide) ?_
      obtain ⟨rfl, rfl⟩ := Prod.mk.inj (Option.some.inj hf)
      exact e_i hx hb hr hK hN hO hlocks dX8_changeSetting_68
    · rw [if_neg c_9] at hf
      refine lv_iload_n hx hb dX8_changeSetting_9 rfl (lv_at hl 2 rfl) ?_
      refine lv_bipush (v := 31) hx hb dX8_changeSetting_10 (by decide) ?_
      refine lv_icmp_gt (tgt := 33) hx hb dX8_changeSetting_12 (by decide) (fun c_11 => ?_) (fun c_11 => ?_)
      · rw [if_pos c_11] at hf
        refine lv_iload_n hx hb dX8_changeSetting_33 rfl (lv_at hl 1 rfl) ?_
        refine lv_iconst (v := 1) hx hb dX8_changeSetting_34 (by decide) ?_
        refine lv_icmp_ne (tgt := 66) hx hb dX8_changeSetting_35 (by decide) (fun _ => ?_) (fun c_12 => absurd c_12 (by decide))
        refine lv_bipush (v := (-2)) hx hb dX8_changeSetting_66 (by decide) ?_
        obtain ⟨rfl, rfl⟩ := Prod.mk.inj (Option.some.inj hf)
        exact e_i hx hb hr hK hN hO hlocks dX8_changeSetting_68
      · rw [if_neg c_11] at hf
        refine lv_aload_n hx hb dX8_changeSetting_15 rfl (lv_at hl 0 rfl) ?_
        refine k_get (k := 0) (v := .ref (L (aG 0))) hx hb hts in_X8_changeSetting_X8 hown hK hO (by decide) rfl rfl (by decide) lk_X8_changeSetting_f12 rfl dX8_changeSetting_16 ?_
        refine k_getN (k := 0) (v := .int (X 0 0)) hx hb hts in_X8_changeSetting_X0 hown hK hN hO (aG_lt (by decide)) (cn_G 0) rfl (by decide) nx_field_X8_116 rfl dX8_changeSetting_19 ?_
        replace hf := zl_some hf
        obtain ⟨v_13, hv_13, hf⟩ := hf
        refine lv_tope hv_13 ?_
        refine lv_istore_n (lv' := [(3, .int v_13), (0, .ref (L 0)), (1, .int 0), (2, .int a2)]) hx hb dX8_changeSetting_22 rfl hl (by decide) rfl (fun ls_14 hl_14 => ?_)
        clear hl
        refine lv_aload_n hx hb dX8_changeSetting_23 rfl (lv_at hl_14 1 rfl) ?_
        refine k_get (k := 0) (v := .ref (L (aG 0))) hx hb hts in_X8_changeSetting_X8 hown hK hO (by decide) rfl rfl (by decide) lk_X8_changeSetting_f12 rfl dX8_changeSetting_24 ?_
        refine lv_iload_n hx hb dX8_changeSetting_27 rfl (lv_at hl_14 3 rfl) ?_
        refine k_putN (ty := .int) (k := 0) (r := 0) (k' := 0) hx hb tyX0 tyX0_ok nmX0 hts in_X8_changeSetting_X0 hown hK hN hL hA hO (aG_lt (by decide)) (ow_G (by decide) (by decide)) (by omega) (fun Y => (cn_G 0)) (pf_G0 0) rfl (by decide) nx_field_X8_116 rfl (by decide +kernel) rfl rfl (Nat.le_of_ble_eq_true rfl) dX8_changeSetting_28 (fun H_16 locs_16 hO_16 => ?_)
        replace hf := zl_some hf
        obtain ⟨X_15, hX_15, hf⟩ := hf
        have hQ_16 := zo_eq hX_15 hO_16
        clear hO_16 hO
        refine lv_iload_n hx hb dX8_changeSetting_31 rfl (lv_at hl_14 0 rfl) ?_
        obtain ⟨rfl, rfl⟩ := Prod.mk.inj (Option.some.inj hf)
        exact e_i hx hb hr hK hN hQ_16 hlocks dX8_changeSetting_32
theorem in_X8_addPile_X0 : ∀ w ∈ u_ws RX0 TX0 10, w ∈ wsX8_addPile := by decide +kernel
theorem in_X8_addPile_X8 : ∀ w ∈ u_ws RX8 TX8 8, w ∈ wsX8_addPile := by decide +kernel
theorem lk_X8_addPile_eX3_fill : Cond.selects RX3 yX3_fill yX3_fill ∈ wsX8_addPile := by decide +kernel
theorem lk_X8_addPile_f12 : Cond.fieldLink RX8 12 "PoisonPiles" "now" "LPoisonPiles$Game;" ∈ wsX8_addPile := by decide +kernel
theorem lk_X8_addPile_iX3 : Cond.initialized RX3 ∈ wsX8_addPile := by decide +kernel
theorem lk_X8_addPile_mX3_fill : Cond.instanceMethod yX3_fill ∈ wsX8_addPile := by decide +kernel
def fX8_addPile  (a1 : Int32) (a2 : Int32) (a3 : Int32) (X : XM) : Option (Int32 × XM) := if a1 < 0 then some ((-2), X) else if 5 < a1 then some ((-2), X) else if a2 < 0 then some ((-2), X) else if a2 ≤ 9 then if a3 = 0 then zl (X 0 2) (fun v_6 => if v_6 < 0 then some ((-4), X) else if v_6 < 4 then zd v_6 4 (zv (fX3_fill 0 (Int32.toNatClampNeg v_6) a1 a2 0 X) (fun X_12 => zl (xup X_12 0 2 (v_6 + 1)) (fun X_14 => some (v_6, X_14)))) else some ((-4), X)) else if a3 = 1 then zl (X 0 2) (fun v_17 => if v_17 < 0 then some ((-4), X) else if v_17 < 4 then zd v_17 4 (zv (fX3_fill 0 (Int32.toNatClampNeg v_17) a1 a2 1 X) (fun X_23 => zl (xup X_23 0 2 (v_17 + 1)) (fun X_25 => some (v_17, X_25)))) else some ((-4), X)) else some ((-2), X) else some ((-2), X)
set_option maxHeartbeats 4000000 in
set_option maxRecDepth 100000 in
theorem mX8_addPile (l : Launch) (D : va_G) (L : Nat → Nat) (ac : Nat → ClassId) (hL : LL L) (X : XM) (a1 : Int32) (a2 : Int32) (a3 : Int32) (r0 : Int32) (X0 : XM) (hf : fX8_addPile a1 a2 a3 X = some (r0, X0)) : Ci l yX8_addPile wsX8_addPile ({ frames := 1, cells := 0, slots := 0, locals := 23 }) D L ac X [.ref (L 0), .int a1, .int a2, .int a3] r0 X0 := by
  refine Met.ofK (cc := cX8_addPile) (maxL := 5) (ret := (some .int)) (lv := [(0, .ref (L 0)), (1, .int a1), (2, .int a2), (3, .int a3)]) (by decide +kernel) rfl (Nat.le_of_ble_eq_true rfl) rfl ?_
  intro p e s m below meth c F hO ls hl
  obtain ⟨hx, hb, hr, hts, hown, hlocks, hml, hK, hN⟩ := id F
  have hA : ∀ q, fr L q → fr L q := fun q h => h
  unfold fX8_addPile at hf
  refine lv_iload_n hx hb dX8_addPile_0 rfl (lv_at hl 1 rfl) ?_
  refine lv_if_lt (tgt := 19) hx hb dX8_addPile_1 (by decide) (fun c_1 => ?_) (fun c_1 => ?_)
  · rw [if_pos c_1] at hf
    refine lv_bipush (v := (-2)) hx hb dX8_addPile_19 (by decide) ?_
    obtain ⟨rfl, rfl⟩ := Prod.mk.inj (Option.some.inj hf)
    exact e_i hx hb hr hK hN hO hlocks dX8_addPile_21
  · rw [if_neg c_1] at hf
    refine lv_iload_n hx hb dX8_addPile_4 rfl (lv_at hl 1 rfl) ?_
    refine lv_iconst (v := 5) hx hb dX8_addPile_5 (by decide) ?_
    refine lv_icmp_gt (tgt := 19) hx hb dX8_addPile_6 (by decide) (fun c_2 => ?_) (fun c_2 => ?_)
    · rw [if_pos c_2] at hf
      refine lv_bipush (v := (-2)) hx hb dX8_addPile_19 (by decide) ?_
      obtain ⟨rfl, rfl⟩ := Prod.mk.inj (Option.some.inj hf)
      exact e_i hx hb hr hK hN hO hlocks dX8_addPile_21
    · rw [if_neg c_2] at hf
      refine lv_iload_n hx hb dX8_addPile_9 rfl (lv_at hl 2 rfl) ?_
      refine lv_if_lt (tgt := 19) hx hb dX8_addPile_10 (by decide) (fun c_3 => ?_) (fun c_3 => ?_)
      · rw [if_pos c_3] at hf
        refine lv_bipush (v := (-2)) hx hb dX8_addPile_19 (by decide) ?_
        obtain ⟨rfl, rfl⟩ := Prod.mk.inj (Option.some.inj hf)
        exact e_i hx hb hr hK hN hO hlocks dX8_addPile_21
      · rw [if_neg c_3] at hf
        refine lv_iload_n hx hb dX8_addPile_13 rfl (lv_at hl 2 rfl) ?_
        refine lv_bipush (v := 9) hx hb dX8_addPile_14 (by decide) ?_
        refine lv_icmp_le (tgt := 22) hx hb dX8_addPile_16 (by decide) (fun c_4 => ?_) (fun c_4 => ?_)
        · rw [if_pos c_4] at hf
          refine lv_iload_n hx hb dX8_addPile_22 rfl (lv_at hl 3 rfl) ?_
          refine lv_if_eq (tgt := 34) hx hb dX8_addPile_23 (by decide) (fun c_5 => ?_) (fun c_5 => ?_)
          · rw [if_pos c_5] at hf
            subst c_5
            refine lv_aload_n hx hb dX8_addPile_34 rfl (lv_at hl 0 rfl) ?_
            refine k_get (k := 0) (v := .ref (L (aG 0))) hx hb hts in_X8_addPile_X8 hown hK hO (by decide) rfl rfl (by decide) lk_X8_addPile_f12 rfl dX8_addPile_35 ?_
            refine k_getN (k := 3) (v := .int (X 0 2)) hx hb hts in_X8_addPile_X0 hown hK hN hO (aG_lt (by decide)) (cn_G 0) rfl (by decide) nx_field_X8_137 rfl dX8_addPile_38 ?_
            replace hf := zl_some hf
            obtain ⟨v_6, hv_6, hf⟩ := hf
            refine lv_tope hv_6 ?_
            refine lv_istore (lv' := [(4, .int v_6), (0, .ref (L 0)), (1, .int a1), (2, .int a2), (3, .int 0)]) hx hb dX8_addPile_41 hl (by decide) rfl (fun ls_7 hl_7 => ?_)
            clear hl
            refine lv_iload hx hb dX8_addPile_43 (lv_at hl_7 0 rfl) ?_
            refine lv_if_lt (tgt := 61) hx hb dX8_addPile_45 (by decide) (fun c_8 => ?_) (fun c_8 => ?_)
            · rw [if_pos c_8] at hf
              refine lv_bipush (v := (-4)) hx hb dX8_addPile_61 (by decide) ?_
              obtain ⟨rfl, rfl⟩ := Prod.mk.inj (Option.some.inj hf)
              exact e_i hx hb hr hK hN hO hlocks dX8_addPile_63
            · rw [if_neg c_8] at hf
              refine lv_iload hx hb dX8_addPile_48 (lv_at hl_7 0 rfl) ?_
              refine lv_aload_n hx hb dX8_addPile_50 rfl (lv_at hl_7 1 rfl) ?_
              refine k_get (k := 0) (v := .ref (L (aG 0))) hx hb hts in_X8_addPile_X8 hown hK hO (by decide) rfl rfl (by decide) lk_X8_addPile_f12 rfl dX8_addPile_51 ?_
              refine k_getN (k := 2) (v := .ref (L (aA 0))) hx hb hts in_X8_addPile_X0 hown hK hN hO (aG_lt (by decide)) (cn_G 0) rfl (by decide) nx_field_X8_96 rfl dX8_addPile_54 ?_
              refine k_alen (v := 4) (t := 3) hx hb hK hO (aA_lt (by decide)) (ct_A 0) rfl rfl dX8_addPile_57 ?_
              refine lv_icmp_lt (tgt := 64) hx hb dX8_addPile_58 (by decide) (fun c_9 => ?_) (fun c_9 => ?_)
              · rw [if_pos c_9] at hf
                refine lv_aload_n hx hb dX8_addPile_64 rfl (lv_at hl_7 1 rfl) ?_
                refine k_get (k := 0) (v := .ref (L (aG 0))) hx hb hts in_X8_addPile_X8 hown hK hO (by decide) rfl rfl (by decide) lk_X8_addPile_f12 rfl dX8_addPile_65 ?_
                refine k_getN (k := 2) (v := .ref (L (aA 0))) hx hb hts in_X8_addPile_X0 hown hK hN hO (aG_lt (by decide)) (cn_G 0) rfl (by decide) nx_field_X8_96 rfl dX8_addPile_68 ?_
                refine lv_iload hx hb dX8_addPile_71 (lv_at hl_7 0 rfl) ?_
                replace hf := zd_some hf
                obtain ⟨hi_10, hf⟩ := hf
                refine k_aald hx hb hK hO (aA_lt (by decide)) (ct_A 0) rfl hi_10 dX8_addPile_73 ?_
                refine lv_topr (b := L (aP 0 (Int32.toNatClampNeg v_6))) rfl ?_
                refine lv_iload_n hx hb dX8_addPile_74 rfl (lv_at hl_7 2 rfl) ?_
                refine lv_iload_n hx hb dX8_addPile_75 rfl (lv_at hl_7 3 rfl) ?_
                refine lv_iload_n hx hb dX8_addPile_76 rfl (lv_at hl_7 4 rfl) ?_
                refine lv_iconst (v := 1) hx hb dX8_addPile_77 (by decide) ?_
                refine lv_icmp_ne (tgt := 85) hx hb dX8_addPile_78 (by decide) (fun _ => ?_) (fun c_11 => absurd c_11 (by decide))
                refine lv_iconst (v := 0) hx hb dX8_addPile_85 (by decide) ?_
                replace hf := zv_some hf
                obtain ⟨X_12, hc_12, hf⟩ := hf
                refine k_av (va_runVN (As := [.int a1, .int a2, .int 0]) (rest := []) ⟨hx, hb, hml, hown, hts⟩ (mX3_fill l D L ac hL _ 0 (by decide) (Int32.toNatClampNeg v_6) (vp_lt hi_10) a1 a2 0 _ hc_12) ⟨va_cnB 3 hts gX8_addPile_X3_fill_n221 rfl rfl rfl (hN _ nx_method_X8_221) (hts _ lk_X8_addPile_iX3) (by decide +kernel) ⟨Nat.le_of_ble_eq_true rfl, Nat.le_of_ble_eq_true rfl⟩, hts _ lk_X8_addPile_mX3_fill, hts _ lk_X8_addPile_eX3_fill⟩ (k_pv (j := (aP 0 (Int32.toNatClampNeg v_6))) hK hN hO (aP_lt (by decide) (vp_lt hi_10)) (cn_P 0 (Int32.toNatClampNeg v_6) (vp_lt hi_10)) rfl _) rfl rfl hl_7.1 rfl (lv_room (Nat.le_of_ble_eq_true rfl)) dX8_addPile_86 ⟨Nat.le_of_ble_eq_true rfl, Nat.le_of_ble_eq_true rfl⟩) hA hO (fun H_13 locs_13 hO_13 => ?_)
                clear hO
                refine lv_aload_n hx hb dX8_addPile_89 rfl (lv_at hl_7 1 rfl) ?_
                refine k_get (k := 0) (v := .ref (L (aG 0))) hx hb hts in_X8_addPile_X8 hown hK hO_13 (by decide) rfl rfl (by decide) lk_X8_addPile_f12 rfl dX8_addPile_90 ?_
                refine lv_iload hx hb dX8_addPile_93 (lv_at hl_7 0 rfl) ?_
                refine lv_iconst (v := 1) hx hb dX8_addPile_95 (by decide) ?_
                refine lv_iadd hx hb dX8_addPile_96 ?_
                refine k_putN (ty := .int) (k := 3) (r := 0) (k' := 2) hx hb tyX0 tyX0_ok nmX0 hts in_X8_addPile_X0 hown hK hN hL hA hO_13 (aG_lt (by decide)) (ow_G (by decide) (by decide)) (by omega) (fun Y => (cn_G 0)) (pf_G2 0) rfl (by decide) nx_field_X8_137 rfl (by decide +kernel) rfl rfl (Nat.le_of_ble_eq_true rfl) dX8_addPile_97 (fun H_15 locs_15 hO_15 => ?_)
                replace hf := zl_some hf
                obtain ⟨X_14, hX_14, hf⟩ := hf
                have hQ_15 := zo_eq hX_14 hO_15
                clear hO_15 hO_13
                refine lv_iload hx hb dX8_addPile_100 (lv_at hl_7 0 rfl) ?_
                obtain ⟨rfl, rfl⟩ := Prod.mk.inj (Option.some.inj hf)
                exact e_i hx hb hr hK hN hQ_15 hlocks dX8_addPile_102
              · rw [if_neg c_9] at hf
                refine lv_bipush (v := (-4)) hx hb dX8_addPile_61 (by decide) ?_
                obtain ⟨rfl, rfl⟩ := Prod.mk.inj (Option.some.inj hf)
                exact e_i hx hb hr hK hN hO hlocks dX8_addPile_63
          · rw [if_neg c_5] at hf
            refine lv_iload_n hx hb dX8_addPile_26 rfl (lv_at hl 3 rfl) ?_
            refine lv_iconst (v := 1) hx hb dX8_addPile_27 (by decide) ?_
            refine lv_icmp_eq (tgt := 34) hx hb dX8_addPile_28 (by decide) (fun c_16 => ?_) (fun c_16 => ?_)
            · rw [if_pos c_16] at hf
              subst c_16
              refine lv_aload_n hx hb dX8_addPile_34 rfl (lv_at hl 0 rfl) ?_
              refine k_get (k := 0) (v := .ref (L (aG 0))) hx hb hts in_X8_addPile_X8 hown hK hO (by decide) rfl rfl (by decide) lk_X8_addPile_f12 rfl dX8_addPile_35 ?_
              refine k_getN (k := 3) (v := .int (X 0 2)) hx hb hts in_X8_addPile_X0 hown hK hN hO (aG_lt (by decide)) (cn_G 0) rfl (by decide) nx_field_X8_137 rfl dX8_addPile_38 ?_
              replace hf := zl_some hf
              obtain ⟨v_17, hv_17, hf⟩ := hf
              refine lv_tope hv_17 ?_
              refine lv_istore (lv' := [(4, .int v_17), (0, .ref (L 0)), (1, .int a1), (2, .int a2), (3, .int 1)]) hx hb dX8_addPile_41 hl (by decide) rfl (fun ls_18 hl_18 => ?_)
              clear hl
              refine lv_iload hx hb dX8_addPile_43 (lv_at hl_18 0 rfl) ?_
              refine lv_if_lt (tgt := 61) hx hb dX8_addPile_45 (by decide) (fun c_19 => ?_) (fun c_19 => ?_)
              · rw [if_pos c_19] at hf
                refine lv_bipush (v := (-4)) hx hb dX8_addPile_61 (by decide) ?_
                obtain ⟨rfl, rfl⟩ := Prod.mk.inj (Option.some.inj hf)
                exact e_i hx hb hr hK hN hO hlocks dX8_addPile_63
              · rw [if_neg c_19] at hf
                refine lv_iload hx hb dX8_addPile_48 (lv_at hl_18 0 rfl) ?_
                refine lv_aload_n hx hb dX8_addPile_50 rfl (lv_at hl_18 1 rfl) ?_
                refine k_get (k := 0) (v := .ref (L (aG 0))) hx hb hts in_X8_addPile_X8 hown hK hO (by decide) rfl rfl (by decide) lk_X8_addPile_f12 rfl dX8_addPile_51 ?_
                refine k_getN (k := 2) (v := .ref (L (aA 0))) hx hb hts in_X8_addPile_X0 hown hK hN hO (aG_lt (by decide)) (cn_G 0) rfl (by decide) nx_field_X8_96 rfl dX8_addPile_54 ?_
                refine k_alen (v := 4) (t := 3) hx hb hK hO (aA_lt (by decide)) (ct_A 0) rfl rfl dX8_addPile_57 ?_
                refine lv_icmp_lt (tgt := 64) hx hb dX8_addPile_58 (by decide) (fun c_20 => ?_) (fun c_20 => ?_)
                · rw [if_pos c_20] at hf
                  refine lv_aload_n hx hb dX8_addPile_64 rfl (lv_at hl_18 1 rfl) ?_
                  refine k_get (k := 0) (v := .ref (L (aG 0))) hx hb hts in_X8_addPile_X8 hown hK hO (by decide) rfl rfl (by decide) lk_X8_addPile_f12 rfl dX8_addPile_65 ?_
                  refine k_getN (k := 2) (v := .ref (L (aA 0))) hx hb hts in_X8_addPile_X0 hown hK hN hO (aG_lt (by decide)) (cn_G 0) rfl (by decide) nx_field_X8_96 rfl dX8_addPile_68 ?_
                  refine lv_iload hx hb dX8_addPile_71 (lv_at hl_18 0 rfl) ?_
                  replace hf := zd_some hf
                  obtain ⟨hi_21, hf⟩ := hf
                  refine k_aald hx hb hK hO (aA_lt (by decide)) (ct_A 0) rfl hi_21 dX8_addPile_73 ?_
                  refine lv_topr (b := L (aP 0 (Int32.toNatClampNeg v_17))) rfl ?_
                  refine lv_iload_n hx hb dX8_addPile_74 rfl (lv_at hl_18 2 rfl) ?_
                  refine lv_iload_n hx hb dX8_addPile_75 rfl (lv_at hl_18 3 rfl) ?_
                  refine lv_iload_n hx hb dX8_addPile_76 rfl (lv_at hl_18 4 rfl) ?_
                  refine lv_iconst (v := 1) hx hb dX8_addPile_77 (by decide) ?_
                  refine lv_icmp_ne (tgt := 85) hx hb dX8_addPile_78 (by decide) (fun c_22 => absurd (by decide) c_22) (fun _ => ?_)
                  refine lv_iconst (v := 1) hx hb dX8_addPile_81 (by decide) ?_
                  refine lv_goto (tgt := 86) hx hb dX8_addPile_82 (by decide) ?_
                  replace hf := zv_some hf
                  obtain ⟨X_23, hc_23, hf⟩ := hf
                  refine k_av (va_runVN (As := [.int a1, .int a2, .int 1]) (rest := []) ⟨hx, hb, hml, hown, hts⟩ (mX3_fill l D L ac hL _ 0 (by decide) (Int32.toNatClampNeg v_17) (vp_lt hi_21) a1 a2 1 _ hc_23) ⟨va_cnB 3 hts gX8_addPile_X3_fill_n221 rfl rfl rfl (hN _ nx_method_X8_221) (hts _ lk_X8_addPile_iX3) (by decide +kernel) ⟨Nat.le_of_ble_eq_true rfl, Nat.le_of_ble_eq_true rfl⟩, hts _ lk_X8_addPile_mX3_fill, hts _ lk_X8_addPile_eX3_fill⟩ (k_pv (j := (aP 0 (Int32.toNatClampNeg v_17))) hK hN hO (aP_lt (by decide) (vp_lt hi_21)) (cn_P 0 (Int32.toNatClampNeg v_17) (vp_lt hi_21)) rfl _) rfl rfl hl_18.1 rfl (lv_room (Nat.le_of_ble_eq_true rfl)) dX8_addPile_86 ⟨Nat.le_of_ble_eq_true rfl, Nat.le_of_ble_eq_true rfl⟩) hA hO (fun H_24 locs_24 hO_24 => ?_)
                  clear hO
                  refine lv_aload_n hx hb dX8_addPile_89 rfl (lv_at hl_18 1 rfl) ?_
                  refine k_get (k := 0) (v := .ref (L (aG 0))) hx hb hts in_X8_addPile_X8 hown hK hO_24 (by decide) rfl rfl (by decide) lk_X8_addPile_f12 rfl dX8_addPile_90 ?_
                  refine lv_iload hx hb dX8_addPile_93 (lv_at hl_18 0 rfl) ?_
                  refine lv_iconst (v := 1) hx hb dX8_addPile_95 (by decide) ?_
                  refine lv_iadd hx hb dX8_addPile_96 ?_
                  refine k_putN (ty := .int) (k := 3) (r := 0) (k' := 2) hx hb tyX0 tyX0_ok nmX0 hts in_X8_addPile_X0 hown hK hN hL hA hO_24 (aG_lt (by decide)) (ow_G (by decide) (by decide)) (by omega) (fun Y => (cn_G 0)) (pf_G2 0) rfl (by decide) nx_field_X8_137 rfl (by decide +kernel) rfl rfl (Nat.le_of_ble_eq_true rfl) dX8_addPile_97 (fun H_26 locs_26 hO_26 => ?_)
                  replace hf := zl_some hf
                  obtain ⟨X_25, hX_25, hf⟩ := hf
                  have hQ_26 := zo_eq hX_25 hO_26
                  clear hO_26 hO_24
                  refine lv_iload hx hb dX8_addPile_100 (lv_at hl_18 0 rfl) ?_
                  obtain ⟨rfl, rfl⟩ := Prod.mk.inj (Option.some.inj hf)
                  exact e_i hx hb hr hK hN hQ_26 hlocks dX8_addPile_102
                · rw [if_neg c_20] at hf
                  refine lv_bipush (v := (-4)) hx hb dX8_addPile_61 (by decide) ?_
                  obtain ⟨rfl, rfl⟩ := Prod.mk.inj (Option.some.inj hf)
                  exact e_i hx hb hr hK hN hO hlocks dX8_addPile_63
            · rw [if_neg c_16] at hf
              refine lv_bipush (v := (-2)) hx hb dX8_addPile_31 (by decide) ?_
              obtain ⟨rfl, rfl⟩ := Prod.mk.inj (Option.some.inj hf)
              exact e_i hx hb hr hK hN hO hlocks dX8_addPile_33
        · rw [if_neg c_4] at hf
          refine lv_bipush (v := (-2)) hx hb dX8_addPile_19 (by decide) ?_
          obtain ⟨rfl, rfl⟩ := Prod.mk.inj (Option.some.inj hf)
          exact e_i hx hb hr hK hN hO hlocks dX8_addPile_21
theorem in_X8_givePasses_X0 : ∀ w ∈ u_ws RX0 TX0 10, w ∈ wsX8_givePasses := by decide +kernel
theorem in_X8_givePasses_X4 : ∀ w ∈ u_ws RX4 TX4 2, w ∈ wsX8_givePasses := by decide +kernel
theorem in_X8_givePasses_X8 : ∀ w ∈ u_ws RX8 TX8 8, w ∈ wsX8_givePasses := by decide +kernel
theorem lk_X8_givePasses_f12 : Cond.fieldLink RX8 12 "PoisonPiles" "now" "LPoisonPiles$Game;" ∈ wsX8_givePasses := by decide +kernel
def fX8_givePasses  (a1 : Int32) (a2 : Int32) (X : XM) : Option (Int32 × XM) := if a1 < 0 then some ((-2), X) else if 2 < a1 then some ((-2), X) else if a2 < 0 then some ((-2), X) else if a2 ≤ 2 then zl ((X 0 7) + (X 0 8)) (fun v_5 => zl (xup X 0 7 a1) (fun X_7 => zl (xup X_7 0 8 a2) (fun X_9 => some (v_5, X_9)))) else some ((-2), X)
set_option maxHeartbeats 4000000 in
set_option maxRecDepth 100000 in
theorem mX8_givePasses (l : Launch) (D : va_G) (L : Nat → Nat) (ac : Nat → ClassId) (hL : LL L) (X : XM) (a1 : Int32) (a2 : Int32) (r0 : Int32) (X0 : XM) (hf : fX8_givePasses a1 a2 X = some (r0, X0)) : Ci l yX8_givePasses wsX8_givePasses ({ frames := 0, cells := 0, slots := 0, locals := 0 }) D L ac X [.ref (L 0), .int a1, .int a2] r0 X0 := by
  refine Met.ofK (cc := cX8_givePasses) (maxL := 4) (ret := (some .int)) (lv := [(0, .ref (L 0)), (1, .int a1), (2, .int a2)]) (by decide +kernel) rfl (Nat.le_of_ble_eq_true rfl) rfl ?_
  intro p e s m below meth c F hO ls hl
  obtain ⟨hx, hb, hr, hts, hown, hlocks, hml, hK, hN⟩ := id F
  have hA : ∀ q, fr L q → fr L q := fun q h => h
  unfold fX8_givePasses at hf
  refine lv_iload_n hx hb dX8_givePasses_0 rfl (lv_at hl 1 rfl) ?_
  refine lv_if_lt (tgt := 18) hx hb dX8_givePasses_1 (by decide) (fun c_1 => ?_) (fun c_1 => ?_)
  · rw [if_pos c_1] at hf
    refine lv_bipush (v := (-2)) hx hb dX8_givePasses_18 (by decide) ?_
    obtain ⟨rfl, rfl⟩ := Prod.mk.inj (Option.some.inj hf)
    exact e_i hx hb hr hK hN hO hlocks dX8_givePasses_20
  · rw [if_neg c_1] at hf
    refine lv_iload_n hx hb dX8_givePasses_4 rfl (lv_at hl 1 rfl) ?_
    refine lv_iconst (v := 2) hx hb dX8_givePasses_5 (by decide) ?_
    refine lv_icmp_gt (tgt := 18) hx hb dX8_givePasses_6 (by decide) (fun c_2 => ?_) (fun c_2 => ?_)
    · rw [if_pos c_2] at hf
      refine lv_bipush (v := (-2)) hx hb dX8_givePasses_18 (by decide) ?_
      obtain ⟨rfl, rfl⟩ := Prod.mk.inj (Option.some.inj hf)
      exact e_i hx hb hr hK hN hO hlocks dX8_givePasses_20
    · rw [if_neg c_2] at hf
      refine lv_iload_n hx hb dX8_givePasses_9 rfl (lv_at hl 2 rfl) ?_
      refine lv_if_lt (tgt := 18) hx hb dX8_givePasses_10 (by decide) (fun c_3 => ?_) (fun c_3 => ?_)
      · rw [if_pos c_3] at hf
        refine lv_bipush (v := (-2)) hx hb dX8_givePasses_18 (by decide) ?_
        obtain ⟨rfl, rfl⟩ := Prod.mk.inj (Option.some.inj hf)
        exact e_i hx hb hr hK hN hO hlocks dX8_givePasses_20
      · rw [if_neg c_3] at hf
        refine lv_iload_n hx hb dX8_givePasses_13 rfl (lv_at hl 2 rfl) ?_
        refine lv_iconst (v := 2) hx hb dX8_givePasses_14 (by decide) ?_
        refine lv_icmp_le (tgt := 21) hx hb dX8_givePasses_15 (by decide) (fun c_4 => ?_) (fun c_4 => ?_)
        · rw [if_pos c_4] at hf
          refine lv_aload_n hx hb dX8_givePasses_21 rfl (lv_at hl 0 rfl) ?_
          refine k_get (k := 0) (v := .ref (L (aG 0))) hx hb hts in_X8_givePasses_X8 hown hK hO (by decide) rfl rfl (by decide) lk_X8_givePasses_f12 rfl dX8_givePasses_22 ?_
          refine k_getN (k := 4) (v := .ref (L (aY 0 0))) hx hb hts in_X8_givePasses_X0 hown hK hN hO (aG_lt (by decide)) (cn_G 0) rfl (by decide) nx_field_X8_225 rfl dX8_givePasses_25 ?_
          refine k_getN (k := 1) (v := .int (X 0 7)) hx hb hts in_X8_givePasses_X4 hown hK hN hO (aY_lt (by decide) (by decide)) (cn_Y 0 0 (by decide)) rfl (by decide) nx_field_X8_131 rfl dX8_givePasses_28 ?_
          refine lv_aload_n hx hb dX8_givePasses_31 rfl (lv_at hl 0 rfl) ?_
          refine k_get (k := 0) (v := .ref (L (aG 0))) hx hb hts in_X8_givePasses_X8 hown hK hO (by decide) rfl rfl (by decide) lk_X8_givePasses_f12 rfl dX8_givePasses_32 ?_
          refine k_getN (k := 5) (v := .ref (L (aY 0 1))) hx hb hts in_X8_givePasses_X0 hown hK hN hO (aG_lt (by decide)) (cn_G 0) rfl (by decide) nx_field_X8_229 rfl dX8_givePasses_35 ?_
          refine k_getN (k := 1) (v := .int (X 0 8)) hx hb hts in_X8_givePasses_X4 hown hK hN hO (aY_lt (by decide) (by decide)) (cn_Y 0 1 (by decide)) rfl (by decide) nx_field_X8_131 rfl dX8_givePasses_38 ?_
          refine lv_iadd hx hb dX8_givePasses_41 ?_
          replace hf := zl_some hf
          obtain ⟨v_5, hv_5, hf⟩ := hf
          refine lv_tope hv_5 ?_
          refine lv_istore_n (lv' := [(3, .int v_5), (0, .ref (L 0)), (1, .int a1), (2, .int a2)]) hx hb dX8_givePasses_42 rfl hl (by decide) rfl (fun ls_6 hl_6 => ?_)
          clear hl
          refine lv_aload_n hx hb dX8_givePasses_43 rfl (lv_at hl_6 1 rfl) ?_
          refine k_get (k := 0) (v := .ref (L (aG 0))) hx hb hts in_X8_givePasses_X8 hown hK hO (by decide) rfl rfl (by decide) lk_X8_givePasses_f12 rfl dX8_givePasses_44 ?_
          refine k_getN (k := 4) (v := .ref (L (aY 0 0))) hx hb hts in_X8_givePasses_X0 hown hK hN hO (aG_lt (by decide)) (cn_G 0) rfl (by decide) nx_field_X8_225 rfl dX8_givePasses_47 ?_
          refine lv_iload_n hx hb dX8_givePasses_50 rfl (lv_at hl_6 2 rfl) ?_
          refine k_putN (ty := .int) (k := 1) (r := 0) (k' := 7) hx hb tyX4 tyX4_ok nmX4 hts in_X8_givePasses_X4 hown hK hN hL hA hO (aY_lt (by decide) (by decide)) (ow_Y7 (w := 0) (by decide) (by decide)) (by omega) (fun Y => (cn_Y 0 0 (by decide))) (pf_Y7 0 0 (by decide)) rfl (by decide) nx_field_X8_131 rfl (by decide +kernel) rfl rfl (Nat.le_of_ble_eq_true rfl) dX8_givePasses_51 (fun H_8 locs_8 hO_8 => ?_)
          replace hf := zl_some hf
          obtain ⟨X_7, hX_7, hf⟩ := hf
          have hQ_8 := zo_eq hX_7 hO_8
          clear hO_8 hO
          refine lv_aload_n hx hb dX8_givePasses_54 rfl (lv_at hl_6 1 rfl) ?_
          refine k_get (k := 0) (v := .ref (L (aG 0))) hx hb hts in_X8_givePasses_X8 hown hK hQ_8 (by decide) rfl rfl (by decide) lk_X8_givePasses_f12 rfl dX8_givePasses_55 ?_
          refine k_getN (k := 5) (v := .ref (L (aY 0 1))) hx hb hts in_X8_givePasses_X0 hown hK hN hQ_8 (aG_lt (by decide)) (cn_G 0) rfl (by decide) nx_field_X8_229 rfl dX8_givePasses_58 ?_
          refine lv_iload_n hx hb dX8_givePasses_61 rfl (lv_at hl_6 3 rfl) ?_
          refine k_putN (ty := .int) (k := 1) (r := 0) (k' := 8) hx hb tyX4 tyX4_ok nmX4 hts in_X8_givePasses_X4 hown hK hN hL hA hQ_8 (aY_lt (by decide) (by decide)) (ow_Y7 (w := 1) (by decide) (by decide)) (by omega) (fun Y => (cn_Y 0 1 (by decide))) (pf_Y7 0 1 (by decide)) rfl (by decide) nx_field_X8_131 rfl (by decide +kernel) rfl rfl (Nat.le_of_ble_eq_true rfl) dX8_givePasses_62 (fun H_10 locs_10 hO_10 => ?_)
          replace hf := zl_some hf
          obtain ⟨X_9, hX_9, hf⟩ := hf
          have hQ_10 := zo_eq hX_9 hO_10
          clear hO_10 hQ_8
          refine lv_iload_n hx hb dX8_givePasses_65 rfl (lv_at hl_6 0 rfl) ?_
          obtain ⟨rfl, rfl⟩ := Prod.mk.inj (Option.some.inj hf)
          exact e_i hx hb hr hK hN hQ_10 hlocks dX8_givePasses_66
        · rw [if_neg c_4] at hf
          refine lv_bipush (v := (-2)) hx hb dX8_givePasses_18 (by decide) ?_
          obtain ⟨rfl, rfl⟩ := Prod.mk.inj (Option.some.inj hf)
          exact e_i hx hb hr hK hN hO hlocks dX8_givePasses_20
theorem in_X8_takeTokens_X8 : ∀ w ∈ u_ws RX8 TX8 8, w ∈ wsX8_takeTokens := by decide +kernel
theorem lk_X8_takeTokens_eX0_allows : Cond.selects RX0 yX0_allows yX0_allows ∈ wsX8_takeTokens := by decide +kernel
theorem lk_X8_takeTokens_eX0_hasPile : Cond.selects RX0 yX0_hasPile yX0_hasPile ∈ wsX8_takeTokens := by decide +kernel
theorem lk_X8_takeTokens_eX0_takeFrom : Cond.selects RX0 yX0_takeFrom yX0_takeFrom ∈ wsX8_takeTokens := by decide +kernel
theorem lk_X8_takeTokens_f12 : Cond.fieldLink RX8 12 "PoisonPiles" "now" "LPoisonPiles$Game;" ∈ wsX8_takeTokens := by decide +kernel
theorem lk_X8_takeTokens_iX0 : Cond.initialized RX0 ∈ wsX8_takeTokens := by decide +kernel
theorem lk_X8_takeTokens_mX0_allows : Cond.instanceMethod yX0_allows ∈ wsX8_takeTokens := by decide +kernel
theorem lk_X8_takeTokens_mX0_hasPile : Cond.instanceMethod yX0_hasPile ∈ wsX8_takeTokens := by decide +kernel
theorem lk_X8_takeTokens_mX0_takeFrom : Cond.instanceMethod yX0_takeFrom ∈ wsX8_takeTokens := by decide +kernel
def fX8_takeTokens  (a1 : Int32) (a2 : Int32) (X : XM) : Option (Int32 × XM) := zi (fX0_hasPile 0 a1 X) (fun r_2 X_1 => if r_2 = 0 then some ((-1), X_1) else if a2 < 1 then some ((-5), X_1) else if 5 < a2 then some ((-5), X_1) else zi (fX8_takeMove a1 a2 X_1) (fun r_8 X_7 => zi (fX0_allows 0 r_8 X_7) (fun r_11 X_10 => if r_11 = 0 then some ((-5), X_10) else zi (fX0_takeFrom 0 a1 a2 X_10) (fun r_15 X_14 => some (r_15, X_14)))))
set_option maxHeartbeats 4000000 in
set_option maxRecDepth 100000 in
theorem mX8_takeTokens (l : Launch) (D : va_G) (L : Nat → Nat) (ac : Nat → ClassId) (hL : LL L) (X : XM) (a1 : Int32) (a2 : Int32) (r0 : Int32) (X0 : XM) (hf : fX8_takeTokens a1 a2 X = some (r0, X0)) : Ci l yX8_takeTokens wsX8_takeTokens ({ frames := 3, cells := 0, slots := 0, locals := 68 }) D L ac X [.ref (L 0), .int a1, .int a2] r0 X0 := by
  refine Met.ofK (cc := cX8_takeTokens) (maxL := 3) (ret := (some .int)) (lv := [(0, .ref (L 0)), (1, .int a1), (2, .int a2)]) (by decide +kernel) rfl (Nat.le_of_ble_eq_true rfl) rfl ?_
  intro p e s m below meth c F hO ls hl
  obtain ⟨hx, hb, hr, hts, hown, hlocks, hml, hK, hN⟩ := id F
  have hA : ∀ q, fr L q → fr L q := fun q h => h
  unfold fX8_takeTokens at hf
  refine lv_aload_n hx hb dX8_takeTokens_0 rfl (lv_at hl 0 rfl) ?_
  refine k_get (k := 0) (v := .ref (L (aG 0))) hx hb hts in_X8_takeTokens_X8 hown hK hO (by decide) rfl rfl (by decide) lk_X8_takeTokens_f12 rfl dX8_takeTokens_1 ?_
  refine lv_iload_n hx hb dX8_takeTokens_4 rfl (lv_at hl 1 rfl) ?_
  replace hf := zi_some hf
  obtain ⟨r_2, X_1, hc_1, hf⟩ := hf
  refine k_ai (va_runVN (As := [.int a1]) (rest := []) ⟨hx, hb, hml, hown, hts⟩ (mX0_hasPile l D L ac hL _ 0 (by decide) a1 _ _ hc_1) ⟨va_cnB 1 hts gX8_takeTokens_X0_hasPile_n92 rfl rfl rfl (hN _ nx_method_X8_92) (hts _ lk_X8_takeTokens_iX0) (by decide +kernel) ⟨Nat.le_of_ble_eq_true rfl, Nat.le_of_ble_eq_true rfl⟩, hts _ lk_X8_takeTokens_mX0_hasPile, hts _ lk_X8_takeTokens_eX0_hasPile⟩ (k_pv (j := (aG 0)) hK hN hO (aG_lt (by decide)) (cn_G 0) rfl _) rfl rfl hl.1 rfl (lv_room (Nat.le_of_ble_eq_true rfl)) dX8_takeTokens_5 ⟨Nat.le_of_ble_eq_true rfl, Nat.le_of_ble_eq_true rfl⟩) hA hO (fun H_3 locs_3 hO_3 => ?_)
  clear hO
  refine lv_if_ne (tgt := 13) hx hb dX8_takeTokens_8 (by decide) (fun c_4 => ?_) (fun c_4 => ?_)
  · rw [if_neg c_4] at hf
    refine lv_iload_n hx hb dX8_takeTokens_13 rfl (lv_at hl 2 rfl) ?_
    refine lv_iconst (v := 1) hx hb dX8_takeTokens_14 (by decide) ?_
    refine lv_icmp_lt (tgt := 38) hx hb dX8_takeTokens_15 (by decide) (fun c_5 => ?_) (fun c_5 => ?_)
    · rw [if_pos c_5] at hf
      refine lv_bipush (v := (-5)) hx hb dX8_takeTokens_38 (by decide) ?_
      obtain ⟨rfl, rfl⟩ := Prod.mk.inj (Option.some.inj hf)
      exact e_i hx hb hr hK hN hO_3 hlocks dX8_takeTokens_40
    · rw [if_neg c_5] at hf
      refine lv_iload_n hx hb dX8_takeTokens_18 rfl (lv_at hl 2 rfl) ?_
      refine lv_iconst (v := 5) hx hb dX8_takeTokens_19 (by decide) ?_
      refine lv_icmp_gt (tgt := 38) hx hb dX8_takeTokens_20 (by decide) (fun c_6 => ?_) (fun c_6 => ?_)
      · rw [if_pos c_6] at hf
        refine lv_bipush (v := (-5)) hx hb dX8_takeTokens_38 (by decide) ?_
        obtain ⟨rfl, rfl⟩ := Prod.mk.inj (Option.some.inj hf)
        exact e_i hx hb hr hK hN hO_3 hlocks dX8_takeTokens_40
      · rw [if_neg c_6] at hf
        refine lv_aload_n hx hb dX8_takeTokens_23 rfl (lv_at hl 0 rfl) ?_
        refine k_get (k := 0) (v := .ref (L (aG 0))) hx hb hts in_X8_takeTokens_X8 hown hK hO_3 (by decide) rfl rfl (by decide) lk_X8_takeTokens_f12 rfl dX8_takeTokens_24 ?_
        refine lv_iload_n hx hb dX8_takeTokens_27 rfl (lv_at hl 1 rfl) ?_
        refine lv_iload_n hx hb dX8_takeTokens_28 rfl (lv_at hl 2 rfl) ?_
        replace hf := zi_some hf
        obtain ⟨r_8, X_7, hc_7, hf⟩ := hf
        refine k_ai (va_runS (As := [.int a1, .int a2]) (rest := [.ref (L (aG 0))]) ⟨hx, hb, hml, hown, hts⟩ (mX8_takeMove l D L ac hL _ a1 a2 _ _ hc_7) (va_cwS 2 hts gX8_takeTokens_X8_takeMove rfl rfl rfl (by decide +kernel) ⟨Nat.le_of_ble_eq_true rfl, Nat.le_of_ble_eq_true rfl⟩) (k_ps hK hN hO_3 _) rfl rfl hl.1 rfl (lv_room (Nat.le_of_ble_eq_true rfl)) dX8_takeTokens_29 ⟨Nat.le_of_ble_eq_true rfl, Nat.le_of_ble_eq_true rfl⟩) hA hO_3 (fun H_9 locs_9 hO_9 => ?_)
        clear hO_3
        replace hf := zi_some hf
        obtain ⟨r_11, X_10, hc_10, hf⟩ := hf
        refine k_ai (va_runVN (As := [.int r_8]) (rest := []) ⟨hx, hb, hml, hown, hts⟩ (mX0_allows l D L ac hL _ 0 (by decide) r_8 _ _ hc_10) ⟨va_cnB 1 hts gX8_takeTokens_X0_allows_n235 rfl rfl rfl (hN _ nx_method_X8_235) (hts _ lk_X8_takeTokens_iX0) (by decide +kernel) ⟨Nat.le_of_ble_eq_true rfl, Nat.le_of_ble_eq_true rfl⟩, hts _ lk_X8_takeTokens_mX0_allows, hts _ lk_X8_takeTokens_eX0_allows⟩ (k_pv (j := (aG 0)) hK hN hO_9 (aG_lt (by decide)) (cn_G 0) rfl _) rfl rfl hl.1 rfl (lv_room (Nat.le_of_ble_eq_true rfl)) dX8_takeTokens_32 ⟨Nat.le_of_ble_eq_true rfl, Nat.le_of_ble_eq_true rfl⟩) hA hO_9 (fun H_12 locs_12 hO_12 => ?_)
        clear hO_9
        refine lv_if_ne (tgt := 41) hx hb dX8_takeTokens_35 (by decide) (fun c_13 => ?_) (fun c_13 => ?_)
        · rw [if_neg c_13] at hf
          refine lv_aload_n hx hb dX8_takeTokens_41 rfl (lv_at hl 0 rfl) ?_
          refine k_get (k := 0) (v := .ref (L (aG 0))) hx hb hts in_X8_takeTokens_X8 hown hK hO_12 (by decide) rfl rfl (by decide) lk_X8_takeTokens_f12 rfl dX8_takeTokens_42 ?_
          refine lv_iload_n hx hb dX8_takeTokens_45 rfl (lv_at hl 1 rfl) ?_
          refine lv_iload_n hx hb dX8_takeTokens_46 rfl (lv_at hl 2 rfl) ?_
          replace hf := zi_some hf
          obtain ⟨r_15, X_14, hc_14, hf⟩ := hf
          refine k_ai (va_runVN (As := [.int a1, .int a2]) (rest := []) ⟨hx, hb, hml, hown, hts⟩ (mX0_takeFrom l D L ac hL _ 0 (by decide) a1 a2 _ _ hc_14) ⟨va_cnB 2 hts gX8_takeTokens_X0_takeFrom_n238 rfl rfl rfl (hN _ nx_method_X8_238) (hts _ lk_X8_takeTokens_iX0) (by decide +kernel) ⟨Nat.le_of_ble_eq_true rfl, Nat.le_of_ble_eq_true rfl⟩, hts _ lk_X8_takeTokens_mX0_takeFrom, hts _ lk_X8_takeTokens_eX0_takeFrom⟩ (k_pv (j := (aG 0)) hK hN hO_12 (aG_lt (by decide)) (cn_G 0) rfl _) rfl rfl hl.1 rfl (lv_room (Nat.le_of_ble_eq_true rfl)) dX8_takeTokens_47 ⟨Nat.le_of_ble_eq_true rfl, Nat.le_of_ble_eq_true rfl⟩) hA hO_12 (fun H_16 locs_16 hO_16 => ?_)
          clear hO_12
          obtain ⟨rfl, rfl⟩ := Prod.mk.inj (Option.some.inj hf)
          exact e_i hx hb hr hK hN hO_16 hlocks dX8_takeTokens_50
        · rw [if_pos c_13] at hf
          subst c_13
          refine lv_bipush (v := (-5)) hx hb dX8_takeTokens_38 (by decide) ?_
          obtain ⟨rfl, rfl⟩ := Prod.mk.inj (Option.some.inj hf)
          exact e_i hx hb hr hK hN hO_12 hlocks dX8_takeTokens_40
  · rw [if_pos c_4] at hf
    subst c_4
    refine lv_iconst (v := (-1)) hx hb dX8_takeTokens_11 (by decide) ?_
    obtain ⟨rfl, rfl⟩ := Prod.mk.inj (Option.some.inj hf)
    exact e_i hx hb hr hK hN hO_3 hlocks dX8_takeTokens_12
theorem in_X8_usePass_X8 : ∀ w ∈ u_ws RX8 TX8 8, w ∈ wsX8_usePass := by decide +kernel
theorem lk_X8_usePass_eX0_allows : Cond.selects RX0 yX0_allows yX0_allows ∈ wsX8_usePass := by decide +kernel
theorem lk_X8_usePass_eX0_usePass : Cond.selects RX0 yX0_usePass yX0_usePass ∈ wsX8_usePass := by decide +kernel
theorem lk_X8_usePass_f12 : Cond.fieldLink RX8 12 "PoisonPiles" "now" "LPoisonPiles$Game;" ∈ wsX8_usePass := by decide +kernel
theorem lk_X8_usePass_iX0 : Cond.initialized RX0 ∈ wsX8_usePass := by decide +kernel
theorem lk_X8_usePass_mX0_allows : Cond.instanceMethod yX0_allows ∈ wsX8_usePass := by decide +kernel
theorem lk_X8_usePass_mX0_usePass : Cond.instanceMethod yX0_usePass ∈ wsX8_usePass := by decide +kernel
def fX8_usePass   (X : XM) : Option (Int32 × XM) := zi (fX0_allows 0 20 X) (fun r_2 X_1 => if r_2 = 0 then some ((-5), X_1) else zi (fX0_usePass 0 X_1) (fun r_6 X_5 => some (r_6, X_5)))
set_option maxHeartbeats 4000000 in
set_option maxRecDepth 100000 in
theorem mX8_usePass (l : Launch) (D : va_G) (L : Nat → Nat) (ac : Nat → ClassId) (hL : LL L) (X : XM)  (r0 : Int32) (X0 : XM) (hf : fX8_usePass  X = some (r0, X0)) : Ci l yX8_usePass wsX8_usePass ({ frames := 3, cells := 0, slots := 0, locals := 68 }) D L ac X [.ref (L 0)] r0 X0 := by
  refine Met.ofK (cc := cX8_usePass) (maxL := 1) (ret := (some .int)) (lv := [(0, .ref (L 0))]) (by decide +kernel) rfl (Nat.le_of_ble_eq_true rfl) rfl ?_
  intro p e s m below meth c F hO ls hl
  obtain ⟨hx, hb, hr, hts, hown, hlocks, hml, hK, hN⟩ := id F
  have hA : ∀ q, fr L q → fr L q := fun q h => h
  unfold fX8_usePass at hf
  refine lv_aload_n hx hb dX8_usePass_0 rfl (lv_at hl 0 rfl) ?_
  refine k_get (k := 0) (v := .ref (L (aG 0))) hx hb hts in_X8_usePass_X8 hown hK hO (by decide) rfl rfl (by decide) lk_X8_usePass_f12 rfl dX8_usePass_1 ?_
  refine lv_bipush (v := 20) hx hb dX8_usePass_4 (by decide) ?_
  replace hf := zi_some hf
  obtain ⟨r_2, X_1, hc_1, hf⟩ := hf
  refine k_ai (va_runVN (As := [.int 20]) (rest := []) ⟨hx, hb, hml, hown, hts⟩ (mX0_allows l D L ac hL _ 0 (by decide) 20 _ _ hc_1) ⟨va_cnB 1 hts gX8_usePass_X0_allows_n235 rfl rfl rfl (hN _ nx_method_X8_235) (hts _ lk_X8_usePass_iX0) (by decide +kernel) ⟨Nat.le_of_ble_eq_true rfl, Nat.le_of_ble_eq_true rfl⟩, hts _ lk_X8_usePass_mX0_allows, hts _ lk_X8_usePass_eX0_allows⟩ (k_pv (j := (aG 0)) hK hN hO (aG_lt (by decide)) (cn_G 0) rfl _) rfl rfl hl.1 rfl (lv_room (Nat.le_of_ble_eq_true rfl)) dX8_usePass_6 ⟨Nat.le_of_ble_eq_true rfl, Nat.le_of_ble_eq_true rfl⟩) hA hO (fun H_3 locs_3 hO_3 => ?_)
  clear hO
  refine lv_if_eq (tgt := 22) hx hb dX8_usePass_9 (by decide) (fun c_4 => ?_) (fun c_4 => ?_)
  · rw [if_pos c_4] at hf
    subst c_4
    refine lv_bipush (v := (-5)) hx hb dX8_usePass_22 (by decide) ?_
    obtain ⟨rfl, rfl⟩ := Prod.mk.inj (Option.some.inj hf)
    exact e_i hx hb hr hK hN hO_3 hlocks dX8_usePass_24
  · rw [if_neg c_4] at hf
    refine lv_aload_n hx hb dX8_usePass_12 rfl (lv_at hl 0 rfl) ?_
    refine k_get (k := 0) (v := .ref (L (aG 0))) hx hb hts in_X8_usePass_X8 hown hK hO_3 (by decide) rfl rfl (by decide) lk_X8_usePass_f12 rfl dX8_usePass_13 ?_
    replace hf := zi_some hf
    obtain ⟨r_6, X_5, hc_5, hf⟩ := hf
    refine k_ai (va_runVN (As := []) (rest := []) ⟨hx, hb, hml, hown, hts⟩ (mX0_usePass l D L ac hL _ 0 (by decide) _ _ hc_5) ⟨va_cnB 0 hts gX8_usePass_X0_usePass_n241 rfl rfl rfl (hN _ nx_method_X8_241) (hts _ lk_X8_usePass_iX0) (by decide +kernel) ⟨Nat.le_of_ble_eq_true rfl, Nat.le_of_ble_eq_true rfl⟩, hts _ lk_X8_usePass_mX0_usePass, hts _ lk_X8_usePass_eX0_usePass⟩ (k_pv (j := (aG 0)) hK hN hO_3 (aG_lt (by decide)) (cn_G 0) rfl _) rfl rfl hl.1 rfl (lv_room (Nat.le_of_ble_eq_true rfl)) dX8_usePass_16 ⟨Nat.le_of_ble_eq_true rfl, Nat.le_of_ble_eq_true rfl⟩) hA hO_3 (fun H_7 locs_7 hO_7 => ?_)
    clear hO_3
    refine lv_goto (tgt := 24) hx hb dX8_usePass_19 (by decide) ?_
    obtain ⟨rfl, rfl⟩ := Prod.mk.inj (Option.some.inj hf)
    exact e_i hx hb hr hK hN hO_7 hlocks dX8_usePass_24
theorem in_X8_playOn_X8 : ∀ w ∈ u_ws RX8 TX8 8, w ∈ wsX8_playOn := by decide +kernel
theorem lk_X8_playOn_eX0_isOver : Cond.selects RX0 yX0_isOver yX0_isOver ∈ wsX8_playOn := by decide +kernel
theorem lk_X8_playOn_eX0_make : Cond.selects RX0 yX0_make yX0_make ∈ wsX8_playOn := by decide +kernel
theorem lk_X8_playOn_eX7_bestMove : Cond.selects RX7 yX7_bestMove yX7_bestMove ∈ wsX8_playOn := by decide +kernel
theorem lk_X8_playOn_f12 : Cond.fieldLink RX8 12 "PoisonPiles" "now" "LPoisonPiles$Game;" ∈ wsX8_playOn := by decide +kernel
theorem lk_X8_playOn_f38 : Cond.fieldLink RX8 38 "PoisonPiles" "solver" "LPoisonPiles$Solver;" ∈ wsX8_playOn := by decide +kernel
theorem lk_X8_playOn_iX0 : Cond.initialized RX0 ∈ wsX8_playOn := by decide +kernel
theorem lk_X8_playOn_iX7 : Cond.initialized RX7 ∈ wsX8_playOn := by decide +kernel
theorem lk_X8_playOn_mX0_isOver : Cond.instanceMethod yX0_isOver ∈ wsX8_playOn := by decide +kernel
theorem lk_X8_playOn_mX0_make : Cond.instanceMethod yX0_make ∈ wsX8_playOn := by decide +kernel
theorem lk_X8_playOn_mX7_bestMove : Cond.instanceMethod yX7_bestMove ∈ wsX8_playOn := by decide +kernel
def fX8_playOn_29   : Nat → Int32 → Int32 → XM → Option (Int32 × XM)
  | 0, _, _, _ => none
  | n + 1, x1, x2, X => if x1 ≤ x2 then some (x2, X) else zi (fX0_isOver 0 X) (fun r_3 X_2 => if r_3 = 0 then zi (fX7_bestMove 0 X_2) (fun r_7 X_6 => zv (fX0_make 0 r_7 X_6) (fun X_9 => fX8_playOn_29 n x1 (x2 + 1) X_9)) else some (x2, X_2))
set_option maxHeartbeats 4000000 in
set_option maxRecDepth 100000 in
theorem wX8_playOn_29 {p : Program} {l : Launch} {e : Env} {s : State} {m : MethodId} {args : Array Value} {below : List Frame} {meth : Method} {c : Code} {D : va_G} {L : Nat → Nat} {ac : Nat → ClassId} {r0 : Int32} {X0 : XM} (hL : LL L) (F : Fx p s m args meth c cX8_playOn 3 (some .int) wsX8_playOn yX8_playOn.cls D ac) : ∀ (n : Nat) (x1 : Int32) (x2 : Int32) (X : XM) (H : Heap) (locs : List Loc) (ls : Array Slot), Oh D L ac X (fr L) s.heap H locs → lv_has ls 3 [(0, .ref (L 0)), (1, .int x1), (2, .int x2)] → fX8_playOn_29 n x1 x2 X = some (r0, X0) → W p l e (headSpec wsX8_playOn ({ frames := 65, cells := 0, slots := 0, locals := 1983 })).room s m args below meth c H locs 0 0 (MQ below (va_Qi (fun (r : Int32) (Y : XM) => r = r0 ∧ Y = X0) (fun (Y : XM) t => St D L ac Y t) (fr L)) args s 0 0 (fr L)) (F0 m 29 ls []) := by
  obtain ⟨hx, hb, hr, hts, hown, hlocks, hml, hK, hN⟩ := id F
  have hA : ∀ q, fr L q → fr L q := fun q h => h
  intro n
  induction n with
  | zero => intro x1 x2 X H locs ls hO hl hf; simp [fX8_playOn_29] at hf
  | succ n ih =>
    intro x1 x2 X H locs ls hO hl hf
    rw [fX8_playOn_29] at hf
    refine lv_iload_n hx hb dX8_playOn_29 rfl (lv_at hl 2 rfl) ?_
    refine lv_iload_n hx hb dX8_playOn_30 rfl (lv_at hl 1 rfl) ?_
    refine lv_icmp_ge (tgt := 68) hx hb dX8_playOn_31 (by decide) (fun c_1 => ?_) (fun c_1 => ?_)
    · rw [if_pos c_1] at hf
      refine lv_iload_n hx hb dX8_playOn_68 rfl (lv_at hl 2 rfl) ?_
      obtain ⟨rfl, rfl⟩ := Prod.mk.inj (Option.some.inj hf)
      exact e_i hx hb hr hK hN hO hlocks dX8_playOn_69
    · rw [if_neg c_1] at hf
      refine lv_aload_n hx hb dX8_playOn_34 rfl (lv_at hl 0 rfl) ?_
      refine k_get (k := 0) (v := .ref (L (aG 0))) hx hb hts in_X8_playOn_X8 hown hK hO (by decide) rfl rfl (by decide) lk_X8_playOn_f12 rfl dX8_playOn_35 ?_
      replace hf := zi_some hf
      obtain ⟨r_3, X_2, hc_2, hf⟩ := hf
      refine k_ai (va_runVN (As := []) (rest := []) ⟨hx, hb, hml, hown, hts⟩ (mX0_isOver l D L ac hL _ 0 (by decide) _ _ hc_2) ⟨va_cnB 0 hts gX8_playOn_X0_isOver_n143 rfl rfl rfl (hN _ nx_method_X8_143) (hts _ lk_X8_playOn_iX0) (by decide +kernel) ⟨Nat.le_of_ble_eq_true rfl, Nat.le_of_ble_eq_true rfl⟩, hts _ lk_X8_playOn_mX0_isOver, hts _ lk_X8_playOn_eX0_isOver⟩ (k_pv (j := (aG 0)) hK hN hO (aG_lt (by decide)) (cn_G 0) rfl _) rfl rfl hl.1 rfl (lv_room (Nat.le_of_ble_eq_true rfl)) dX8_playOn_38 ⟨Nat.le_of_ble_eq_true rfl, Nat.le_of_ble_eq_true rfl⟩) hA hO (fun H_4 locs_4 hO_4 => ?_)
      clear hO
      refine lv_if_ne (tgt := 68) hx hb dX8_playOn_41 (by decide) (fun c_5 => ?_) (fun c_5 => ?_)
      · rw [if_neg c_5] at hf
        refine lv_iload_n hx hb dX8_playOn_68 rfl (lv_at hl 2 rfl) ?_
        obtain ⟨rfl, rfl⟩ := Prod.mk.inj (Option.some.inj hf)
        exact e_i hx hb hr hK hN hO_4 hlocks dX8_playOn_69
      · rw [if_pos c_5] at hf
        subst c_5
        refine lv_aload_n hx hb dX8_playOn_44 rfl (lv_at hl 0 rfl) ?_
        refine k_get (k := 0) (v := .ref (L (aG 0))) hx hb hts in_X8_playOn_X8 hown hK hO_4 (by decide) rfl rfl (by decide) lk_X8_playOn_f12 rfl dX8_playOn_45 ?_
        refine lv_aload_n hx hb dX8_playOn_48 rfl (lv_at hl 0 rfl) ?_
        refine k_get (k := 5) (v := .ref (L 6)) hx hb hts in_X8_playOn_X8 hown hK hO_4 (by decide) rfl rfl (by decide) lk_X8_playOn_f38 rfl dX8_playOn_49 ?_
        refine lv_aload_n hx hb dX8_playOn_52 rfl (lv_at hl 0 rfl) ?_
        refine k_get (k := 0) (v := .ref (L (aG 0))) hx hb hts in_X8_playOn_X8 hown hK hO_4 (by decide) rfl rfl (by decide) lk_X8_playOn_f12 rfl dX8_playOn_53 ?_
        replace hf := zi_some hf
        obtain ⟨r_7, X_6, hc_6, hf⟩ := hf
        refine k_ai (va_runVN (As := [.ref (L (aG 0))]) (rest := [.ref (L (aG 0))]) ⟨hx, hb, hml, hown, hts⟩ (mX7_bestMove l D L ac hL _ 0 (by decide) _ _ hc_6) ⟨va_cnB 1 hts gX8_playOn_X7_bestMove_n179 rfl rfl rfl (hN _ nx_method_X8_179) (hts _ lk_X8_playOn_iX7) (by decide +kernel) ⟨Nat.le_of_ble_eq_true rfl, Nat.le_of_ble_eq_true rfl⟩, hts _ lk_X8_playOn_mX7_bestMove, hts _ lk_X8_playOn_eX7_bestMove⟩ (k_pv (j := 6) hK hN hO_4 (by decide) rfl rfl _) rfl rfl hl.1 rfl (lv_room (Nat.le_of_ble_eq_true rfl)) dX8_playOn_56 ⟨Nat.le_of_ble_eq_true rfl, Nat.le_of_ble_eq_true rfl⟩) hA hO_4 (fun H_8 locs_8 hO_8 => ?_)
        clear hO_4
        replace hf := zv_some hf
        obtain ⟨X_9, hc_9, hf⟩ := hf
        refine k_av (va_runVN (As := [.int r_7]) (rest := []) ⟨hx, hb, hml, hown, hts⟩ (mX0_make l D L ac hL _ 0 (by decide) r_7 _ hc_9) ⟨va_cnB 1 hts gX8_playOn_X0_make_n242 rfl rfl rfl (hN _ nx_method_X8_242) (hts _ lk_X8_playOn_iX0) (by decide +kernel) ⟨Nat.le_of_ble_eq_true rfl, Nat.le_of_ble_eq_true rfl⟩, hts _ lk_X8_playOn_mX0_make, hts _ lk_X8_playOn_eX0_make⟩ (k_pv (j := (aG 0)) hK hN hO_8 (aG_lt (by decide)) (cn_G 0) rfl _) rfl rfl hl.1 rfl (lv_room (Nat.le_of_ble_eq_true rfl)) dX8_playOn_59 ⟨Nat.le_of_ble_eq_true rfl, Nat.le_of_ble_eq_true rfl⟩) hA hO_8 (fun H_10 locs_10 hO_10 => ?_)
        clear hO_8
        refine lv_iinc (v := x2 + 1) (lv' := [(2, .int (x2 + 1)), (0, .ref (L 0)), (1, .int x1)]) hx hb dX8_playOn_62 hl (k := 2) rfl rfl (by decide) rfl (fun ls_11 hl_11 => ?_)
        clear hl
        refine lv_goto (tgt := 29) hx hb dX8_playOn_65 (by decide) ?_
        exact ih _ _ _  _ _ _ hO_10 (lv_sub hl_11 [1, 2, 0] rfl) hf
def fX8_playOn  (a1 : Int32) (X : XM) : Option (Int32 × XM) := if a1 < 1 then some ((-2), X) else if a1 ≤ 40 then zi (fX0_isOver 0 X) (fun r_15 X_14 => if r_15 = 0 then fX8_playOn_29 fuel a1 0 X_14 else some ((-5), X_14)) else some ((-2), X)
set_option maxHeartbeats 4000000 in
set_option maxRecDepth 100000 in
theorem mX8_playOn (l : Launch) (D : va_G) (L : Nat → Nat) (ac : Nat → ClassId) (hL : LL L) (X : XM) (a1 : Int32) (r0 : Int32) (X0 : XM) (hf : fX8_playOn a1 X = some (r0, X0)) : Ci l yX8_playOn wsX8_playOn ({ frames := 65, cells := 0, slots := 0, locals := 1983 }) D L ac X [.ref (L 0), .int a1] r0 X0 := by
  refine Met.ofK (cc := cX8_playOn) (maxL := 3) (ret := (some .int)) (lv := [(0, .ref (L 0)), (1, .int a1)]) (by decide +kernel) rfl (Nat.le_of_ble_eq_true rfl) rfl ?_
  intro p e s m below meth c F hO ls hl
  obtain ⟨hx, hb, hr, hts, hown, hlocks, hml, hK, hN⟩ := id F
  have hA : ∀ q, fr L q → fr L q := fun q h => h
  unfold fX8_playOn at hf
  refine lv_iload_n hx hb dX8_playOn_0 rfl (lv_at hl 1 rfl) ?_
  refine lv_iconst (v := 1) hx hb dX8_playOn_1 (by decide) ?_
  refine lv_icmp_lt (tgt := 11) hx hb dX8_playOn_2 (by decide) (fun c_12 => ?_) (fun c_12 => ?_)
  · rw [if_pos c_12] at hf
    refine lv_bipush (v := (-2)) hx hb dX8_playOn_11 (by decide) ?_
    obtain ⟨rfl, rfl⟩ := Prod.mk.inj (Option.some.inj hf)
    exact e_i hx hb hr hK hN hO hlocks dX8_playOn_13
  · rw [if_neg c_12] at hf
    refine lv_iload_n hx hb dX8_playOn_5 rfl (lv_at hl 1 rfl) ?_
    refine lv_bipush (v := 40) hx hb dX8_playOn_6 (by decide) ?_
    refine lv_icmp_le (tgt := 14) hx hb dX8_playOn_8 (by decide) (fun c_13 => ?_) (fun c_13 => ?_)
    · rw [if_pos c_13] at hf
      refine lv_aload_n hx hb dX8_playOn_14 rfl (lv_at hl 0 rfl) ?_
      refine k_get (k := 0) (v := .ref (L (aG 0))) hx hb hts in_X8_playOn_X8 hown hK hO (by decide) rfl rfl (by decide) lk_X8_playOn_f12 rfl dX8_playOn_15 ?_
      replace hf := zi_some hf
      obtain ⟨r_15, X_14, hc_14, hf⟩ := hf
      refine k_ai (va_runVN (As := []) (rest := []) ⟨hx, hb, hml, hown, hts⟩ (mX0_isOver l D L ac hL _ 0 (by decide) _ _ hc_14) ⟨va_cnB 0 hts gX8_playOn_X0_isOver_n143 rfl rfl rfl (hN _ nx_method_X8_143) (hts _ lk_X8_playOn_iX0) (by decide +kernel) ⟨Nat.le_of_ble_eq_true rfl, Nat.le_of_ble_eq_true rfl⟩, hts _ lk_X8_playOn_mX0_isOver, hts _ lk_X8_playOn_eX0_isOver⟩ (k_pv (j := (aG 0)) hK hN hO (aG_lt (by decide)) (cn_G 0) rfl _) rfl rfl hl.1 rfl (lv_room (Nat.le_of_ble_eq_true rfl)) dX8_playOn_18 ⟨Nat.le_of_ble_eq_true rfl, Nat.le_of_ble_eq_true rfl⟩) hA hO (fun H_16 locs_16 hO_16 => ?_)
      clear hO
      refine lv_if_eq (tgt := 27) hx hb dX8_playOn_21 (by decide) (fun c_17 => ?_) (fun c_17 => ?_)
      · rw [if_pos c_17] at hf
        subst c_17
        refine lv_iconst (v := 0) hx hb dX8_playOn_27 (by decide) ?_
        refine lv_istore_n (lv' := [(2, .int 0), (0, .ref (L 0)), (1, .int a1)]) hx hb dX8_playOn_28 rfl hl (by decide) rfl (fun ls_18 hl_18 => ?_)
        clear hl
        exact wX8_playOn_29 hL F  fuel _ _ _  _ _ _ hO_16 (lv_sub hl_18 [1, 2, 0] rfl) hf
      · rw [if_neg c_17] at hf
        refine lv_bipush (v := (-5)) hx hb dX8_playOn_24 (by decide) ?_
        obtain ⟨rfl, rfl⟩ := Prod.mk.inj (Option.some.inj hf)
        exact e_i hx hb hr hK hN hO_16 hlocks dX8_playOn_26
    · rw [if_neg c_13] at hf
      refine lv_bipush (v := (-2)) hx hb dX8_playOn_11 (by decide) ?_
      obtain ⟨rfl, rfl⟩ := Prod.mk.inj (Option.some.inj hf)
      exact e_i hx hb hr hK hN hO hlocks dX8_playOn_13
