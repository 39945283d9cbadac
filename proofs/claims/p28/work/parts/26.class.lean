theorem nx_field_X8_100 : Cond.fieldLinkNest "PoisonPiles" 100 "PoisonPiles$Pile" "tokens" "I" "PoisonPiles" ∈ nxW := List.mem_of_getElem? (i := 10) rfl
theorem nx_field_X8_106 : Cond.fieldLinkNest "PoisonPiles" 106 "PoisonPiles$Pile" "worth" "I" "PoisonPiles" ∈ nxW := List.mem_of_getElem? (i := 14) rfl
theorem nx_field_X8_109 : Cond.fieldLinkNest "PoisonPiles" 109 "PoisonPiles$Pile" "poisoned" "Z" "PoisonPiles" ∈ nxW := List.mem_of_getElem? (i := 17) rfl
theorem nx_field_X8_113 : Cond.fieldLinkNest "PoisonPiles" 113 "PoisonPiles$Pile" "came" "I" "PoisonPiles" ∈ nxW := List.mem_of_getElem? (i := 12) rfl
theorem nx_field_X8_126 : Cond.fieldLinkNest "PoisonPiles" 126 "PoisonPiles$Player" "gains" "I" "PoisonPiles" ∈ nxW := List.mem_of_getElem? (i := 3) rfl
theorem nx_field_X8_140 : Cond.fieldLinkNest "PoisonPiles" 140 "PoisonPiles$Game" "mover" "I" "PoisonPiles" ∈ nxW := List.mem_of_getElem? (i := 29) rfl
theorem nx_field_X8_150 : Cond.fieldLinkNest "PoisonPiles" 150 "PoisonPiles$Game" "moveCount" "I" "PoisonPiles" ∈ nxW := List.mem_of_getElem? (i := 30) rfl
theorem nx_field_X8_153 : Cond.fieldLinkNest "PoisonPiles" 153 "PoisonPiles$Game" "passAhead" "Z" "PoisonPiles" ∈ nxW := List.mem_of_getElem? (i := 32) rfl
theorem nx_field_X8_159 : Cond.fieldLinkNest "PoisonPiles" 159 "PoisonPiles$Pad" "length" "I" "PoisonPiles" ∈ nxW := List.mem_of_getElem? (i := 39) rfl
theorem nx_field_X8_162 : Cond.fieldLinkNest "PoisonPiles" 162 "PoisonPiles$History" "size" "I" "PoisonPiles" ∈ nxW := List.mem_of_getElem? (i := 35) rfl
theorem nx_field_X8_212 : Cond.fieldLinkNest "PoisonPiles" 212 "PoisonPiles$Slot" "game" "LPoisonPiles$Game;" "PoisonPiles" ∈ nxW := List.mem_of_getElem? (i := 42) rfl
theorem nx_field_X8_215 : Cond.fieldLinkNest "PoisonPiles" 215 "PoisonPiles$Slot" "filled" "Z" "PoisonPiles" ∈ nxW := List.mem_of_getElem? (i := 43) rfl
theorem nx_method_X8_57 : Cond.methodLinkNest "PoisonPiles" 57 ⟨"PoisonPiles$Game", "copyFrom", "(LPoisonPiles$Game;)V"⟩ "PoisonPiles" ∈ nxW := List.mem_of_getElem? (i := 52) rfl
theorem nx_method_X8_76 : Cond.methodLinkNest "PoisonPiles" 76 ⟨"PoisonPiles$Game", "restart", "()V"⟩ "PoisonPiles" ∈ nxW := List.mem_of_getElem? (i := 61) rfl
theorem nx_method_X8_79 : Cond.methodLinkNest "PoisonPiles" 79 ⟨"PoisonPiles$Game", "tokenSum", "()I"⟩ "PoisonPiles" ∈ nxW := List.mem_of_getElem? (i := 44) rfl
theorem nx_method_X8_119 : Cond.methodLinkNest "PoisonPiles" 119 ⟨"PoisonPiles$Sizes", "nimber", "(II)I"⟩ "PoisonPiles" ∈ nxW := List.mem_of_getElem? (i := 55) rfl
theorem nx_method_X8_122 : Cond.methodLinkNest "PoisonPiles" 122 ⟨"PoisonPiles$Game", "player", "(I)LPoisonPiles$Player;"⟩ "PoisonPiles" ∈ nxW := List.mem_of_getElem? (i := 57) rfl
theorem nx_method_X8_134 : Cond.methodLinkNest "PoisonPiles" 134 ⟨"PoisonPiles$Game", "purse", "(I)I"⟩ "PoisonPiles" ∈ nxW := List.mem_of_getElem? (i := 58) rfl
theorem nx_method_X8_147 : Cond.methodLinkNest "PoisonPiles" 147 ⟨"PoisonPiles$Game", "winner", "()I"⟩ "PoisonPiles" ∈ nxW := List.mem_of_getElem? (i := 47) rfl
theorem nx_method_X8_165 : Cond.methodLinkNest "PoisonPiles" 165 ⟨"PoisonPiles$Game", "moveSet", "()I"⟩ "PoisonPiles" ∈ nxW := List.mem_of_getElem? (i := 59) rfl
theorem nx_method_X8_168 : Cond.methodLinkNest "PoisonPiles" 168 ⟨"PoisonPiles$Solver", "isWon", "(LPoisonPiles$Game;)Z"⟩ "PoisonPiles" ∈ nxW := List.mem_of_getElem? (i := 73) rfl
theorem nx_method_X8_172 : Cond.methodLinkNest "PoisonPiles" 172 ⟨"PoisonPiles$Solver", "winningMoves", "(LPoisonPiles$Game;)I"⟩ "PoisonPiles" ∈ nxW := List.mem_of_getElem? (i := 74) rfl
theorem nx_method_X8_176 : Cond.methodLinkNest "PoisonPiles" 176 ⟨"PoisonPiles$Solver", "difference", "(LPoisonPiles$Game;)I"⟩ "PoisonPiles" ∈ nxW := List.mem_of_getElem? (i := 72) rfl
theorem nx_method_X8_209 : Cond.methodLinkNest "PoisonPiles" 209 ⟨"PoisonPiles$History", "takeBack", "(LPoisonPiles$Game;)Z"⟩ "PoisonPiles" ∈ nxW := List.mem_of_getElem? (i := 48) rfl
theorem in_X8_set_X8 : ∀ w ∈ u_ws RX8 TX8 8, w ∈ wsX8_set := by decide +kernel
theorem lk_X8_set_eX0_copyFrom : Cond.selects RX0 yX0_copyFrom yX0_copyFrom ∈ wsX8_set := by decide +kernel
theorem lk_X8_set_f12 : Cond.fieldLink RX8 12 "PoisonPiles" "now" "LPoisonPiles$Game;" ∈ wsX8_set := by decide +kernel
theorem lk_X8_set_f16 : Cond.fieldLink RX8 16 "PoisonPiles" "before" "LPoisonPiles$Game;" ∈ wsX8_set := by decide +kernel
theorem lk_X8_set_iX0 : Cond.initialized RX0 ∈ wsX8_set := by decide +kernel
theorem lk_X8_set_mX0_copyFrom : Cond.instanceMethod yX0_copyFrom ∈ wsX8_set := by decide +kernel
def fX8_set  (a1 : Int32) (a2 : Int32) (X : XM) : Option (Int32 × XM) := zv (fX0_copyFrom 1 0 X) (fun X_1 => zi (fX8_changeSetting a1 a2 X_1) (fun r_4 X_3 => zi (fX8_recorded r_4 X_3) (fun r_7 X_6 => some (r_7, X_6))))
set_option maxHeartbeats 4000000 in
set_option maxRecDepth 100000 in
theorem mX8_set (l : Launch) (D : va_G) (L : Nat → Nat) (ac : Nat → ClassId) (hL : LL L) (X : XM) (a1 : Int32) (a2 : Int32) (r0 : Int32) (X0 : XM) (hf : fX8_set a1 a2 X = some (r0, X0)) : Ci l yX8_set wsX8_set ({ frames := 4, cells := 0, slots := 0, locals := 85 }) D L ac X [.ref (L 0), .int a1, .int a2] r0 X0 := by
  refine Met.ofK (cc := cX8_set) (maxL := 3) (ret := (some .int)) (lv := [(0, .ref (L 0)), (1, .int a1), (2, .int a2)]) (by decide +kernel) rfl (Nat.le_of_ble_eq_true rfl) rfl ?_
  intro p e s m below meth c F hO ls hl
  obtain ⟨hx, hb, hr, hts, hown, hlocks, hml, hK, hN⟩ := id F
  have hA : ∀ q, fr L q → fr L q := fun q h => h
  unfold fX8_set at hf
  refine lv_aload_n hx hb dX8_set_0 rfl (lv_at hl 0 rfl) ?_
  refine k_get (k := 1) (v := .ref (L (aG 1))) hx hb hts in_X8_set_X8 hown hK hO (by decide) rfl rfl (by decide) lk_X8_set_f16 rfl dX8_set_1 ?_
  refine lv_aload_n hx hb dX8_set_4 rfl (lv_at hl 0 rfl) ?_
  refine k_get (k := 0) (v := .ref (L (aG 0))) hx hb hts in_X8_set_X8 hown hK hO (by decide) rfl rfl (by decide) lk_X8_set_f12 rfl dX8_set_5 ?_
  replace hf := zv_some hf
  obtain ⟨X_1, hc_1, hf⟩ := hf
  refine k_av (va_runVN (As := [.ref (L (aG 0))]) (rest := []) ⟨hx, hb, hml, hown, hts⟩ (mX0_copyFrom l D L ac hL _ 1 (by decide) 0 (by decide) _ hc_1) ⟨va_cnB 1 hts gX8_set_X0_copyFrom_n57 rfl rfl rfl (hN _ nx_method_X8_57) (hts _ lk_X8_set_iX0) (by decide +kernel) ⟨Nat.le_of_ble_eq_true rfl, Nat.le_of_ble_eq_true rfl⟩, hts _ lk_X8_set_mX0_copyFrom, hts _ lk_X8_set_eX0_copyFrom⟩ (k_pv (j := (aG 1)) hK hN hO (aG_lt (by decide)) (cn_G 1) rfl _) rfl rfl hl.1 rfl (lv_room (Nat.le_of_ble_eq_true rfl)) dX8_set_8 ⟨Nat.le_of_ble_eq_true rfl, Nat.le_of_ble_eq_true rfl⟩) hA hO (fun H_2 locs_2 hO_2 => ?_)
  clear hO
  refine lv_aload_n hx hb dX8_set_11 rfl (lv_at hl 0 rfl) ?_
  refine lv_aload_n hx hb dX8_set_12 rfl (lv_at hl 0 rfl) ?_
  refine lv_iload_n hx hb dX8_set_13 rfl (lv_at hl 1 rfl) ?_
  refine lv_iload_n hx hb dX8_set_14 rfl (lv_at hl 2 rfl) ?_
  replace hf := zi_some hf
  obtain ⟨r_4, X_3, hc_3, hf⟩ := hf
  refine k_ai (va_runV (As := [.int a1, .int a2]) (rest := [.ref (L 0)]) ⟨hx, hb, hml, hown, hts⟩ (mX8_changeSetting l D L ac hL _ a1 a2 _ _ hc_3) (cwV 2 hts gX8_set_X8_changeSetting rfl rfl rfl (by decide +kernel) ⟨Nat.le_of_ble_eq_true rfl, Nat.le_of_ble_eq_true rfl⟩) (k_pv (j := 0) hK hN hO_2 (by decide) rfl rfl _) rfl rfl hl.1 rfl (lv_room (Nat.le_of_ble_eq_true rfl)) dX8_set_15 ⟨Nat.le_of_ble_eq_true rfl, Nat.le_of_ble_eq_true rfl⟩) hA hO_2 (fun H_5 locs_5 hO_5 => ?_)
  clear hO_2
  replace hf := zi_some hf
  obtain ⟨r_7, X_6, hc_6, hf⟩ := hf
  refine k_ai (va_runV (As := [.int r_4]) (rest := []) ⟨hx, hb, hml, hown, hts⟩ (mX8_recorded l D L ac hL _ r_4 _ _ hc_6) (cwV 1 hts gX8_set_X8_recorded rfl rfl rfl (by decide +kernel) ⟨Nat.le_of_ble_eq_true rfl, Nat.le_of_ble_eq_true rfl⟩) (k_pv (j := 0) hK hN hO_5 (by decide) rfl rfl _) rfl rfl hl.1 rfl (lv_room (Nat.le_of_ble_eq_true rfl)) dX8_set_18 ⟨Nat.le_of_ble_eq_true rfl, Nat.le_of_ble_eq_true rfl⟩) hA hO_5 (fun H_8 locs_8 hO_8 => ?_)
  clear hO_5
  obtain ⟨rfl, rfl⟩ := Prod.mk.inj (Option.some.inj hf)
  exact e_i hx hb hr hK hN hO_8 hlocks dX8_set_21
theorem in_X8_pile_X8 : ∀ w ∈ u_ws RX8 TX8 8, w ∈ wsX8_pile := by decide +kernel
theorem lk_X8_pile_eX0_copyFrom : Cond.selects RX0 yX0_copyFrom yX0_copyFrom ∈ wsX8_pile := by decide +kernel
theorem lk_X8_pile_f12 : Cond.fieldLink RX8 12 "PoisonPiles" "now" "LPoisonPiles$Game;" ∈ wsX8_pile := by decide +kernel
theorem lk_X8_pile_f16 : Cond.fieldLink RX8 16 "PoisonPiles" "before" "LPoisonPiles$Game;" ∈ wsX8_pile := by decide +kernel
theorem lk_X8_pile_iX0 : Cond.initialized RX0 ∈ wsX8_pile := by decide +kernel
theorem lk_X8_pile_mX0_copyFrom : Cond.instanceMethod yX0_copyFrom ∈ wsX8_pile := by decide +kernel
def fX8_pile  (a1 : Int32) (a2 : Int32) (a3 : Int32) (X : XM) : Option (Int32 × XM) := zv (fX0_copyFrom 1 0 X) (fun X_1 => zi (fX8_addPile a1 a2 a3 X_1) (fun r_4 X_3 => zi (fX8_recorded r_4 X_3) (fun r_7 X_6 => some (r_7, X_6))))
set_option maxHeartbeats 4000000 in
set_option maxRecDepth 100000 in
theorem mX8_pile (l : Launch) (D : va_G) (L : Nat → Nat) (ac : Nat → ClassId) (hL : LL L) (X : XM) (a1 : Int32) (a2 : Int32) (a3 : Int32) (r0 : Int32) (X0 : XM) (hf : fX8_pile a1 a2 a3 X = some (r0, X0)) : Ci l yX8_pile wsX8_pile ({ frames := 4, cells := 0, slots := 0, locals := 85 }) D L ac X [.ref (L 0), .int a1, .int a2, .int a3] r0 X0 := by
  refine Met.ofK (cc := cX8_pile) (maxL := 4) (ret := (some .int)) (lv := [(0, .ref (L 0)), (1, .int a1), (2, .int a2), (3, .int a3)]) (by decide +kernel) rfl (Nat.le_of_ble_eq_true rfl) rfl ?_
  intro p e s m below meth c F hO ls hl
  obtain ⟨hx, hb, hr, hts, hown, hlocks, hml, hK, hN⟩ := id F
  have hA : ∀ q, fr L q → fr L q := fun q h => h
  unfold fX8_pile at hf
  refine lv_aload_n hx hb dX8_pile_0 rfl (lv_at hl 0 rfl) ?_
  refine k_get (k := 1) (v := .ref (L (aG 1))) hx hb hts in_X8_pile_X8 hown hK hO (by decide) rfl rfl (by decide) lk_X8_pile_f16 rfl dX8_pile_1 ?_
  refine lv_aload_n hx hb dX8_pile_4 rfl (lv_at hl 0 rfl) ?_
  refine k_get (k := 0) (v := .ref (L (aG 0))) hx hb hts in_X8_pile_X8 hown hK hO (by decide) rfl rfl (by decide) lk_X8_pile_f12 rfl dX8_pile_5 ?_
  replace hf := zv_some hf
  obtain ⟨X_1, hc_1, hf⟩ := hf
  refine k_av (va_runVN (As := [.ref (L (aG 0))]) (rest := []) ⟨hx, hb, hml, hown, hts⟩ (mX0_copyFrom l D L ac hL _ 1 (by decide) 0 (by decide) _ hc_1) ⟨va_cnB 1 hts gX8_pile_X0_copyFrom_n57 rfl rfl rfl (hN _ nx_method_X8_57) (hts _ lk_X8_pile_iX0) (by decide +kernel) ⟨Nat.le_of_ble_eq_true rfl, Nat.le_of_ble_eq_true rfl⟩, hts _ lk_X8_pile_mX0_copyFrom, hts _ lk_X8_pile_eX0_copyFrom⟩ (k_pv (j := (aG 1)) hK hN hO (aG_lt (by decide)) (cn_G 1) rfl _) rfl rfl hl.1 rfl (lv_room (Nat.le_of_ble_eq_true rfl)) dX8_pile_8 ⟨Nat.le_of_ble_eq_true rfl, Nat.le_of_ble_eq_true rfl⟩) hA hO (fun H_2 locs_2 hO_2 => ?_)
  clear hO
  refine lv_aload_n hx hb dX8_pile_11 rfl (lv_at hl 0 rfl) ?_
  refine lv_aload_n hx hb dX8_pile_12 rfl (lv_at hl 0 rfl) ?_
  refine lv_iload_n hx hb dX8_pile_13 rfl (lv_at hl 1 rfl) ?_
  refine lv_iload_n hx hb dX8_pile_14 rfl (lv_at hl 2 rfl) ?_
  refine lv_iload_n hx hb dX8_pile_15 rfl (lv_at hl 3 rfl) ?_
  replace hf := zi_some hf
  obtain ⟨r_4, X_3, hc_3, hf⟩ := hf
  refine k_ai (va_runV (As := [.int a1, .int a2, .int a3]) (rest := [.ref (L 0)]) ⟨hx, hb, hml, hown, hts⟩ (mX8_addPile l D L ac hL _ a1 a2 a3 _ _ hc_3) (cwV 3 hts gX8_pile_X8_addPile rfl rfl rfl (by decide +kernel) ⟨Nat.le_of_ble_eq_true rfl, Nat.le_of_ble_eq_true rfl⟩) (k_pv (j := 0) hK hN hO_2 (by decide) rfl rfl _) rfl rfl hl.1 rfl (lv_room (Nat.le_of_ble_eq_true rfl)) dX8_pile_16 ⟨Nat.le_of_ble_eq_true rfl, Nat.le_of_ble_eq_true rfl⟩) hA hO_2 (fun H_5 locs_5 hO_5 => ?_)
  clear hO_2
  replace hf := zi_some hf
  obtain ⟨r_7, X_6, hc_6, hf⟩ := hf
  refine k_ai (va_runV (As := [.int r_4]) (rest := []) ⟨hx, hb, hml, hown, hts⟩ (mX8_recorded l D L ac hL _ r_4 _ _ hc_6) (cwV 1 hts gX8_pile_X8_recorded rfl rfl rfl (by decide +kernel) ⟨Nat.le_of_ble_eq_true rfl, Nat.le_of_ble_eq_true rfl⟩) (k_pv (j := 0) hK hN hO_5 (by decide) rfl rfl _) rfl rfl hl.1 rfl (lv_room (Nat.le_of_ble_eq_true rfl)) dX8_pile_19 ⟨Nat.le_of_ble_eq_true rfl, Nat.le_of_ble_eq_true rfl⟩) hA hO_5 (fun H_8 locs_8 hO_8 => ?_)
  clear hO_5
  obtain ⟨rfl, rfl⟩ := Prod.mk.inj (Option.some.inj hf)
  exact e_i hx hb hr hK hN hO_8 hlocks dX8_pile_22
theorem in_X8_passes_X8 : ∀ w ∈ u_ws RX8 TX8 8, w ∈ wsX8_passes := by decide +kernel
theorem lk_X8_passes_eX0_copyFrom : Cond.selects RX0 yX0_copyFrom yX0_copyFrom ∈ wsX8_passes := by decide +kernel
theorem lk_X8_passes_f12 : Cond.fieldLink RX8 12 "PoisonPiles" "now" "LPoisonPiles$Game;" ∈ wsX8_passes := by decide +kernel
theorem lk_X8_passes_f16 : Cond.fieldLink RX8 16 "PoisonPiles" "before" "LPoisonPiles$Game;" ∈ wsX8_passes := by decide +kernel
theorem lk_X8_passes_iX0 : Cond.initialized RX0 ∈ wsX8_passes := by decide +kernel
theorem lk_X8_passes_mX0_copyFrom : Cond.instanceMethod yX0_copyFrom ∈ wsX8_passes := by decide +kernel
def fX8_passes  (a1 : Int32) (a2 : Int32) (X : XM) : Option (Int32 × XM) := zv (fX0_copyFrom 1 0 X) (fun X_1 => zi (fX8_givePasses a1 a2 X_1) (fun r_4 X_3 => zi (fX8_recorded r_4 X_3) (fun r_7 X_6 => some (r_7, X_6))))
set_option maxHeartbeats 4000000 in
set_option maxRecDepth 100000 in
theorem mX8_passes (l : Launch) (D : va_G) (L : Nat → Nat) (ac : Nat → ClassId) (hL : LL L) (X : XM) (a1 : Int32) (a2 : Int32) (r0 : Int32) (X0 : XM) (hf : fX8_passes a1 a2 X = some (r0, X0)) : Ci l yX8_passes wsX8_passes ({ frames := 4, cells := 0, slots := 0, locals := 85 }) D L ac X [.ref (L 0), .int a1, .int a2] r0 X0 := by
  refine Met.ofK (cc := cX8_passes) (maxL := 3) (ret := (some .int)) (lv := [(0, .ref (L 0)), (1, .int a1), (2, .int a2)]) (by decide +kernel) rfl (Nat.le_of_ble_eq_true rfl) rfl ?_
  intro p e s m below meth c F hO ls hl
  obtain ⟨hx, hb, hr, hts, hown, hlocks, hml, hK, hN⟩ := id F
  have hA : ∀ q, fr L q → fr L q := fun q h => h
  unfold fX8_passes at hf
  refine lv_aload_n hx hb dX8_passes_0 rfl (lv_at hl 0 rfl) ?_
  refine k_get (k := 1) (v := .ref (L (aG 1))) hx hb hts in_X8_passes_X8 hown hK hO (by decide) rfl rfl (by decide) lk_X8_passes_f16 rfl dX8_passes_1 ?_
  refine lv_aload_n hx hb dX8_passes_4 rfl (lv_at hl 0 rfl) ?_
  refine k_get (k := 0) (v := .ref (L (aG 0))) hx hb hts in_X8_passes_X8 hown hK hO (by decide) rfl rfl (by decide) lk_X8_passes_f12 rfl dX8_passes_5 ?_
  replace hf := zv_some hf
  obtain ⟨X_1, hc_1, hf⟩ := hf
  refine k_av (va_runVN (As := [.ref (L (aG 0))]) (rest := []) ⟨hx, hb, hml, hown, hts⟩ (mX0_copyFrom l D L ac hL _ 1 (by decide) 0 (by decide) _ hc_1) ⟨va_cnB 1 hts gX8_passes_X0_copyFrom_n57 rfl rfl rfl (hN _ nx_method_X8_57) (hts _ lk_X8_passes_iX0) (by decide +kernel) ⟨Nat.le_of_ble_eq_true rfl, Nat.le_of_ble_eq_true rfl⟩, hts _ lk_X8_passes_mX0_copyFrom, hts _ lk_X8_passes_eX0_copyFrom⟩ (k_pv (j := (aG 1)) hK hN hO (aG_lt (by decide)) (cn_G 1) rfl _) rfl rfl hl.1 rfl (lv_room (Nat.le_of_ble_eq_true rfl)) dX8_passes_8 ⟨Nat.le_of_ble_eq_true rfl, Nat.le_of_ble_eq_true rfl⟩) hA hO (fun H_2 locs_2 hO_2 => ?_)
  clear hO
  refine lv_aload_n hx hb dX8_passes_11 rfl (lv_at hl 0 rfl) ?_
  refine lv_aload_n hx hb dX8_passes_12 rfl (lv_at hl 0 rfl) ?_
  refine lv_iload_n hx hb dX8_passes_13 rfl (lv_at hl 1 rfl) ?_
  refine lv_iload_n hx hb dX8_passes_14 rfl (lv_at hl 2 rfl) ?_
  replace hf := zi_some hf
  obtain ⟨r_4, X_3, hc_3, hf⟩ := hf
  refine k_ai (va_runV (As := [.int a1, .int a2]) (rest := [.ref (L 0)]) ⟨hx, hb, hml, hown, hts⟩ (mX8_givePasses l D L ac hL _ a1 a2 _ _ hc_3) (cwV 2 hts gX8_passes_X8_givePasses rfl rfl rfl (by decide +kernel) ⟨Nat.le_of_ble_eq_true rfl, Nat.le_of_ble_eq_true rfl⟩) (k_pv (j := 0) hK hN hO_2 (by decide) rfl rfl _) rfl rfl hl.1 rfl (lv_room (Nat.le_of_ble_eq_true rfl)) dX8_passes_15 ⟨Nat.le_of_ble_eq_true rfl, Nat.le_of_ble_eq_true rfl⟩) hA hO_2 (fun H_5 locs_5 hO_5 => ?_)
  clear hO_2
  replace hf := zi_some hf
  obtain ⟨r_7, X_6, hc_6, hf⟩ := hf
  refine k_ai (va_runV (As := [.int r_4]) (rest := []) ⟨hx, hb, hml, hown, hts⟩ (mX8_recorded l D L ac hL _ r_4 _ _ hc_6) (cwV 1 hts gX8_passes_X8_recorded rfl rfl rfl (by decide +kernel) ⟨Nat.le_of_ble_eq_true rfl, Nat.le_of_ble_eq_true rfl⟩) (k_pv (j := 0) hK hN hO_5 (by decide) rfl rfl _) rfl rfl hl.1 rfl (lv_room (Nat.le_of_ble_eq_true rfl)) dX8_passes_18 ⟨Nat.le_of_ble_eq_true rfl, Nat.le_of_ble_eq_true rfl⟩) hA hO_5 (fun H_8 locs_8 hO_8 => ?_)
  clear hO_5
  obtain ⟨rfl, rfl⟩ := Prod.mk.inj (Option.some.inj hf)
  exact e_i hx hb hr hK hN hO_8 hlocks dX8_passes_21
theorem in_X8_begin_X8 : ∀ w ∈ u_ws RX8 TX8 8, w ∈ wsX8_begin := by decide +kernel
theorem lk_X8_begin_eX0_copyFrom : Cond.selects RX0 yX0_copyFrom yX0_copyFrom ∈ wsX8_begin := by decide +kernel
theorem lk_X8_begin_eX0_restart : Cond.selects RX0 yX0_restart yX0_restart ∈ wsX8_begin := by decide +kernel
theorem lk_X8_begin_eX0_tokenSum : Cond.selects RX0 yX0_tokenSum yX0_tokenSum ∈ wsX8_begin := by decide +kernel
theorem lk_X8_begin_f12 : Cond.fieldLink RX8 12 "PoisonPiles" "now" "LPoisonPiles$Game;" ∈ wsX8_begin := by decide +kernel
theorem lk_X8_begin_f16 : Cond.fieldLink RX8 16 "PoisonPiles" "before" "LPoisonPiles$Game;" ∈ wsX8_begin := by decide +kernel
theorem lk_X8_begin_iX0 : Cond.initialized RX0 ∈ wsX8_begin := by decide +kernel
theorem lk_X8_begin_mX0_copyFrom : Cond.instanceMethod yX0_copyFrom ∈ wsX8_begin := by decide +kernel
theorem lk_X8_begin_mX0_restart : Cond.instanceMethod yX0_restart ∈ wsX8_begin := by decide +kernel
theorem lk_X8_begin_mX0_tokenSum : Cond.instanceMethod yX0_tokenSum ∈ wsX8_begin := by decide +kernel
def fX8_begin   (X : XM) : Option (Int32 × XM) := zv (fX0_copyFrom 1 0 X) (fun X_1 => zv (fX0_restart 0 X_1) (fun X_3 => zi (fX0_tokenSum 0 X_3) (fun r_6 X_5 => zi (fX8_recorded r_6 X_5) (fun r_9 X_8 => some (r_9, X_8)))))
set_option maxHeartbeats 4000000 in
set_option maxRecDepth 100000 in
theorem mX8_begin (l : Launch) (D : va_G) (L : Nat → Nat) (ac : Nat → ClassId) (hL : LL L) (X : XM)  (r0 : Int32) (X0 : XM) (hf : fX8_begin  X = some (r0, X0)) : Ci l yX8_begin wsX8_begin ({ frames := 4, cells := 0, slots := 0, locals := 85 }) D L ac X [.ref (L 0)] r0 X0 := by
  refine Met.ofK (cc := cX8_begin) (maxL := 1) (ret := (some .int)) (lv := [(0, .ref (L 0))]) (by decide +kernel) rfl (Nat.le_of_ble_eq_true rfl) rfl ?_
  intro p e s m below meth c F hO ls hl
  obtain ⟨hx, hb, hr, hts, hown, hlocks, hml, hK, hN⟩ := id F
  have hA : ∀ q, fr L q → fr L q := fun q h => h
  unfold fX8_begin at hf
  refine lv_aload_n hx hb dX8_begin_0 rfl (lv_at hl 0 rfl) ?_
  refine k_get (k := 1) (v := .ref (L (aG 1))) hx hb hts in_X8_begin_X8 hown hK hO (by decide) rfl rfl (by decide) lk_X8_begin_f16 rfl dX8_begin_1 ?_
  refine lv_aload_n hx hb dX8_begin_4 rfl (lv_at hl 0 rfl) ?_
  refine k_get (k := 0) (v := .ref (L (aG 0))) hx hb hts in_X8_begin_X8 hown hK hO (by decide) rfl rfl (by decide) lk_X8_begin_f12 rfl dX8_begin_5 ?_
  replace hf := zv_some hf
  obtain ⟨X_1, hc_1, hf⟩ := hf
  refine k_av (va_runVN (As := [.ref (L (aG 0))]) (rest := []) ⟨hx, hb, hml, hown, hts⟩ (mX0_copyFrom l D L ac hL _ 1 (by decide) 0 (by decide) _ hc_1) ⟨va_cnB 1 hts gX8_begin_X0_copyFrom_n57 rfl rfl rfl (hN _ nx_method_X8_57) (hts _ lk_X8_begin_iX0) (by decide +kernel) ⟨Nat.le_of_ble_eq_true rfl, Nat.le_of_ble_eq_true rfl⟩, hts _ lk_X8_begin_mX0_copyFrom, hts _ lk_X8_begin_eX0_copyFrom⟩ (k_pv (j := (aG 1)) hK hN hO (aG_lt (by decide)) (cn_G 1) rfl _) rfl rfl hl.1 rfl (lv_room (Nat.le_of_ble_eq_true rfl)) dX8_begin_8 ⟨Nat.le_of_ble_eq_true rfl, Nat.le_of_ble_eq_true rfl⟩) hA hO (fun H_2 locs_2 hO_2 => ?_)
  clear hO
  refine lv_aload_n hx hb dX8_begin_11 rfl (lv_at hl 0 rfl) ?_
  refine k_get (k := 0) (v := .ref (L (aG 0))) hx hb hts in_X8_begin_X8 hown hK hO_2 (by decide) rfl rfl (by decide) lk_X8_begin_f12 rfl dX8_begin_12 ?_
  replace hf := zv_some hf
  obtain ⟨X_3, hc_3, hf⟩ := hf
  refine k_av (va_runVN (As := []) (rest := []) ⟨hx, hb, hml, hown, hts⟩ (mX0_restart l D L ac hL _ 0 (by decide) _ hc_3) ⟨va_cnB 0 hts gX8_begin_X0_restart_n76 rfl rfl rfl (hN _ nx_method_X8_76) (hts _ lk_X8_begin_iX0) (by decide +kernel) ⟨Nat.le_of_ble_eq_true rfl, Nat.le_of_ble_eq_true rfl⟩, hts _ lk_X8_begin_mX0_restart, hts _ lk_X8_begin_eX0_restart⟩ (k_pv (j := (aG 0)) hK hN hO_2 (aG_lt (by decide)) (cn_G 0) rfl _) rfl rfl hl.1 rfl (lv_room (Nat.le_of_ble_eq_true rfl)) dX8_begin_15 ⟨Nat.le_of_ble_eq_true rfl, Nat.le_of_ble_eq_true rfl⟩) hA hO_2 (fun H_4 locs_4 hO_4 => ?_)
  clear hO_2
  refine lv_aload_n hx hb dX8_begin_18 rfl (lv_at hl 0 rfl) ?_
  refine lv_aload_n hx hb dX8_begin_19 rfl (lv_at hl 0 rfl) ?_
  refine k_get (k := 0) (v := .ref (L (aG 0))) hx hb hts in_X8_begin_X8 hown hK hO_4 (by decide) rfl rfl (by decide) lk_X8_begin_f12 rfl dX8_begin_20 ?_
  replace hf := zi_some hf
  obtain ⟨r_6, X_5, hc_5, hf⟩ := hf
  refine k_ai (va_runVN (As := []) (rest := [.ref (L 0)]) ⟨hx, hb, hml, hown, hts⟩ (mX0_tokenSum l D L ac hL _ 0 (by decide) _ _ hc_5) ⟨va_cnB 0 hts gX8_begin_X0_tokenSum_n79 rfl rfl rfl (hN _ nx_method_X8_79) (hts _ lk_X8_begin_iX0) (by decide +kernel) ⟨Nat.le_of_ble_eq_true rfl, Nat.le_of_ble_eq_true rfl⟩, hts _ lk_X8_begin_mX0_tokenSum, hts _ lk_X8_begin_eX0_tokenSum⟩ (k_pv (j := (aG 0)) hK hN hO_4 (aG_lt (by decide)) (cn_G 0) rfl _) rfl rfl hl.1 rfl (lv_room (Nat.le_of_ble_eq_true rfl)) dX8_begin_23 ⟨Nat.le_of_ble_eq_true rfl, Nat.le_of_ble_eq_true rfl⟩) hA hO_4 (fun H_7 locs_7 hO_7 => ?_)
  clear hO_4
  replace hf := zi_some hf
  obtain ⟨r_9, X_8, hc_8, hf⟩ := hf
  refine k_ai (va_runV (As := [.int r_6]) (rest := []) ⟨hx, hb, hml, hown, hts⟩ (mX8_recorded l D L ac hL _ r_6 _ _ hc_8) (cwV 1 hts gX8_begin_X8_recorded rfl rfl rfl (by decide +kernel) ⟨Nat.le_of_ble_eq_true rfl, Nat.le_of_ble_eq_true rfl⟩) (k_pv (j := 0) hK hN hO_7 (by decide) rfl rfl _) rfl rfl hl.1 rfl (lv_room (Nat.le_of_ble_eq_true rfl)) dX8_begin_26 ⟨Nat.le_of_ble_eq_true rfl, Nat.le_of_ble_eq_true rfl⟩) hA hO_7 (fun H_10 locs_10 hO_10 => ?_)
  clear hO_7
  obtain ⟨rfl, rfl⟩ := Prod.mk.inj (Option.some.inj hf)
  exact e_i hx hb hr hK hN hO_10 hlocks dX8_begin_29
theorem in_X8_take_X8 : ∀ w ∈ u_ws RX8 TX8 8, w ∈ wsX8_take := by decide +kernel
theorem lk_X8_take_eX0_copyFrom : Cond.selects RX0 yX0_copyFrom yX0_copyFrom ∈ wsX8_take := by decide +kernel
theorem lk_X8_take_f12 : Cond.fieldLink RX8 12 "PoisonPiles" "now" "LPoisonPiles$Game;" ∈ wsX8_take := by decide +kernel
theorem lk_X8_take_f16 : Cond.fieldLink RX8 16 "PoisonPiles" "before" "LPoisonPiles$Game;" ∈ wsX8_take := by decide +kernel
theorem lk_X8_take_iX0 : Cond.initialized RX0 ∈ wsX8_take := by decide +kernel
theorem lk_X8_take_mX0_copyFrom : Cond.instanceMethod yX0_copyFrom ∈ wsX8_take := by decide +kernel
def fX8_take  (a1 : Int32) (a2 : Int32) (X : XM) : Option (Int32 × XM) := zv (fX0_copyFrom 1 0 X) (fun X_1 => zi (fX8_takeTokens a1 a2 X_1) (fun r_4 X_3 => zi (fX8_recorded r_4 X_3) (fun r_7 X_6 => some (r_7, X_6))))
set_option maxHeartbeats 4000000 in
set_option maxRecDepth 100000 in
theorem mX8_take (l : Launch) (D : va_G) (L : Nat → Nat) (ac : Nat → ClassId) (hL : LL L) (X : XM) (a1 : Int32) (a2 : Int32) (r0 : Int32) (X0 : XM) (hf : fX8_take a1 a2 X = some (r0, X0)) : Ci l yX8_take wsX8_take ({ frames := 4, cells := 0, slots := 0, locals := 90 }) D L ac X [.ref (L 0), .int a1, .int a2] r0 X0 := by
  refine Met.ofK (cc := cX8_take) (maxL := 3) (ret := (some .int)) (lv := [(0, .ref (L 0)), (1, .int a1), (2, .int a2)]) (by decide +kernel) rfl (Nat.le_of_ble_eq_true rfl) rfl ?_
  intro p e s m below meth c F hO ls hl
  obtain ⟨hx, hb, hr, hts, hown, hlocks, hml, hK, hN⟩ := id F
  have hA : ∀ q, fr L q → fr L q := fun q h => h
  unfold fX8_take at hf
  refine lv_aload_n hx hb dX8_take_0 rfl (lv_at hl 0 rfl) ?_
  refine k_get (k := 1) (v := .ref (L (aG 1))) hx hb hts in_X8_take_X8 hown hK hO (by decide) rfl rfl (by decide) lk_X8_take_f16 rfl dX8_take_1 ?_
  refine lv_aload_n hx hb dX8_take_4 rfl (lv_at hl 0 rfl) ?_
  refine k_get (k := 0) (v := .ref (L (aG 0))) hx hb hts in_X8_take_X8 hown hK hO (by decide) rfl rfl (by decide) lk_X8_take_f12 rfl dX8_take_5 ?_
  replace hf := zv_some hf
  obtain ⟨X_1, hc_1, hf⟩ := hf
  refine k_av (va_runVN (As := [.ref (L (aG 0))]) (rest := []) ⟨hx, hb, hml, hown, hts⟩ (mX0_copyFrom l D L ac hL _ 1 (by decide) 0 (by decide) _ hc_1) ⟨va_cnB 1 hts gX8_take_X0_copyFrom_n57 rfl rfl rfl (hN _ nx_method_X8_57) (hts _ lk_X8_take_iX0) (by decide +kernel) ⟨Nat.le_of_ble_eq_true rfl, Nat.le_of_ble_eq_true rfl⟩, hts _ lk_X8_take_mX0_copyFrom, hts _ lk_X8_take_eX0_copyFrom⟩ (k_pv (j := (aG 1)) hK hN hO (aG_lt (by decide)) (cn_G 1) rfl _) rfl rfl hl.1 rfl (lv_room (Nat.le_of_ble_eq_true rfl)) dX8_take_8 ⟨Nat.le_of_ble_eq_true rfl, Nat.le_of_ble_eq_true rfl⟩) hA hO (fun H_2 locs_2 hO_2 => ?_)
  clear hO
  refine lv_aload_n hx hb dX8_take_11 rfl (lv_at hl 0 rfl) ?_
  refine lv_aload_n hx hb dX8_take_12 rfl (lv_at hl 0 rfl) ?_
  refine lv_iload_n hx hb dX8_take_13 rfl (lv_at hl 1 rfl) ?_
  refine lv_iload_n hx hb dX8_take_14 rfl (lv_at hl 2 rfl) ?_
  replace hf := zi_some hf
  obtain ⟨r_4, X_3, hc_3, hf⟩ := hf
  refine k_ai (va_runV (As := [.int a1, .int a2]) (rest := [.ref (L 0)]) ⟨hx, hb, hml, hown, hts⟩ (mX8_takeTokens l D L ac hL _ a1 a2 _ _ hc_3) (cwV 2 hts gX8_take_X8_takeTokens rfl rfl rfl (by decide +kernel) ⟨Nat.le_of_ble_eq_true rfl, Nat.le_of_ble_eq_true rfl⟩) (k_pv (j := 0) hK hN hO_2 (by decide) rfl rfl _) rfl rfl hl.1 rfl (lv_room (Nat.le_of_ble_eq_true rfl)) dX8_take_15 ⟨Nat.le_of_ble_eq_true rfl, Nat.le_of_ble_eq_true rfl⟩) hA hO_2 (fun H_5 locs_5 hO_5 => ?_)
  clear hO_2
  replace hf := zi_some hf
  obtain ⟨r_7, X_6, hc_6, hf⟩ := hf
  refine k_ai (va_runV (As := [.int r_4]) (rest := []) ⟨hx, hb, hml, hown, hts⟩ (mX8_recorded l D L ac hL _ r_4 _ _ hc_6) (cwV 1 hts gX8_take_X8_recorded rfl rfl rfl (by decide +kernel) ⟨Nat.le_of_ble_eq_true rfl, Nat.le_of_ble_eq_true rfl⟩) (k_pv (j := 0) hK hN hO_5 (by decide) rfl rfl _) rfl rfl hl.1 rfl (lv_room (Nat.le_of_ble_eq_true rfl)) dX8_take_18 ⟨Nat.le_of_ble_eq_true rfl, Nat.le_of_ble_eq_true rfl⟩) hA hO_5 (fun H_8 locs_8 hO_8 => ?_)
  clear hO_5
  obtain ⟨rfl, rfl⟩ := Prod.mk.inj (Option.some.inj hf)
  exact e_i hx hb hr hK hN hO_8 hlocks dX8_take_21
theorem in_X8_pass_X8 : ∀ w ∈ u_ws RX8 TX8 8, w ∈ wsX8_pass := by decide +kernel
theorem lk_X8_pass_eX0_copyFrom : Cond.selects RX0 yX0_copyFrom yX0_copyFrom ∈ wsX8_pass := by decide +kernel
theorem lk_X8_pass_f12 : Cond.fieldLink RX8 12 "PoisonPiles" "now" "LPoisonPiles$Game;" ∈ wsX8_pass := by decide +kernel
theorem lk_X8_pass_f16 : Cond.fieldLink RX8 16 "PoisonPiles" "before" "LPoisonPiles$Game;" ∈ wsX8_pass := by decide +kernel
theorem lk_X8_pass_iX0 : Cond.initialized RX0 ∈ wsX8_pass := by decide +kernel
theorem lk_X8_pass_mX0_copyFrom : Cond.instanceMethod yX0_copyFrom ∈ wsX8_pass := by decide +kernel
def fX8_pass   (X : XM) : Option (Int32 × XM) := zv (fX0_copyFrom 1 0 X) (fun X_1 => zi (fX8_usePass X_1) (fun r_4 X_3 => zi (fX8_recorded r_4 X_3) (fun r_7 X_6 => some (r_7, X_6))))
set_option maxHeartbeats 4000000 in
set_option maxRecDepth 100000 in
theorem mX8_pass (l : Launch) (D : va_G) (L : Nat → Nat) (ac : Nat → ClassId) (hL : LL L) (X : XM)  (r0 : Int32) (X0 : XM) (hf : fX8_pass  X = some (r0, X0)) : Ci l yX8_pass wsX8_pass ({ frames := 4, cells := 0, slots := 0, locals := 88 }) D L ac X [.ref (L 0)] r0 X0 := by
  refine Met.ofK (cc := cX8_pass) (maxL := 1) (ret := (some .int)) (lv := [(0, .ref (L 0))]) (by decide +kernel) rfl (Nat.le_of_ble_eq_true rfl) rfl ?_
  intro p e s m below meth c F hO ls hl
  obtain ⟨hx, hb, hr, hts, hown, hlocks, hml, hK, hN⟩ := id F
  have hA : ∀ q, fr L q → fr L q := fun q h => h
  unfold fX8_pass at hf
  refine lv_aload_n hx hb dX8_pass_0 rfl (lv_at hl 0 rfl) ?_
  refine k_get (k := 1) (v := .ref (L (aG 1))) hx hb hts in_X8_pass_X8 hown hK hO (by decide) rfl rfl (by decide) lk_X8_pass_f16 rfl dX8_pass_1 ?_
  refine lv_aload_n hx hb dX8_pass_4 rfl (lv_at hl 0 rfl) ?_
  refine k_get (k := 0) (v := .ref (L (aG 0))) hx hb hts in_X8_pass_X8 hown hK hO (by decide) rfl rfl (by decide) lk_X8_pass_f12 rfl dX8_pass_5 ?_
  replace hf := zv_some hf
  obtain ⟨X_1, hc_1, hf⟩ := hf
  refine k_av (va_runVN (As := [.ref (L (aG 0))]) (rest := []) ⟨hx, hb, hml, hown, hts⟩ (mX0_copyFrom l D L ac hL _ 1 (by decide) 0 (by decide) _ hc_1) ⟨va_cnB 1 hts gX8_pass_X0_copyFrom_n57 rfl rfl rfl (hN _ nx_method_X8_57) (hts _ lk_X8_pass_iX0) (by decide +kernel) ⟨Nat.le_of_ble_eq_true rfl, Nat.le_of_ble_eq_true rfl⟩, hts _ lk_X8_pass_mX0_copyFrom, hts _ lk_X8_pass_eX0_copyFrom⟩ (k_pv (j := (aG 1)) hK hN hO (aG_lt (by decide)) (cn_G 1) rfl _) rfl rfl hl.1 rfl (lv_room (Nat.le_of_ble_eq_true rfl)) dX8_pass_8 ⟨Nat.le_of_ble_eq_true rfl, Nat.le_of_ble_eq_true rfl⟩) hA hO (fun H_2 locs_2 hO_2 => ?_)
  clear hO
  refine lv_aload_n hx hb dX8_pass_11 rfl (lv_at hl 0 rfl) ?_
  refine lv_aload_n hx hb dX8_pass_12 rfl (lv_at hl 0 rfl) ?_
  replace hf := zi_some hf
  obtain ⟨r_4, X_3, hc_3, hf⟩ := hf
  refine k_ai (va_runV (As := []) (rest := [.ref (L 0)]) ⟨hx, hb, hml, hown, hts⟩ (mX8_usePass l D L ac hL _  _ _ hc_3) (cwV 0 hts gX8_pass_X8_usePass rfl rfl rfl (by decide +kernel) ⟨Nat.le_of_ble_eq_true rfl, Nat.le_of_ble_eq_true rfl⟩) (k_pv (j := 0) hK hN hO_2 (by decide) rfl rfl _) rfl rfl hl.1 rfl (lv_room (Nat.le_of_ble_eq_true rfl)) dX8_pass_13 ⟨Nat.le_of_ble_eq_true rfl, Nat.le_of_ble_eq_true rfl⟩) hA hO_2 (fun H_5 locs_5 hO_5 => ?_)
  clear hO_2
  replace hf := zi_some hf
  obtain ⟨r_7, X_6, hc_6, hf⟩ := hf
  refine k_ai (va_runV (As := [.int r_4]) (rest := []) ⟨hx, hb, hml, hown, hts⟩ (mX8_recorded l D L ac hL _ r_4 _ _ hc_6) (cwV 1 hts gX8_pass_X8_recorded rfl rfl rfl (by decide +kernel) ⟨Nat.le_of_ble_eq_true rfl, Nat.le_of_ble_eq_true rfl⟩) (k_pv (j := 0) hK hN hO_5 (by decide) rfl rfl _) rfl rfl hl.1 rfl (lv_room (Nat.le_of_ble_eq_true rfl)) dX8_pass_16 ⟨Nat.le_of_ble_eq_true rfl, Nat.le_of_ble_eq_true rfl⟩) hA hO_5 (fun H_8 locs_8 hO_8 => ?_)
  clear hO_5
  obtain ⟨rfl, rfl⟩ := Prod.mk.inj (Option.some.inj hf)
  exact e_i hx hb hr hK hN hO_8 hlocks dX8_pass_19
theorem in_X8_play_X8 : ∀ w ∈ u_ws RX8 TX8 8, w ∈ wsX8_play := by decide +kernel
theorem lk_X8_play_eX0_copyFrom : Cond.selects RX0 yX0_copyFrom yX0_copyFrom ∈ wsX8_play := by decide +kernel
theorem lk_X8_play_f12 : Cond.fieldLink RX8 12 "PoisonPiles" "now" "LPoisonPiles$Game;" ∈ wsX8_play := by decide +kernel
theorem lk_X8_play_f16 : Cond.fieldLink RX8 16 "PoisonPiles" "before" "LPoisonPiles$Game;" ∈ wsX8_play := by decide +kernel
theorem lk_X8_play_iX0 : Cond.initialized RX0 ∈ wsX8_play := by decide +kernel
theorem lk_X8_play_mX0_copyFrom : Cond.instanceMethod yX0_copyFrom ∈ wsX8_play := by decide +kernel
def fX8_play  (a1 : Int32) (X : XM) : Option (Int32 × XM) := zv (fX0_copyFrom 1 0 X) (fun X_1 => zi (fX8_playOn a1 X_1) (fun r_4 X_3 => zi (fX8_recorded r_4 X_3) (fun r_7 X_6 => some (r_7, X_6))))
set_option maxHeartbeats 4000000 in
set_option maxRecDepth 100000 in
theorem mX8_play (l : Launch) (D : va_G) (L : Nat → Nat) (ac : Nat → ClassId) (hL : LL L) (X : XM) (a1 : Int32) (r0 : Int32) (X0 : XM) (hf : fX8_play a1 X = some (r0, X0)) : Ci l yX8_play wsX8_play ({ frames := 66, cells := 0, slots := 0, locals := 2005 }) D L ac X [.ref (L 0), .int a1] r0 X0 := by
  refine Met.ofK (cc := cX8_play) (maxL := 2) (ret := (some .int)) (lv := [(0, .ref (L 0)), (1, .int a1)]) (by decide +kernel) rfl (Nat.le_of_ble_eq_true rfl) rfl ?_
  intro p e s m below meth c F hO ls hl
  obtain ⟨hx, hb, hr, hts, hown, hlocks, hml, hK, hN⟩ := id F
  have hA : ∀ q, fr L q → fr L q := fun q h => h
  unfold fX8_play at hf
  refine lv_aload_n hx hb dX8_play_0 rfl (lv_at hl 0 rfl) ?_
  refine k_get (k := 1) (v := .ref (L (aG 1))) hx hb hts in_X8_play_X8 hown hK hO (by decide) rfl rfl (by decide) lk_X8_play_f16 rfl dX8_play_1 ?_
  refine lv_aload_n hx hb dX8_play_4 rfl (lv_at hl 0 rfl) ?_
  refine k_get (k := 0) (v := .ref (L (aG 0))) hx hb hts in_X8_play_X8 hown hK hO (by decide) rfl rfl (by decide) lk_X8_play_f12 rfl dX8_play_5 ?_
  replace hf := zv_some hf
  obtain ⟨X_1, hc_1, hf⟩ := hf
  refine k_av (va_runVN (As := [.ref (L (aG 0))]) (rest := []) ⟨hx, hb, hml, hown, hts⟩ (mX0_copyFrom l D L ac hL _ 1 (by decide) 0 (by decide) _ hc_1) ⟨va_cnB 1 hts gX8_play_X0_copyFrom_n57 rfl rfl rfl (hN _ nx_method_X8_57) (hts _ lk_X8_play_iX0) (by decide +kernel) ⟨Nat.le_of_ble_eq_true rfl, Nat.le_of_ble_eq_true rfl⟩, hts _ lk_X8_play_mX0_copyFrom, hts _ lk_X8_play_eX0_copyFrom⟩ (k_pv (j := (aG 1)) hK hN hO (aG_lt (by decide)) (cn_G 1) rfl _) rfl rfl hl.1 rfl (lv_room (Nat.le_of_ble_eq_true rfl)) dX8_play_8 ⟨Nat.le_of_ble_eq_true rfl, Nat.le_of_ble_eq_true rfl⟩) hA hO (fun H_2 locs_2 hO_2 => ?_)
  clear hO
  refine lv_aload_n hx hb dX8_play_11 rfl (lv_at hl 0 rfl) ?_
  refine lv_aload_n hx hb dX8_play_12 rfl (lv_at hl 0 rfl) ?_
  refine lv_iload_n hx hb dX8_play_13 rfl (lv_at hl 1 rfl) ?_
  replace hf := zi_some hf
  obtain ⟨r_4, X_3, hc_3, hf⟩ := hf
  refine k_ai (va_runV (As := [.int a1]) (rest := [.ref (L 0)]) ⟨hx, hb, hml, hown, hts⟩ (mX8_playOn l D L ac hL _ a1 _ _ hc_3) (cwV 1 hts gX8_play_X8_playOn rfl rfl rfl (by decide +kernel) ⟨Nat.le_of_ble_eq_true rfl, Nat.le_of_ble_eq_true rfl⟩) (k_pv (j := 0) hK hN hO_2 (by decide) rfl rfl _) rfl rfl hl.1 rfl (lv_room (Nat.le_of_ble_eq_true rfl)) dX8_play_14 ⟨Nat.le_of_ble_eq_true rfl, Nat.le_of_ble_eq_true rfl⟩) hA hO_2 (fun H_5 locs_5 hO_5 => ?_)
  clear hO_2
  replace hf := zi_some hf
  obtain ⟨r_7, X_6, hc_6, hf⟩ := hf
  refine k_ai (va_runV (As := [.int r_4]) (rest := []) ⟨hx, hb, hml, hown, hts⟩ (mX8_recorded l D L ac hL _ r_4 _ _ hc_6) (cwV 1 hts gX8_play_X8_recorded rfl rfl rfl (by decide +kernel) ⟨Nat.le_of_ble_eq_true rfl, Nat.le_of_ble_eq_true rfl⟩) (k_pv (j := 0) hK hN hO_5 (by decide) rfl rfl _) rfl rfl hl.1 rfl (lv_room (Nat.le_of_ble_eq_true rfl)) dX8_play_17 ⟨Nat.le_of_ble_eq_true rfl, Nat.le_of_ble_eq_true rfl⟩) hA hO_5 (fun H_8 locs_8 hO_8 => ?_)
  clear hO_5
  obtain ⟨rfl, rfl⟩ := Prod.mk.inj (Option.some.inj hf)
  exact e_i hx hb hr hK hN hO_8 hlocks dX8_play_20
theorem in_X8_ofPile_X0 : ∀ w ∈ u_ws RX0 TX0 10, w ∈ wsX8_ofPile := by decide +kernel
theorem in_X8_ofPile_X3 : ∀ w ∈ u_ws RX3 TX3 4, w ∈ wsX8_ofPile := by decide +kernel
theorem in_X8_ofPile_X8 : ∀ w ∈ u_ws RX8 TX8 8, w ∈ wsX8_ofPile := by decide +kernel
theorem lk_X8_ofPile_eX0_hasPile : Cond.selects RX0 yX0_hasPile yX0_hasPile ∈ wsX8_ofPile := by decide +kernel
theorem lk_X8_ofPile_eX5_nimber : Cond.selects RX5 yX5_nimber yX5_nimber ∈ wsX8_ofPile := by decide +kernel
theorem lk_X8_ofPile_f12 : Cond.fieldLink RX8 12 "PoisonPiles" "now" "LPoisonPiles$Game;" ∈ wsX8_ofPile := by decide +kernel
theorem lk_X8_ofPile_f45 : Cond.fieldLink RX8 45 "PoisonPiles" "sizes" "LPoisonPiles$Sizes;" ∈ wsX8_ofPile := by decide +kernel
theorem lk_X8_ofPile_iX0 : Cond.initialized RX0 ∈ wsX8_ofPile := by decide +kernel
theorem lk_X8_ofPile_iX5 : Cond.initialized RX5 ∈ wsX8_ofPile := by decide +kernel
theorem lk_X8_ofPile_mX0_hasPile : Cond.instanceMethod yX0_hasPile ∈ wsX8_ofPile := by decide +kernel
theorem lk_X8_ofPile_mX5_nimber : Cond.instanceMethod yX5_nimber ∈ wsX8_ofPile := by decide +kernel
def fX8_ofPile  (a1 : Int32) (a2 : Int32) (X : XM) : Option (Int32 × XM) := zi (fX0_hasPile 0 a1 X) (fun r_2 X_1 => if r_2 = 0 then some ((-1), X_1) else zd a1 4 (if a2 = 0 then some (X_1 0 (11 + 4 * (Int32.toNatClampNeg a1)), X_1) else (if a2 = 1 then some (X_1 0 (12 + 4 * (Int32.toNatClampNeg a1)), X_1) else (if a2 = 2 then if (X_1 0 (13 + 4 * (Int32.toNatClampNeg a1))) = 0 then some (0, X_1) else some (1, X_1) else (if a2 = 3 then some (X_1 0 (14 + 4 * (Int32.toNatClampNeg a1)), X_1) else (if a2 = 4 then zi (fX5_nimber (X_1 0 0) (X_1 0 (11 + 4 * (Int32.toNatClampNeg a1))) X_1) (fun r_14 X_13 => some (r_14, X_13)) else (some ((-2), X_1))))))))
set_option maxHeartbeats 4000000 in
set_option maxRecDepth 100000 in
theorem mX8_ofPile (l : Launch) (D : va_G) (L : Nat → Nat) (ac : Nat → ClassId) (hL : LL L) (X : XM) (a1 : Int32) (a2 : Int32) (r0 : Int32) (X0 : XM) (hf : fX8_ofPile a1 a2 X = some (r0, X0)) : Ci l yX8_ofPile wsX8_ofPile ({ frames := 4, cells := 0, slots := 0, locals := 90 }) D L ac X [.ref (L 0), .int a1, .int a2] r0 X0 := by
  refine Met.ofK (cc := cX8_ofPile) (maxL := 4) (ret := (some .int)) (lv := [(0, .ref (L 0)), (1, .int a1), (2, .int a2)]) (by decide +kernel) rfl (Nat.le_of_ble_eq_true rfl) rfl ?_
  intro p e s m below meth c F hO ls hl
  obtain ⟨hx, hb, hr, hts, hown, hlocks, hml, hK, hN⟩ := id F
  have hA : ∀ q, fr L q → fr L q := fun q h => h
  unfold fX8_ofPile at hf
  refine lv_aload_n hx hb dX8_ofPile_0 rfl (lv_at hl 0 rfl) ?_
  refine k_get (k := 0) (v := .ref (L (aG 0))) hx hb hts in_X8_ofPile_X8 hown hK hO (by decide) rfl rfl (by decide) lk_X8_ofPile_f12 rfl dX8_ofPile_1 ?_
  refine lv_iload_n hx hb dX8_ofPile_4 rfl (lv_at hl 1 rfl) ?_
  replace hf := zi_some hf
  obtain ⟨r_2, X_1, hc_1, hf⟩ := hf
  refine k_ai (va_runVN (As := [.int a1]) (rest := []) ⟨hx, hb, hml, hown, hts⟩ (mX0_hasPile l D L ac hL _ 0 (by decide) a1 _ _ hc_1) ⟨va_cnB 1 hts gX8_ofPile_X0_hasPile_n92 rfl rfl rfl (hN _ nx_method_X8_92) (hts _ lk_X8_ofPile_iX0) (by decide +kernel) ⟨Nat.le_of_ble_eq_true rfl, Nat.le_of_ble_eq_true rfl⟩, hts _ lk_X8_ofPile_mX0_hasPile, hts _ lk_X8_ofPile_eX0_hasPile⟩ (k_pv (j := (aG 0)) hK hN hO (aG_lt (by decide)) (cn_G 0) rfl _) rfl rfl hl.1 rfl (lv_room (Nat.le_of_ble_eq_true rfl)) dX8_ofPile_5 ⟨Nat.le_of_ble_eq_true rfl, Nat.le_of_ble_eq_true rfl⟩) hA hO (fun H_3 locs_3 hO_3 => ?_)
  clear hO
  refine lv_if_ne (tgt := 13) hx hb dX8_ofPile_8 (by decide) (fun c_4 => ?_) (fun c_4 => ?_)
  · rw [if_neg c_4] at hf
    refine lv_aload_n hx hb dX8_ofPile_13 rfl (lv_at hl 0 rfl) ?_
    refine k_get (k := 0) (v := .ref (L (aG 0))) hx hb hts in_X8_ofPile_X8 hown hK hO_3 (by decide) rfl rfl (by decide) lk_X8_ofPile_f12 rfl dX8_ofPile_14 ?_
    refine k_getN (k := 2) (v := .ref (L (aA 0))) hx hb hts in_X8_ofPile_X0 hown hK hN hO_3 (aG_lt (by decide)) (cn_G 0) rfl (by decide) nx_field_X8_96 rfl dX8_ofPile_17 ?_
    refine lv_iload_n hx hb dX8_ofPile_20 rfl (lv_at hl 1 rfl) ?_
    replace hf := zd_some hf
    obtain ⟨hi_5, hf⟩ := hf
    refine k_aald hx hb hK hO_3 (aA_lt (by decide)) (ct_A 0) rfl hi_5 dX8_ofPile_21 ?_
    refine lv_topr (b := L (aP 0 (Int32.toNatClampNeg a1))) rfl ?_
    refine lv_astore_n (lv' := [(3, .ref (L (aP 0 (Int32.toNatClampNeg a1)))), (0, .ref (L 0)), (1, .int a1), (2, .int a2)]) hx hb dX8_ofPile_22 rfl hl (by decide) rfl (fun ls_6 hl_6 => ?_)
    clear hl
    refine lv_iload_n hx hb dX8_ofPile_23 rfl (lv_at hl_6 3 rfl) ?_
    by_cases c_7 : a2 = 0
    · rw [if_pos c_7] at hf
      refine k_tabIn (tgt := 60) (off := 36) hx hb c_7 dX8_ofPile_24 (by decide) (by decide) rfl (by decide) ?_
      subst c_7
      refine lv_aload_n hx hb dX8_ofPile_60 rfl (lv_at hl_6 0 rfl) ?_
      refine k_getN (k := 0) (v := .int (X_1 0 (11 + 4 * (Int32.toNatClampNeg a1)))) hx hb hts in_X8_ofPile_X3 hown hK hN hO_3 (aP_lt (by decide) (vp_lt hi_5)) (cn_P 0 (Int32.toNatClampNeg a1) (vp_lt hi_5)) rfl (by decide) nx_field_X8_100 rfl dX8_ofPile_61 ?_
      obtain ⟨rfl, rfl⟩ := Prod.mk.inj (Option.some.inj hf)
      exact e_i hx hb hr hK hN hO_3 hlocks dX8_ofPile_64
    · rw [if_neg c_7] at hf
      by_cases c_8 : a2 = 1
      · rw [if_pos c_8] at hf
        refine k_tabIn (tgt := 65) (off := 41) hx hb c_8 dX8_ofPile_24 (by decide) (by decide) rfl (by decide) ?_
        subst c_8
        refine lv_aload_n hx hb dX8_ofPile_65 rfl (lv_at hl_6 0 rfl) ?_
        refine k_getN (k := 2) (v := .int (X_1 0 (12 + 4 * (Int32.toNatClampNeg a1)))) hx hb hts in_X8_ofPile_X3 hown hK hN hO_3 (aP_lt (by decide) (vp_lt hi_5)) (cn_P 0 (Int32.toNatClampNeg a1) (vp_lt hi_5)) rfl (by decide) nx_field_X8_106 rfl dX8_ofPile_66 ?_
        obtain ⟨rfl, rfl⟩ := Prod.mk.inj (Option.some.inj hf)
        exact e_i hx hb hr hK hN hO_3 hlocks dX8_ofPile_69
      · rw [if_neg c_8] at hf
        by_cases c_9 : a2 = 2
        · rw [if_pos c_9] at hf
          refine k_tabIn (tgt := 70) (off := 46) hx hb c_9 dX8_ofPile_24 (by decide) (by decide) rfl (by decide) ?_
          subst c_9
          refine lv_aload_n hx hb dX8_ofPile_70 rfl (lv_at hl_6 0 rfl) ?_
          refine k_getN (k := 3) (v := .int (X_1 0 (13 + 4 * (Int32.toNatClampNeg a1)))) hx hb hts in_X8_ofPile_X3 hown hK hN hO_3 (aP_lt (by decide) (vp_lt hi_5)) (cn_P 0 (Int32.toNatClampNeg a1) (vp_lt hi_5)) rfl (by decide) nx_field_X8_109 rfl dX8_ofPile_71 ?_
          refine lv_if_eq (tgt := 81) hx hb dX8_ofPile_74 (by decide) (fun c_10 => ?_) (fun c_10 => ?_)
          · rw [if_pos c_10] at hf
            refine lv_iconst (v := 0) hx hb dX8_ofPile_81 (by decide) ?_
            obtain ⟨rfl, rfl⟩ := Prod.mk.inj (Option.some.inj hf)
            exact e_i hx hb hr hK hN hO_3 hlocks dX8_ofPile_82
          · rw [if_neg c_10] at hf
            refine lv_iconst (v := 1) hx hb dX8_ofPile_77 (by decide) ?_
            refine lv_goto (tgt := 82) hx hb dX8_ofPile_78 (by decide) ?_
            obtain ⟨rfl, rfl⟩ := Prod.mk.inj (Option.some.inj hf)
            exact e_i hx hb hr hK hN hO_3 hlocks dX8_ofPile_82
        · rw [if_neg c_9] at hf
          by_cases c_11 : a2 = 3
          · rw [if_pos c_11] at hf
            refine k_tabIn (tgt := 83) (off := 59) hx hb c_11 dX8_ofPile_24 (by decide) (by decide) rfl (by decide) ?_
            subst c_11
            refine lv_aload_n hx hb dX8_ofPile_83 rfl (lv_at hl_6 0 rfl) ?_
            refine k_getN (k := 1) (v := .int (X_1 0 (14 + 4 * (Int32.toNatClampNeg a1)))) hx hb hts in_X8_ofPile_X3 hown hK hN hO_3 (aP_lt (by decide) (vp_lt hi_5)) (cn_P 0 (Int32.toNatClampNeg a1) (vp_lt hi_5)) rfl (by decide) nx_field_X8_113 rfl dX8_ofPile_84 ?_
            obtain ⟨rfl, rfl⟩ := Prod.mk.inj (Option.some.inj hf)
            exact e_i hx hb hr hK hN hO_3 hlocks dX8_ofPile_87
          · rw [if_neg c_11] at hf
            by_cases c_12 : a2 = 4
            · rw [if_pos c_12] at hf
              refine k_tabIn (tgt := 88) (off := 64) hx hb c_12 dX8_ofPile_24 (by decide) (by decide) rfl (by decide) ?_
              subst c_12
              refine lv_aload_n hx hb dX8_ofPile_88 rfl (lv_at hl_6 1 rfl) ?_
              refine k_get (k := 6) (v := .ref (L 11)) hx hb hts in_X8_ofPile_X8 hown hK hO_3 (by decide) rfl rfl (by decide) lk_X8_ofPile_f45 rfl dX8_ofPile_89 ?_
              refine lv_aload_n hx hb dX8_ofPile_92 rfl (lv_at hl_6 1 rfl) ?_
              refine k_get (k := 0) (v := .ref (L (aG 0))) hx hb hts in_X8_ofPile_X8 hown hK hO_3 (by decide) rfl rfl (by decide) lk_X8_ofPile_f12 rfl dX8_ofPile_93 ?_
              refine k_getN (k := 0) (v := .int (X_1 0 0)) hx hb hts in_X8_ofPile_X0 hown hK hN hO_3 (aG_lt (by decide)) (cn_G 0) rfl (by decide) nx_field_X8_116 rfl dX8_ofPile_96 ?_
              refine lv_aload_n hx hb dX8_ofPile_99 rfl (lv_at hl_6 0 rfl) ?_
              refine k_getN (k := 0) (v := .int (X_1 0 (11 + 4 * (Int32.toNatClampNeg a1)))) hx hb hts in_X8_ofPile_X3 hown hK hN hO_3 (aP_lt (by decide) (vp_lt hi_5)) (cn_P 0 (Int32.toNatClampNeg a1) (vp_lt hi_5)) rfl (by decide) nx_field_X8_100 rfl dX8_ofPile_100 ?_
              replace hf := zi_some hf
              obtain ⟨r_14, X_13, hc_13, hf⟩ := hf
              refine k_ai (va_runVN (As := [.int (X_1 0 0), .int (X_1 0 (11 + 4 * (Int32.toNatClampNeg a1)))]) (rest := []) ⟨hx, hb, hml, hown, hts⟩ (mX5_nimber l D L ac hL _ (X_1 0 0) (X_1 0 (11 + 4 * (Int32.toNatClampNeg a1))) _ _ hc_13) ⟨va_cnB 2 hts gX8_ofPile_X5_nimber_n119 rfl rfl rfl (hN _ nx_method_X8_119) (hts _ lk_X8_ofPile_iX5) (by decide +kernel) ⟨Nat.le_of_ble_eq_true rfl, Nat.le_of_ble_eq_true rfl⟩, hts _ lk_X8_ofPile_mX5_nimber, hts _ lk_X8_ofPile_eX5_nimber⟩ (k_pv (j := 11) hK hN hO_3 (by decide) rfl rfl _) rfl rfl hl_6.1 rfl (lv_room (Nat.le_of_ble_eq_true rfl)) dX8_ofPile_103 ⟨Nat.le_of_ble_eq_true rfl, Nat.le_of_ble_eq_true rfl⟩) hA hO_3 (fun H_15 locs_15 hO_15 => ?_)
              clear hO_3
              obtain ⟨rfl, rfl⟩ := Prod.mk.inj (Option.some.inj hf)
              exact e_i hx hb hr hK hN hO_15 hlocks dX8_ofPile_106
            · rw [if_neg c_12] at hf
              refine lv_tableOut (tgt := 107) hx hb dX8_ofPile_24 (tb_out 5 (by decide) (fun k hk => ?_)) (by decide) ?_
              · match k, hk with
                | 0, _ => exact c_7
                | 1, _ => exact c_8
                | 2, _ => exact c_9
                | 3, _ => exact c_11
                | 4, _ => exact c_12
                | n + 5, hk => exact absurd hk (by omega)
              refine lv_bipush (v := (-2)) hx hb dX8_ofPile_107 (by decide) ?_
              obtain ⟨rfl, rfl⟩ := Prod.mk.inj (Option.some.inj hf)
              exact e_i hx hb hr hK hN hO_3 hlocks dX8_ofPile_109
  · rw [if_pos c_4] at hf
    subst c_4
    refine lv_iconst (v := (-1)) hx hb dX8_ofPile_11 (by decide) ?_
    obtain ⟨rfl, rfl⟩ := Prod.mk.inj (Option.some.inj hf)
    exact e_i hx hb hr hK hN hO_3 hlocks dX8_ofPile_12
theorem in_X8_ofPlayer_X4 : ∀ w ∈ u_ws RX4 TX4 2, w ∈ wsX8_ofPlayer := by decide +kernel
theorem in_X8_ofPlayer_X8 : ∀ w ∈ u_ws RX8 TX8 8, w ∈ wsX8_ofPlayer := by decide +kernel
theorem lk_X8_ofPlayer_eX0_player : Cond.selects RX0 yX0_player yX0_player ∈ wsX8_ofPlayer := by decide +kernel
theorem lk_X8_ofPlayer_eX0_purse : Cond.selects RX0 yX0_purse yX0_purse ∈ wsX8_ofPlayer := by decide +kernel
theorem lk_X8_ofPlayer_f12 : Cond.fieldLink RX8 12 "PoisonPiles" "now" "LPoisonPiles$Game;" ∈ wsX8_ofPlayer := by decide +kernel
theorem lk_X8_ofPlayer_iX0 : Cond.initialized RX0 ∈ wsX8_ofPlayer := by decide +kernel
theorem lk_X8_ofPlayer_mX0_player : Cond.instanceMethod yX0_player ∈ wsX8_ofPlayer := by decide +kernel
theorem lk_X8_ofPlayer_mX0_purse : Cond.instanceMethod yX0_purse ∈ wsX8_ofPlayer := by decide +kernel
def fX8_ofPlayer  (a1 : Int32) (a2 : Int32) (X : XM) : Option (Int32 × XM) := if a1 = 0 then if a2 = 0 then zi (fX0_player 0 0 X) (fun r_4 X_3 => some (X_3 0 (9 + r_4), X_3)) else (if a2 = 1 then zi (fX0_player 0 0 X) (fun r_8 X_7 => some (X_7 0 (7 + r_8), X_7)) else (if a2 = 2 then zi (fX0_purse 0 0 X) (fun r_12 X_11 => some (r_12 + 100, X_11)) else (some ((-2), X)))) else if a1 = 1 then if a2 = 0 then zi (fX0_player 0 1 X) (fun r_17 X_16 => some (X_16 0 (9 + r_17), X_16)) else (if a2 = 1 then zi (fX0_player 0 1 X) (fun r_21 X_20 => some (X_20 0 (7 + r_21), X_20)) else (if a2 = 2 then zi (fX0_purse 0 1 X) (fun r_25 X_24 => some (r_25 + 100, X_24)) else (some ((-2), X)))) else some ((-1), X)
set_option maxHeartbeats 4000000 in
set_option maxRecDepth 100000 in
theorem mX8_ofPlayer (l : Launch) (D : va_G) (L : Nat → Nat) (ac : Nat → ClassId) (hL : LL L) (X : XM) (a1 : Int32) (a2 : Int32) (r0 : Int32) (X0 : XM) (hf : fX8_ofPlayer a1 a2 X = some (r0, X0)) : Ci l yX8_ofPlayer wsX8_ofPlayer ({ frames := 5, cells := 0, slots := 0, locals := 109 }) D L ac X [.ref (L 0), .int a1, .int a2] r0 X0 := by
  refine Met.ofK (cc := cX8_ofPlayer) (maxL := 3) (ret := (some .int)) (lv := [(0, .ref (L 0)), (1, .int a1), (2, .int a2)]) (by decide +kernel) rfl (Nat.le_of_ble_eq_true rfl) rfl ?_
  intro p e s m below meth c F hO ls hl
  obtain ⟨hx, hb, hr, hts, hown, hlocks, hml, hK, hN⟩ := id F
  have hA : ∀ q, fr L q → fr L q := fun q h => h
  unfold fX8_ofPlayer at hf
  refine lv_iload_n hx hb dX8_ofPlayer_0 rfl (lv_at hl 1 rfl) ?_
  refine lv_if_eq (tgt := 11) hx hb dX8_ofPlayer_1 (by decide) (fun c_1 => ?_) (fun c_1 => ?_)
  · rw [if_pos c_1] at hf
    subst c_1
    refine lv_iload_n hx hb dX8_ofPlayer_11 rfl (lv_at hl 2 rfl) ?_
    by_cases c_2 : a2 = 0
    · rw [if_pos c_2] at hf
      refine k_tabIn (tgt := 40) (off := 28) hx hb c_2 dX8_ofPlayer_12 (by decide) (by decide) rfl (by decide) ?_
      subst c_2
      refine lv_aload_n hx hb dX8_ofPlayer_40 rfl (lv_at hl 0 rfl) ?_
      refine k_get (k := 0) (v := .ref (L (aG 0))) hx hb hts in_X8_ofPlayer_X8 hown hK hO (by decide) rfl rfl (by decide) lk_X8_ofPlayer_f12 rfl dX8_ofPlayer_41 ?_
      refine lv_iload_n hx hb dX8_ofPlayer_44 rfl (lv_at hl 1 rfl) ?_
      replace hf := zi_some hf
      obtain ⟨r_4, X_3, hc_3, hf⟩ := hf
      refine k_ar (va_runVN (As := [.int 0]) (rest := []) ⟨hx, hb, hml, hown, hts⟩ (mX0_player l D L ac hL _ 0 (by decide) 0 _ _ hc_3) ⟨va_cnB 1 hts gX8_ofPlayer_X0_player_n122 rfl rfl rfl (hN _ nx_method_X8_122) (hts _ lk_X8_ofPlayer_iX0) (by decide +kernel) ⟨Nat.le_of_ble_eq_true rfl, Nat.le_of_ble_eq_true rfl⟩, hts _ lk_X8_ofPlayer_mX0_player, hts _ lk_X8_ofPlayer_eX0_player⟩ (k_pv (j := (aG 0)) hK hN hO (aG_lt (by decide)) (cn_G 0) rfl _) rfl rfl hl.1 rfl (lv_room (Nat.le_of_ble_eq_true rfl)) dX8_ofPlayer_45 ⟨Nat.le_of_ble_eq_true rfl, Nat.le_of_ble_eq_true rfl⟩) hA hO (fun H_5 locs_5 hO_5 => ?_)
      clear hO
      have hw_r_4 : r_4 < 2 := ltX0_player hc_3
      refine k_getN (k := 0) (v := .int (X_3 0 (9 + r_4))) hx hb hts in_X8_ofPlayer_X4 hown hK hN hO_5 (aY_lt (by decide) hw_r_4) (cn_Y 0 r_4 hw_r_4) rfl (by decide) nx_field_X8_126 rfl dX8_ofPlayer_48 ?_
      obtain ⟨rfl, rfl⟩ := Prod.mk.inj (Option.some.inj hf)
      exact e_i hx hb hr hK hN hO_5 hlocks dX8_ofPlayer_51
    · rw [if_neg c_2] at hf
      by_cases c_6 : a2 = 1
      · rw [if_pos c_6] at hf
        refine k_tabIn (tgt := 52) (off := 40) hx hb c_6 dX8_ofPlayer_12 (by decide) (by decide) rfl (by decide) ?_
        subst c_6
        refine lv_aload_n hx hb dX8_ofPlayer_52 rfl (lv_at hl 0 rfl) ?_
        refine k_get (k := 0) (v := .ref (L (aG 0))) hx hb hts in_X8_ofPlayer_X8 hown hK hO (by decide) rfl rfl (by decide) lk_X8_ofPlayer_f12 rfl dX8_ofPlayer_53 ?_
        refine lv_iload_n hx hb dX8_ofPlayer_56 rfl (lv_at hl 1 rfl) ?_
        replace hf := zi_some hf
        obtain ⟨r_8, X_7, hc_7, hf⟩ := hf
        refine k_ar (va_runVN (As := [.int 0]) (rest := []) ⟨hx, hb, hml, hown, hts⟩ (mX0_player l D L ac hL _ 0 (by decide) 0 _ _ hc_7) ⟨va_cnB 1 hts gX8_ofPlayer_X0_player_n122 rfl rfl rfl (hN _ nx_method_X8_122) (hts _ lk_X8_ofPlayer_iX0) (by decide +kernel) ⟨Nat.le_of_ble_eq_true rfl, Nat.le_of_ble_eq_true rfl⟩, hts _ lk_X8_ofPlayer_mX0_player, hts _ lk_X8_ofPlayer_eX0_player⟩ (k_pv (j := (aG 0)) hK hN hO (aG_lt (by decide)) (cn_G 0) rfl _) rfl rfl hl.1 rfl (lv_room (Nat.le_of_ble_eq_true rfl)) dX8_ofPlayer_57 ⟨Nat.le_of_ble_eq_true rfl, Nat.le_of_ble_eq_true rfl⟩) hA hO (fun H_9 locs_9 hO_9 => ?_)
        clear hO
        have hw_r_8 : r_8 < 2 := ltX0_player hc_7
        refine k_getN (k := 1) (v := .int (X_7 0 (7 + r_8))) hx hb hts in_X8_ofPlayer_X4 hown hK hN hO_9 (aY_lt (by decide) hw_r_8) (cn_Y 0 r_8 hw_r_8) rfl (by decide) nx_field_X8_131 rfl dX8_ofPlayer_60 ?_
        obtain ⟨rfl, rfl⟩ := Prod.mk.inj (Option.some.inj hf)
        exact e_i hx hb hr hK hN hO_9 hlocks dX8_ofPlayer_63
      · rw [if_neg c_6] at hf
        by_cases c_10 : a2 = 2
        · rw [if_pos c_10] at hf
          refine k_tabIn (tgt := 64) (off := 52) hx hb c_10 dX8_ofPlayer_12 (by decide) (by decide) rfl (by decide) ?_
          subst c_10
          refine lv_aload_n hx hb dX8_ofPlayer_64 rfl (lv_at hl 0 rfl) ?_
          refine k_get (k := 0) (v := .ref (L (aG 0))) hx hb hts in_X8_ofPlayer_X8 hown hK hO (by decide) rfl rfl (by decide) lk_X8_ofPlayer_f12 rfl dX8_ofPlayer_65 ?_
          refine lv_iload_n hx hb dX8_ofPlayer_68 rfl (lv_at hl 1 rfl) ?_
          replace hf := zi_some hf
          obtain ⟨r_12, X_11, hc_11, hf⟩ := hf
          refine k_ai (va_runVN (As := [.int 0]) (rest := []) ⟨hx, hb, hml, hown, hts⟩ (mX0_purse l D L ac hL _ 0 (by decide) 0 _ _ hc_11) ⟨va_cnB 1 hts gX8_ofPlayer_X0_purse_n134 rfl rfl rfl (hN _ nx_method_X8_134) (hts _ lk_X8_ofPlayer_iX0) (by decide +kernel) ⟨Nat.le_of_ble_eq_true rfl, Nat.le_of_ble_eq_true rfl⟩, hts _ lk_X8_ofPlayer_mX0_purse, hts _ lk_X8_ofPlayer_eX0_purse⟩ (k_pv (j := (aG 0)) hK hN hO (aG_lt (by decide)) (cn_G 0) rfl _) rfl rfl hl.1 rfl (lv_room (Nat.le_of_ble_eq_true rfl)) dX8_ofPlayer_69 ⟨Nat.le_of_ble_eq_true rfl, Nat.le_of_ble_eq_true rfl⟩) hA hO (fun H_13 locs_13 hO_13 => ?_)
          clear hO
          refine lv_bipush (v := 100) hx hb dX8_ofPlayer_72 (by decide) ?_
          refine lv_iadd hx hb dX8_ofPlayer_74 ?_
          obtain ⟨rfl, rfl⟩ := Prod.mk.inj (Option.some.inj hf)
          exact e_i hx hb hr hK hN hO_13 hlocks dX8_ofPlayer_75
        · rw [if_neg c_10] at hf
          refine lv_tableOut (tgt := 76) hx hb dX8_ofPlayer_12 (tb_out 3 (by decide) (fun k hk => ?_)) (by decide) ?_
          · match k, hk with
            | 0, _ => exact c_2
            | 1, _ => exact c_6
            | 2, _ => exact c_10
            | n + 3, hk => exact absurd hk (by omega)
          refine lv_bipush (v := (-2)) hx hb dX8_ofPlayer_76 (by decide) ?_
          obtain ⟨rfl, rfl⟩ := Prod.mk.inj (Option.some.inj hf)
          exact e_i hx hb hr hK hN hO hlocks dX8_ofPlayer_78
  · rw [if_neg c_1] at hf
    refine lv_iload_n hx hb dX8_ofPlayer_4 rfl (lv_at hl 1 rfl) ?_
    refine lv_iconst (v := 1) hx hb dX8_ofPlayer_5 (by decide) ?_
    refine lv_icmp_eq (tgt := 11) hx hb dX8_ofPlayer_6 (by decide) (fun c_14 => ?_) (fun c_14 => ?_)
    · rw [if_pos c_14] at hf
      subst c_14
      refine lv_iload_n hx hb dX8_ofPlayer_11 rfl (lv_at hl 2 rfl) ?_
      by_cases c_15 : a2 = 0
      · rw [if_pos c_15] at hf
        refine k_tabIn (tgt := 40) (off := 28) hx hb c_15 dX8_ofPlayer_12 (by decide) (by decide) rfl (by decide) ?_
        subst c_15
        refine lv_aload_n hx hb dX8_ofPlayer_40 rfl (lv_at hl 0 rfl) ?_
        refine k_get (k := 0) (v := .ref (L (aG 0))) hx hb hts in_X8_ofPlayer_X8 hown hK hO (by decide) rfl rfl (by decide) lk_X8_ofPlayer_f12 rfl dX8_ofPlayer_41 ?_
        refine lv_iload_n hx hb dX8_ofPlayer_44 rfl (lv_at hl 1 rfl) ?_
        replace hf := zi_some hf
        obtain ⟨r_17, X_16, hc_16, hf⟩ := hf
        refine k_ar (va_runVN (As := [.int 1]) (rest := []) ⟨hx, hb, hml, hown, hts⟩ (mX0_player l D L ac hL _ 0 (by decide) 1 _ _ hc_16) ⟨va_cnB 1 hts gX8_ofPlayer_X0_player_n122 rfl rfl rfl (hN _ nx_method_X8_122) (hts _ lk_X8_ofPlayer_iX0) (by decide +kernel) ⟨Nat.le_of_ble_eq_true rfl, Nat.le_of_ble_eq_true rfl⟩, hts _ lk_X8_ofPlayer_mX0_player, hts _ lk_X8_ofPlayer_eX0_player⟩ (k_pv (j := (aG 0)) hK hN hO (aG_lt (by decide)) (cn_G 0) rfl _) rfl rfl hl.1 rfl (lv_room (Nat.le_of_ble_eq_true rfl)) dX8_ofPlayer_45 ⟨Nat.le_of_ble_eq_true rfl, Nat.le_of_ble_eq_true rfl⟩) hA hO (fun H_18 locs_18 hO_18 => ?_)
        clear hO
        have hw_r_17 : r_17 < 2 := ltX0_player hc_16
        refine k_getN (k := 0) (v := .int (X_16 0 (9 + r_17))) hx hb hts in_X8_ofPlayer_X4 hown hK hN hO_18 (aY_lt (by decide) hw_r_17) (cn_Y 0 r_17 hw_r_17) rfl (by decide) nx_field_X8_126 rfl dX8_ofPlayer_48 ?_
        obtain ⟨rfl, rfl⟩ := Prod.mk.inj (Option.some.inj hf)
        exact e_i hx hb hr hK hN hO_18 hlocks dX8_ofPlayer_51
      · rw [if_neg c_15] at hf
        by_cases c_19 : a2 = 1
        · rw [if_pos c_19] at hf
          refine k_tabIn (tgt := 52) (off := 40) hx hb c_19 dX8_ofPlayer_12 (by decide) (by decide) rfl (by decide) ?_
          subst c_19
          refine lv_aload_n hx hb dX8_ofPlayer_52 rfl (lv_at hl 0 rfl) ?_
          refine k_get (k := 0) (v := .ref (L (aG 0))) hx hb hts in_X8_ofPlayer_X8 hown hK hO (by decide) rfl rfl (by decide) lk_X8_ofPlayer_f12 rfl dX8_ofPlayer_53 ?_
          refine lv_iload_n hx hb dX8_ofPlayer_56 rfl (lv_at hl 1 rfl) ?_
          replace hf := zi_some hf
          obtain ⟨r_21, X_20, hc_20, hf⟩ := hf
          refine k_ar (va_runVN (As := [.int 1]) (rest := []) ⟨hx, hb, hml, hown, hts⟩ (mX0_player l D L ac hL _ 0 (by decide) 1 _ _ hc_20) ⟨va_cnB 1 hts gX8_ofPlayer_X0_player_n122 rfl rfl rfl (hN _ nx_method_X8_122) (hts _ lk_X8_ofPlayer_iX0) (by decide +kernel) ⟨Nat.le_of_ble_eq_true rfl, Nat.le_of_ble_eq_true rfl⟩, hts _ lk_X8_ofPlayer_mX0_player, hts _ lk_X8_ofPlayer_eX0_player⟩ (k_pv (j := (aG 0)) hK hN hO (aG_lt (by decide)) (cn_G 0) rfl _) rfl rfl hl.1 rfl (lv_room (Nat.le_of_ble_eq_true rfl)) dX8_ofPlayer_57 ⟨Nat.le_of_ble_eq_true rfl, Nat.le_of_ble_eq_true rfl⟩) hA hO (fun H_22 locs_22 hO_22 => ?_)
          clear hO
          have hw_r_21 : r_21 < 2 := ltX0_player hc_20
          refine k_getN (k := 1) (v := .int (X_20 0 (7 + r_21))) hx hb hts in_X8_ofPlayer_X4 hown hK hN hO_22 (aY_lt (by decide) hw_r_21) (cn_Y 0 r_21 hw_r_21) rfl (by decide) nx_field_X8_131 rfl dX8_ofPlayer_60 ?_
          obtain ⟨rfl, rfl⟩ := Prod.mk.inj (Option.some.inj hf)
          exact e_i hx hb hr hK hN hO_22 hlocks dX8_ofPlayer_63
        · rw [if_neg c_19] at hf
          by_cases c_23 : a2 = 2
          · rw [if_pos c_23] at hf
            refine k_tabIn (tgt := 64) (off := 52) hx hb c_23 dX8_ofPlayer_12 (by decide) (by decide) rfl (by decide) ?_
            subst c_23
            refine lv_aload_n hx hb dX8_ofPlayer_64 rfl (lv_at hl 0 rfl) ?_
            refine k_get (k := 0) (v := .ref (L (aG 0))) hx hb hts in_X8_ofPlayer_X8 hown hK hO (by decide) rfl rfl (by decide) lk_X8_ofPlayer_f12 rfl dX8_ofPlayer_65 ?_
            refine lv_iload_n hx hb dX8_ofPlayer_68 rfl (lv_at hl 1 rfl) ?_
            replace hf := zi_some hf
            obtain ⟨r_25, X_24, hc_24, hf⟩ := hf
            refine k_ai (va_runVN (As := [.int 1]) (rest := []) ⟨hx, hb, hml, hown, hts⟩ (mX0_purse l D L ac hL _ 0 (by decide) 1 _ _ hc_24) ⟨va_cnB 1 hts gX8_ofPlayer_X0_purse_n134 rfl rfl rfl (hN _ nx_method_X8_134) (hts _ lk_X8_ofPlayer_iX0) (by decide +kernel) ⟨Nat.le_of_ble_eq_true rfl, Nat.le_of_ble_eq_true rfl⟩, hts _ lk_X8_ofPlayer_mX0_purse, hts _ lk_X8_ofPlayer_eX0_purse⟩ (k_pv (j := (aG 0)) hK hN hO (aG_lt (by decide)) (cn_G 0) rfl _) rfl rfl hl.1 rfl (lv_room (Nat.le_of_ble_eq_true rfl)) dX8_ofPlayer_69 ⟨Nat.le_of_ble_eq_true rfl, Nat.le_of_ble_eq_true rfl⟩) hA hO (fun H_26 locs_26 hO_26 => ?_)
            clear hO
            refine lv_bipush (v := 100) hx hb dX8_ofPlayer_72 (by decide) ?_
            refine lv_iadd hx hb dX8_ofPlayer_74 ?_
            obtain ⟨rfl, rfl⟩ := Prod.mk.inj (Option.some.inj hf)
            exact e_i hx hb hr hK hN hO_26 hlocks dX8_ofPlayer_75
          · rw [if_neg c_23] at hf
            refine lv_tableOut (tgt := 76) hx hb dX8_ofPlayer_12 (tb_out 3 (by decide) (fun k hk => ?_)) (by decide) ?_
            · match k, hk with
              | 0, _ => exact c_15
              | 1, _ => exact c_19
              | 2, _ => exact c_23
              | n + 3, hk => exact absurd hk (by omega)
            refine lv_bipush (v := (-2)) hx hb dX8_ofPlayer_76 (by decide) ?_
            obtain ⟨rfl, rfl⟩ := Prod.mk.inj (Option.some.inj hf)
            exact e_i hx hb hr hK hN hO hlocks dX8_ofPlayer_78
    · rw [if_neg c_14] at hf
      refine lv_iconst (v := (-1)) hx hb dX8_ofPlayer_9 (by decide) ?_
      obtain ⟨rfl, rfl⟩ := Prod.mk.inj (Option.some.inj hf)
      exact e_i hx hb hr hK hN hO hlocks dX8_ofPlayer_10
theorem in_X8_count_X0 : ∀ w ∈ u_ws RX0 TX0 10, w ∈ wsX8_count := by decide +kernel
theorem in_X8_count_X1 : ∀ w ∈ u_ws RX1 TX1 2, w ∈ wsX8_count := by decide +kernel
theorem in_X8_count_X2 : ∀ w ∈ u_ws RX2 TX2 2, w ∈ wsX8_count := by decide +kernel
theorem in_X8_count_X8 : ∀ w ∈ u_ws RX8 TX8 8, w ∈ wsX8_count := by decide +kernel
theorem lk_X8_count_eX0_isOver : Cond.selects RX0 yX0_isOver yX0_isOver ∈ wsX8_count := by decide +kernel
theorem lk_X8_count_eX0_tokenSum : Cond.selects RX0 yX0_tokenSum yX0_tokenSum ∈ wsX8_count := by decide +kernel
theorem lk_X8_count_eX0_winner : Cond.selects RX0 yX0_winner yX0_winner ∈ wsX8_count := by decide +kernel
theorem lk_X8_count_f12 : Cond.fieldLink RX8 12 "PoisonPiles" "now" "LPoisonPiles$Game;" ∈ wsX8_count := by decide +kernel
theorem lk_X8_count_f25 : Cond.fieldLink RX8 25 "PoisonPiles" "history" "LPoisonPiles$History;" ∈ wsX8_count := by decide +kernel
theorem lk_X8_count_f52 : Cond.fieldLink RX8 52 "PoisonPiles" "pad" "LPoisonPiles$Pad;" ∈ wsX8_count := by decide +kernel
theorem lk_X8_count_iX0 : Cond.initialized RX0 ∈ wsX8_count := by decide +kernel
theorem lk_X8_count_mX0_isOver : Cond.instanceMethod yX0_isOver ∈ wsX8_count := by decide +kernel
theorem lk_X8_count_mX0_tokenSum : Cond.instanceMethod yX0_tokenSum ∈ wsX8_count := by decide +kernel
theorem lk_X8_count_mX0_winner : Cond.instanceMethod yX0_winner ∈ wsX8_count := by decide +kernel
def fX8_count  (a1 : Int32) (X : XM) : Option (Int32 × XM) := if a1 = 0 then some (X 0 2, X) else (if a1 = 1 then zi (fX0_tokenSum 0 X) (fun r_4 X_3 => some (r_4, X_3)) else (if a1 = 2 then some (X 0 3, X) else (if a1 = 3 then zi (fX0_isOver 0 X) (fun r_9 X_8 => if r_9 = 0 then some (0, X_8) else some (1, X_8)) else (if a1 = 4 then zi (fX0_winner 0 X) (fun r_14 X_13 => some (r_14, X_13)) else (if a1 = 5 then some (X 0 6, X) else (if a1 = 6 then if (X 0 4) = 0 then some (0, X) else some (1, X) else (if a1 = 7 then some (X 0 0, X) else (if a1 = 8 then some (X 0 1, X) else (if a1 = 9 then some (X 20 0, X) else (if a1 = 10 then some (X 11 0, X) else (some ((-2), X))))))))))))
set_option maxHeartbeats 4000000 in
set_option maxRecDepth 100000 in
theorem mX8_count (l : Launch) (D : va_G) (L : Nat → Nat) (ac : Nat → ClassId) (hL : LL L) (X : XM) (a1 : Int32) (r0 : Int32) (X0 : XM) (hf : fX8_count a1 X = some (r0, X0)) : Ci l yX8_count wsX8_count ({ frames := 4, cells := 0, slots := 0, locals := 87 }) D L ac X [.ref (L 0), .int a1] r0 X0 := by
  refine Met.ofK (cc := cX8_count) (maxL := 2) (ret := (some .int)) (lv := [(0, .ref (L 0)), (1, .int a1)]) (by decide +kernel) rfl (Nat.le_of_ble_eq_true rfl) rfl ?_
  intro p e s m below meth c F hO ls hl
  obtain ⟨hx, hb, hr, hts, hown, hlocks, hml, hK, hN⟩ := id F
  have hA : ∀ q, fr L q → fr L q := fun q h => h
  unfold fX8_count at hf
  refine lv_iload_n hx hb dX8_count_0 rfl (lv_at hl 1 rfl) ?_
  by_cases c_1 : a1 = 0
  · rw [if_pos c_1] at hf
    refine k_tabIn (tgt := 60) (off := 59) hx hb c_1 dX8_count_1 (by decide) (by decide) rfl (by decide) ?_
    subst c_1
    refine lv_aload_n hx hb dX8_count_60 rfl (lv_at hl 0 rfl) ?_
    refine k_get (k := 0) (v := .ref (L (aG 0))) hx hb hts in_X8_count_X8 hown hK hO (by decide) rfl rfl (by decide) lk_X8_count_f12 rfl dX8_count_61 ?_
    refine k_getN (k := 3) (v := .int (X 0 2)) hx hb hts in_X8_count_X0 hown hK hN hO (aG_lt (by decide)) (cn_G 0) rfl (by decide) nx_field_X8_137 rfl dX8_count_64 ?_
    obtain ⟨rfl, rfl⟩ := Prod.mk.inj (Option.some.inj hf)
    exact e_i hx hb hr hK hN hO hlocks dX8_count_67
  · rw [if_neg c_1] at hf
    by_cases c_2 : a1 = 1
    · rw [if_pos c_2] at hf
      refine k_tabIn (tgt := 68) (off := 67) hx hb c_2 dX8_count_1 (by decide) (by decide) rfl (by decide) ?_
      subst c_2
      refine lv_aload_n hx hb dX8_count_68 rfl (lv_at hl 0 rfl) ?_
      refine k_get (k := 0) (v := .ref (L (aG 0))) hx hb hts in_X8_count_X8 hown hK hO (by decide) rfl rfl (by decide) lk_X8_count_f12 rfl dX8_count_69 ?_
      replace hf := zi_some hf
      obtain ⟨r_4, X_3, hc_3, hf⟩ := hf
      refine k_ai (va_runVN (As := []) (rest := []) ⟨hx, hb, hml, hown, hts⟩ (mX0_tokenSum l D L ac hL _ 0 (by decide) _ _ hc_3) ⟨va_cnB 0 hts gX8_count_X0_tokenSum_n79 rfl rfl rfl (hN _ nx_method_X8_79) (hts _ lk_X8_count_iX0) (by decide +kernel) ⟨Nat.le_of_ble_eq_true rfl, Nat.le_of_ble_eq_true rfl⟩, hts _ lk_X8_count_mX0_tokenSum, hts _ lk_X8_count_eX0_tokenSum⟩ (k_pv (j := (aG 0)) hK hN hO (aG_lt (by decide)) (cn_G 0) rfl _) rfl rfl hl.1 rfl (lv_room (Nat.le_of_ble_eq_true rfl)) dX8_count_72 ⟨Nat.le_of_ble_eq_true rfl, Nat.le_of_ble_eq_true rfl⟩) hA hO (fun H_5 locs_5 hO_5 => ?_)
      clear hO
      obtain ⟨rfl, rfl⟩ := Prod.mk.inj (Option.some.inj hf)
      exact e_i hx hb hr hK hN hO_5 hlocks dX8_count_75
    · rw [if_neg c_2] at hf
      by_cases c_6 : a1 = 2
      · rw [if_pos c_6] at hf
        refine k_tabIn (tgt := 76) (off := 75) hx hb c_6 dX8_count_1 (by decide) (by decide) rfl (by decide) ?_
        subst c_6
        refine lv_aload_n hx hb dX8_count_76 rfl (lv_at hl 0 rfl) ?_
        refine k_get (k := 0) (v := .ref (L (aG 0))) hx hb hts in_X8_count_X8 hown hK hO (by decide) rfl rfl (by decide) lk_X8_count_f12 rfl dX8_count_77 ?_
        refine k_getN (k := 6) (v := .int (X 0 3)) hx hb hts in_X8_count_X0 hown hK hN hO (aG_lt (by decide)) (cn_G 0) rfl (by decide) nx_field_X8_140 rfl dX8_count_80 ?_
        obtain ⟨rfl, rfl⟩ := Prod.mk.inj (Option.some.inj hf)
        exact e_i hx hb hr hK hN hO hlocks dX8_count_83
      · rw [if_neg c_6] at hf
        by_cases c_7 : a1 = 3
        · rw [if_pos c_7] at hf
          refine k_tabIn (tgt := 84) (off := 83) hx hb c_7 dX8_count_1 (by decide) (by decide) rfl (by decide) ?_
          subst c_7
          refine lv_aload_n hx hb dX8_count_84 rfl (lv_at hl 0 rfl) ?_
          refine k_get (k := 0) (v := .ref (L (aG 0))) hx hb hts in_X8_count_X8 hown hK hO (by decide) rfl rfl (by decide) lk_X8_count_f12 rfl dX8_count_85 ?_
          replace hf := zi_some hf
          obtain ⟨r_9, X_8, hc_8, hf⟩ := hf
          refine k_ai (va_runVN (As := []) (rest := []) ⟨hx, hb, hml, hown, hts⟩ (mX0_isOver l D L ac hL _ 0 (by decide) _ _ hc_8) ⟨va_cnB 0 hts gX8_count_X0_isOver_n143 rfl rfl rfl (hN _ nx_method_X8_143) (hts _ lk_X8_count_iX0) (by decide +kernel) ⟨Nat.le_of_ble_eq_true rfl, Nat.le_of_ble_eq_true rfl⟩, hts _ lk_X8_count_mX0_isOver, hts _ lk_X8_count_eX0_isOver⟩ (k_pv (j := (aG 0)) hK hN hO (aG_lt (by decide)) (cn_G 0) rfl _) rfl rfl hl.1 rfl (lv_room (Nat.le_of_ble_eq_true rfl)) dX8_count_88 ⟨Nat.le_of_ble_eq_true rfl, Nat.le_of_ble_eq_true rfl⟩) hA hO (fun H_10 locs_10 hO_10 => ?_)
          clear hO
          refine lv_if_eq (tgt := 98) hx hb dX8_count_91 (by decide) (fun c_11 => ?_) (fun c_11 => ?_)
          · rw [if_pos c_11] at hf
            subst c_11
            refine lv_iconst (v := 0) hx hb dX8_count_98 (by decide) ?_
            obtain ⟨rfl, rfl⟩ := Prod.mk.inj (Option.some.inj hf)
            exact e_i hx hb hr hK hN hO_10 hlocks dX8_count_99
          · rw [if_neg c_11] at hf
            refine lv_iconst (v := 1) hx hb dX8_count_94 (by decide) ?_
            refine lv_goto (tgt := 99) hx hb dX8_count_95 (by decide) ?_
            obtain ⟨rfl, rfl⟩ := Prod.mk.inj (Option.some.inj hf)
            exact e_i hx hb hr hK hN hO_10 hlocks dX8_count_99
        · rw [if_neg c_7] at hf
          by_cases c_12 : a1 = 4
          · rw [if_pos c_12] at hf
            refine k_tabIn (tgt := 100) (off := 99) hx hb c_12 dX8_count_1 (by decide) (by decide) rfl (by decide) ?_
            subst c_12
            refine lv_aload_n hx hb dX8_count_100 rfl (lv_at hl 0 rfl) ?_
            refine k_get (k := 0) (v := .ref (L (aG 0))) hx hb hts in_X8_count_X8 hown hK hO (by decide) rfl rfl (by decide) lk_X8_count_f12 rfl dX8_count_101 ?_
            replace hf := zi_some hf
            obtain ⟨r_14, X_13, hc_13, hf⟩ := hf
            refine k_ai (va_runVN (As := []) (rest := []) ⟨hx, hb, hml, hown, hts⟩ (mX0_winner l D L ac hL _ 0 (by decide) _ _ hc_13) ⟨va_cnB 0 hts gX8_count_X0_winner_n147 rfl rfl rfl (hN _ nx_method_X8_147) (hts _ lk_X8_count_iX0) (by decide +kernel) ⟨Nat.le_of_ble_eq_true rfl, Nat.le_of_ble_eq_true rfl⟩, hts _ lk_X8_count_mX0_winner, hts _ lk_X8_count_eX0_winner⟩ (k_pv (j := (aG 0)) hK hN hO (aG_lt (by decide)) (cn_G 0) rfl _) rfl rfl hl.1 rfl (lv_room (Nat.le_of_ble_eq_true rfl)) dX8_count_104 ⟨Nat.le_of_ble_eq_true rfl, Nat.le_of_ble_eq_true rfl⟩) hA hO (fun H_15 locs_15 hO_15 => ?_)
            clear hO
            obtain ⟨rfl, rfl⟩ := Prod.mk.inj (Option.some.inj hf)
            exact e_i hx hb hr hK hN hO_15 hlocks dX8_count_107
          · rw [if_neg c_12] at hf
            by_cases c_16 : a1 = 5
            · rw [if_pos c_16] at hf
              refine k_tabIn (tgt := 108) (off := 107) hx hb c_16 dX8_count_1 (by decide) (by decide) rfl (by decide) ?_
              subst c_16
              refine lv_aload_n hx hb dX8_count_108 rfl (lv_at hl 0 rfl) ?_
              refine k_get (k := 0) (v := .ref (L (aG 0))) hx hb hts in_X8_count_X8 hown hK hO (by decide) rfl rfl (by decide) lk_X8_count_f12 rfl dX8_count_109 ?_
              refine k_getN (k := 7) (v := .int (X 0 6)) hx hb hts in_X8_count_X0 hown hK hN hO (aG_lt (by decide)) (cn_G 0) rfl (by decide) nx_field_X8_150 rfl dX8_count_112 ?_
              obtain ⟨rfl, rfl⟩ := Prod.mk.inj (Option.some.inj hf)
              exact e_i hx hb hr hK hN hO hlocks dX8_count_115
            · rw [if_neg c_16] at hf
              by_cases c_17 : a1 = 6
              · rw [if_pos c_17] at hf
                refine k_tabIn (tgt := 116) (off := 115) hx hb c_17 dX8_count_1 (by decide) (by decide) rfl (by decide) ?_
                subst c_17
                refine lv_aload_n hx hb dX8_count_116 rfl (lv_at hl 0 rfl) ?_
                refine k_get (k := 0) (v := .ref (L (aG 0))) hx hb hts in_X8_count_X8 hown hK hO (by decide) rfl rfl (by decide) lk_X8_count_f12 rfl dX8_count_117 ?_
                refine k_getN (k := 8) (v := .int (X 0 4)) hx hb hts in_X8_count_X0 hown hK hN hO (aG_lt (by decide)) (cn_G 0) rfl (by decide) nx_field_X8_153 rfl dX8_count_120 ?_
                refine lv_if_eq (tgt := 130) hx hb dX8_count_123 (by decide) (fun c_18 => ?_) (fun c_18 => ?_)
                · rw [if_pos c_18] at hf
                  refine lv_iconst (v := 0) hx hb dX8_count_130 (by decide) ?_
                  obtain ⟨rfl, rfl⟩ := Prod.mk.inj (Option.some.inj hf)
                  exact e_i hx hb hr hK hN hO hlocks dX8_count_131
                · rw [if_neg c_18] at hf
                  refine lv_iconst (v := 1) hx hb dX8_count_126 (by decide) ?_
                  refine lv_goto (tgt := 131) hx hb dX8_count_127 (by decide) ?_
                  obtain ⟨rfl, rfl⟩ := Prod.mk.inj (Option.some.inj hf)
                  exact e_i hx hb hr hK hN hO hlocks dX8_count_131
              · rw [if_neg c_17] at hf
                by_cases c_19 : a1 = 7
                · rw [if_pos c_19] at hf
                  refine k_tabIn (tgt := 132) (off := 131) hx hb c_19 dX8_count_1 (by decide) (by decide) rfl (by decide) ?_
                  subst c_19
                  refine lv_aload_n hx hb dX8_count_132 rfl (lv_at hl 0 rfl) ?_
                  refine k_get (k := 0) (v := .ref (L (aG 0))) hx hb hts in_X8_count_X8 hown hK hO (by decide) rfl rfl (by decide) lk_X8_count_f12 rfl dX8_count_133 ?_
                  refine k_getN (k := 0) (v := .int (X 0 0)) hx hb hts in_X8_count_X0 hown hK hN hO (aG_lt (by decide)) (cn_G 0) rfl (by decide) nx_field_X8_116 rfl dX8_count_136 ?_
                  obtain ⟨rfl, rfl⟩ := Prod.mk.inj (Option.some.inj hf)
                  exact e_i hx hb hr hK hN hO hlocks dX8_count_139
                · rw [if_neg c_19] at hf
                  by_cases c_20 : a1 = 8
                  · rw [if_pos c_20] at hf
                    refine k_tabIn (tgt := 140) (off := 139) hx hb c_20 dX8_count_1 (by decide) (by decide) rfl (by decide) ?_
                    subst c_20
                    refine lv_aload_n hx hb dX8_count_140 rfl (lv_at hl 0 rfl) ?_
                    refine k_get (k := 0) (v := .ref (L (aG 0))) hx hb hts in_X8_count_X8 hown hK hO (by decide) rfl rfl (by decide) lk_X8_count_f12 rfl dX8_count_141 ?_
                    refine k_getN (k := 1) (v := .int (X 0 1)) hx hb hts in_X8_count_X0 hown hK hN hO (aG_lt (by decide)) (cn_G 0) rfl (by decide) nx_field_X8_156 rfl dX8_count_144 ?_
                    obtain ⟨rfl, rfl⟩ := Prod.mk.inj (Option.some.inj hf)
                    exact e_i hx hb hr hK hN hO hlocks dX8_count_147
                  · rw [if_neg c_20] at hf
                    by_cases c_21 : a1 = 9
                    · rw [if_pos c_21] at hf
                      refine k_tabIn (tgt := 148) (off := 147) hx hb c_21 dX8_count_1 (by decide) (by decide) rfl (by decide) ?_
                      subst c_21
                      refine lv_aload_n hx hb dX8_count_148 rfl (lv_at hl 0 rfl) ?_
                      refine k_get (k := 7) (v := .ref (L 13)) hx hb hts in_X8_count_X8 hown hK hO (by decide) rfl rfl (by decide) lk_X8_count_f52 rfl dX8_count_149 ?_
                      refine k_getN (k := 1) (v := .int (X 20 0)) hx hb hts in_X8_count_X2 hown hK hN hO (by decide) rfl rfl (by decide) nx_field_X8_159 rfl dX8_count_152 ?_
                      obtain ⟨rfl, rfl⟩ := Prod.mk.inj (Option.some.inj hf)
                      exact e_i hx hb hr hK hN hO hlocks dX8_count_155
                    · rw [if_neg c_21] at hf
                      by_cases c_22 : a1 = 10
                      · rw [if_pos c_22] at hf
                        refine k_tabIn (tgt := 156) (off := 155) hx hb c_22 dX8_count_1 (by decide) (by decide) rfl (by decide) ?_
                        subst c_22
                        refine lv_aload_n hx hb dX8_count_156 rfl (lv_at hl 0 rfl) ?_
                        refine k_get (k := 3) (v := .ref (L 1)) hx hb hts in_X8_count_X8 hown hK hO (by decide) rfl rfl (by decide) lk_X8_count_f25 rfl dX8_count_157 ?_
                        refine k_getN (k := 1) (v := .int (X 11 0)) hx hb hts in_X8_count_X1 hown hK hN hO (by decide) rfl rfl (by decide) nx_field_X8_162 rfl dX8_count_160 ?_
                        obtain ⟨rfl, rfl⟩ := Prod.mk.inj (Option.some.inj hf)
                        exact e_i hx hb hr hK hN hO hlocks dX8_count_163
                      · rw [if_neg c_22] at hf
                        refine lv_tableOut (tgt := 164) hx hb dX8_count_1 (tb_out 11 (by decide) (fun k hk => ?_)) (by decide) ?_
                        · match k, hk with
                          | 0, _ => exact c_1
                          | 1, _ => exact c_2
                          | 2, _ => exact c_6
                          | 3, _ => exact c_7
                          | 4, _ => exact c_12
                          | 5, _ => exact c_16
                          | 6, _ => exact c_17
                          | 7, _ => exact c_19
                          | 8, _ => exact c_20
                          | 9, _ => exact c_21
                          | 10, _ => exact c_22
                          | n + 11, hk => exact absurd hk (by omega)
                        refine lv_bipush (v := (-2)) hx hb dX8_count_164 (by decide) ?_
                        obtain ⟨rfl, rfl⟩ := Prod.mk.inj (Option.some.inj hf)
                        exact e_i hx hb hr hK hN hO hlocks dX8_count_166
theorem in_X8_moves_X8 : ∀ w ∈ u_ws RX8 TX8 8, w ∈ wsX8_moves := by decide +kernel
theorem lk_X8_moves_eX0_moveSet : Cond.selects RX0 yX0_moveSet yX0_moveSet ∈ wsX8_moves := by decide +kernel
theorem lk_X8_moves_f12 : Cond.fieldLink RX8 12 "PoisonPiles" "now" "LPoisonPiles$Game;" ∈ wsX8_moves := by decide +kernel
theorem lk_X8_moves_iX0 : Cond.initialized RX0 ∈ wsX8_moves := by decide +kernel
theorem lk_X8_moves_mX0_moveSet : Cond.instanceMethod yX0_moveSet ∈ wsX8_moves := by decide +kernel
def fX8_moves   (X : XM) : Option (Int32 × XM) := zi (fX0_moveSet 0 X) (fun r_2 X_1 => some (r_2, X_1))
set_option maxHeartbeats 4000000 in
set_option maxRecDepth 100000 in
theorem mX8_moves (l : Launch) (D : va_G) (L : Nat → Nat) (ac : Nat → ClassId) (hL : LL L) (X : XM)  (r0 : Int32) (X0 : XM) (hf : fX8_moves  X = some (r0, X0)) : Ci l yX8_moves wsX8_moves ({ frames := 2, cells := 0, slots := 0, locals := 47 }) D L ac X [.ref (L 0)] r0 X0 := by
  refine Met.ofK (cc := cX8_moves) (maxL := 1) (ret := (some .int)) (lv := [(0, .ref (L 0))]) (by decide +kernel) rfl (Nat.le_of_ble_eq_true rfl) rfl ?_
  intro p e s m below meth c F hO ls hl
  obtain ⟨hx, hb, hr, hts, hown, hlocks, hml, hK, hN⟩ := id F
  have hA : ∀ q, fr L q → fr L q := fun q h => h
  unfold fX8_moves at hf
  refine lv_aload_n hx hb dX8_moves_0 rfl (lv_at hl 0 rfl) ?_
  refine k_get (k := 0) (v := .ref (L (aG 0))) hx hb hts in_X8_moves_X8 hown hK hO (by decide) rfl rfl (by decide) lk_X8_moves_f12 rfl dX8_moves_1 ?_
  replace hf := zi_some hf
  obtain ⟨r_2, X_1, hc_1, hf⟩ := hf
  refine k_ai (va_runVN (As := []) (rest := []) ⟨hx, hb, hml, hown, hts⟩ (mX0_moveSet l D L ac hL _ 0 (by decide) _ _ hc_1) ⟨va_cnB 0 hts gX8_moves_X0_moveSet_n165 rfl rfl rfl (hN _ nx_method_X8_165) (hts _ lk_X8_moves_iX0) (by decide +kernel) ⟨Nat.le_of_ble_eq_true rfl, Nat.le_of_ble_eq_true rfl⟩, hts _ lk_X8_moves_mX0_moveSet, hts _ lk_X8_moves_eX0_moveSet⟩ (k_pv (j := (aG 0)) hK hN hO (aG_lt (by decide)) (cn_G 0) rfl _) rfl rfl hl.1 rfl (lv_room (Nat.le_of_ble_eq_true rfl)) dX8_moves_4 ⟨Nat.le_of_ble_eq_true rfl, Nat.le_of_ble_eq_true rfl⟩) hA hO (fun H_3 locs_3 hO_3 => ?_)
  clear hO
  obtain ⟨rfl, rfl⟩ := Prod.mk.inj (Option.some.inj hf)
  exact e_i hx hb hr hK hN hO_3 hlocks dX8_moves_7
theorem in_X8_won_X8 : ∀ w ∈ u_ws RX8 TX8 8, w ∈ wsX8_won := by decide +kernel
theorem lk_X8_won_eX0_isOver : Cond.selects RX0 yX0_isOver yX0_isOver ∈ wsX8_won := by decide +kernel
theorem lk_X8_won_eX7_isWon : Cond.selects RX7 yX7_isWon yX7_isWon ∈ wsX8_won := by decide +kernel
theorem lk_X8_won_f12 : Cond.fieldLink RX8 12 "PoisonPiles" "now" "LPoisonPiles$Game;" ∈ wsX8_won := by decide +kernel
theorem lk_X8_won_f38 : Cond.fieldLink RX8 38 "PoisonPiles" "solver" "LPoisonPiles$Solver;" ∈ wsX8_won := by decide +kernel
theorem lk_X8_won_iX0 : Cond.initialized RX0 ∈ wsX8_won := by decide +kernel
theorem lk_X8_won_iX7 : Cond.initialized RX7 ∈ wsX8_won := by decide +kernel
theorem lk_X8_won_mX0_isOver : Cond.instanceMethod yX0_isOver ∈ wsX8_won := by decide +kernel
theorem lk_X8_won_mX7_isWon : Cond.instanceMethod yX7_isWon ∈ wsX8_won := by decide +kernel
def fX8_won   (X : XM) : Option (Int32 × XM) := zi (fX0_isOver 0 X) (fun r_2 X_1 => if r_2 = 0 then zi (fX7_isWon 0 X_1) (fun r_6 X_5 => if r_6 = 0 then some (0, X_5) else some (1, X_5)) else some ((-5), X_1))
set_option maxHeartbeats 4000000 in
set_option maxRecDepth 100000 in
theorem mX8_won (l : Launch) (D : va_G) (L : Nat → Nat) (ac : Nat → ClassId) (hL : LL L) (X : XM)  (r0 : Int32) (X0 : XM) (hf : fX8_won  X = some (r0, X0)) : Ci l yX8_won wsX8_won ({ frames := 64, cells := 0, slots := 0, locals := 1948 }) D L ac X [.ref (L 0)] r0 X0 := by
  refine Met.ofK (cc := cX8_won) (maxL := 1) (ret := (some .int)) (lv := [(0, .ref (L 0))]) (by decide +kernel) rfl (Nat.le_of_ble_eq_true rfl) rfl ?_
  intro p e s m below meth c F hO ls hl
  obtain ⟨hx, hb, hr, hts, hown, hlocks, hml, hK, hN⟩ := id F
  have hA : ∀ q, fr L q → fr L q := fun q h => h
  unfold fX8_won at hf
  refine lv_aload_n hx hb dX8_won_0 rfl (lv_at hl 0 rfl) ?_
  refine k_get (k := 0) (v := .ref (L (aG 0))) hx hb hts in_X8_won_X8 hown hK hO (by decide) rfl rfl (by decide) lk_X8_won_f12 rfl dX8_won_1 ?_
  replace hf := zi_some hf
  obtain ⟨r_2, X_1, hc_1, hf⟩ := hf
  refine k_ai (va_runVN (As := []) (rest := []) ⟨hx, hb, hml, hown, hts⟩ (mX0_isOver l D L ac hL _ 0 (by decide) _ _ hc_1) ⟨va_cnB 0 hts gX8_won_X0_isOver_n143 rfl rfl rfl (hN _ nx_method_X8_143) (hts _ lk_X8_won_iX0) (by decide +kernel) ⟨Nat.le_of_ble_eq_true rfl, Nat.le_of_ble_eq_true rfl⟩, hts _ lk_X8_won_mX0_isOver, hts _ lk_X8_won_eX0_isOver⟩ (k_pv (j := (aG 0)) hK hN hO (aG_lt (by decide)) (cn_G 0) rfl _) rfl rfl hl.1 rfl (lv_room (Nat.le_of_ble_eq_true rfl)) dX8_won_4 ⟨Nat.le_of_ble_eq_true rfl, Nat.le_of_ble_eq_true rfl⟩) hA hO (fun H_3 locs_3 hO_3 => ?_)
  clear hO
  refine lv_if_eq (tgt := 13) hx hb dX8_won_7 (by decide) (fun c_4 => ?_) (fun c_4 => ?_)
  · rw [if_pos c_4] at hf
    subst c_4
    refine lv_aload_n hx hb dX8_won_13 rfl (lv_at hl 0 rfl) ?_
    refine k_get (k := 5) (v := .ref (L 6)) hx hb hts in_X8_won_X8 hown hK hO_3 (by decide) rfl rfl (by decide) lk_X8_won_f38 rfl dX8_won_14 ?_
    refine lv_aload_n hx hb dX8_won_17 rfl (lv_at hl 0 rfl) ?_
    refine k_get (k := 0) (v := .ref (L (aG 0))) hx hb hts in_X8_won_X8 hown hK hO_3 (by decide) rfl rfl (by decide) lk_X8_won_f12 rfl dX8_won_18 ?_
    replace hf := zi_some hf
    obtain ⟨r_6, X_5, hc_5, hf⟩ := hf
    refine k_ai (va_runVN (As := [.ref (L (aG 0))]) (rest := []) ⟨hx, hb, hml, hown, hts⟩ (mX7_isWon l D L ac hL _ 0 (by decide) _ _ hc_5) ⟨va_cnB 1 hts gX8_won_X7_isWon_n168 rfl rfl rfl (hN _ nx_method_X8_168) (hts _ lk_X8_won_iX7) (by decide +kernel) ⟨Nat.le_of_ble_eq_true rfl, Nat.le_of_ble_eq_true rfl⟩, hts _ lk_X8_won_mX7_isWon, hts _ lk_X8_won_eX7_isWon⟩ (k_pv (j := 6) hK hN hO_3 (by decide) rfl rfl _) rfl rfl hl.1 rfl (lv_room (Nat.le_of_ble_eq_true rfl)) dX8_won_21 ⟨Nat.le_of_ble_eq_true rfl, Nat.le_of_ble_eq_true rfl⟩) hA hO_3 (fun H_7 locs_7 hO_7 => ?_)
    clear hO_3
    refine lv_if_eq (tgt := 31) hx hb dX8_won_24 (by decide) (fun c_8 => ?_) (fun c_8 => ?_)
    · rw [if_pos c_8] at hf
      subst c_8
      refine lv_iconst (v := 0) hx hb dX8_won_31 (by decide) ?_
      obtain ⟨rfl, rfl⟩ := Prod.mk.inj (Option.some.inj hf)
      exact e_i hx hb hr hK hN hO_7 hlocks dX8_won_32
    · rw [if_neg c_8] at hf
      refine lv_iconst (v := 1) hx hb dX8_won_27 (by decide) ?_
      refine lv_goto (tgt := 32) hx hb dX8_won_28 (by decide) ?_
      obtain ⟨rfl, rfl⟩ := Prod.mk.inj (Option.some.inj hf)
      exact e_i hx hb hr hK hN hO_7 hlocks dX8_won_32
  · rw [if_neg c_4] at hf
    refine lv_bipush (v := (-5)) hx hb dX8_won_10 (by decide) ?_
    obtain ⟨rfl, rfl⟩ := Prod.mk.inj (Option.some.inj hf)
    exact e_i hx hb hr hK hN hO_3 hlocks dX8_won_12
theorem in_X8_winning_X8 : ∀ w ∈ u_ws RX8 TX8 8, w ∈ wsX8_winning := by decide +kernel
theorem lk_X8_winning_eX0_isOver : Cond.selects RX0 yX0_isOver yX0_isOver ∈ wsX8_winning := by decide +kernel
theorem lk_X8_winning_eX7_winningMoves : Cond.selects RX7 yX7_winningMoves yX7_winningMoves ∈ wsX8_winning := by decide +kernel
theorem lk_X8_winning_f12 : Cond.fieldLink RX8 12 "PoisonPiles" "now" "LPoisonPiles$Game;" ∈ wsX8_winning := by decide +kernel
theorem lk_X8_winning_f38 : Cond.fieldLink RX8 38 "PoisonPiles" "solver" "LPoisonPiles$Solver;" ∈ wsX8_winning := by decide +kernel
theorem lk_X8_winning_iX0 : Cond.initialized RX0 ∈ wsX8_winning := by decide +kernel
theorem lk_X8_winning_iX7 : Cond.initialized RX7 ∈ wsX8_winning := by decide +kernel
theorem lk_X8_winning_mX0_isOver : Cond.instanceMethod yX0_isOver ∈ wsX8_winning := by decide +kernel
theorem lk_X8_winning_mX7_winningMoves : Cond.instanceMethod yX7_winningMoves ∈ wsX8_winning := by decide +kernel
def fX8_winning   (X : XM) : Option (Int32 × XM) := zi (fX0_isOver 0 X) (fun r_2 X_1 => if r_2 = 0 then zi (fX7_winningMoves 0 X_1) (fun r_6 X_5 => some (r_6, X_5)) else some ((-5), X_1))
set_option maxHeartbeats 4000000 in
set_option maxRecDepth 100000 in
theorem mX8_winning (l : Launch) (D : va_G) (L : Nat → Nat) (ac : Nat → ClassId) (hL : LL L) (X : XM)  (r0 : Int32) (X0 : XM) (hf : fX8_winning  X = some (r0, X0)) : Ci l yX8_winning wsX8_winning ({ frames := 65, cells := 0, slots := 0, locals := 1981 }) D L ac X [.ref (L 0)] r0 X0 := by
  refine Met.ofK (cc := cX8_winning) (maxL := 1) (ret := (some .int)) (lv := [(0, .ref (L 0))]) (by decide +kernel) rfl (Nat.le_of_ble_eq_true rfl) rfl ?_
  intro p e s m below meth c F hO ls hl
  obtain ⟨hx, hb, hr, hts, hown, hlocks, hml, hK, hN⟩ := id F
  have hA : ∀ q, fr L q → fr L q := fun q h => h
  unfold fX8_winning at hf
  refine lv_aload_n hx hb dX8_winning_0 rfl (lv_at hl 0 rfl) ?_
  refine k_get (k := 0) (v := .ref (L (aG 0))) hx hb hts in_X8_winning_X8 hown hK hO (by decide) rfl rfl (by decide) lk_X8_winning_f12 rfl dX8_winning_1 ?_
  replace hf := zi_some hf
  obtain ⟨r_2, X_1, hc_1, hf⟩ := hf
  refine k_ai (va_runVN (As := []) (rest := []) ⟨hx, hb, hml, hown, hts⟩ (mX0_isOver l D L ac hL _ 0 (by decide) _ _ hc_1) ⟨va_cnB 0 hts gX8_winning_X0_isOver_n143 rfl rfl rfl (hN _ nx_method_X8_143) (hts _ lk_X8_winning_iX0) (by decide +kernel) ⟨Nat.le_of_ble_eq_true rfl, Nat.le_of_ble_eq_true rfl⟩, hts _ lk_X8_winning_mX0_isOver, hts _ lk_X8_winning_eX0_isOver⟩ (k_pv (j := (aG 0)) hK hN hO (aG_lt (by decide)) (cn_G 0) rfl _) rfl rfl hl.1 rfl (lv_room (Nat.le_of_ble_eq_true rfl)) dX8_winning_4 ⟨Nat.le_of_ble_eq_true rfl, Nat.le_of_ble_eq_true rfl⟩) hA hO (fun H_3 locs_3 hO_3 => ?_)
  clear hO
  refine lv_if_eq (tgt := 15) hx hb dX8_winning_7 (by decide) (fun c_4 => ?_) (fun c_4 => ?_)
  · rw [if_pos c_4] at hf
    subst c_4
    refine lv_aload_n hx hb dX8_winning_15 rfl (lv_at hl 0 rfl) ?_
    refine k_get (k := 5) (v := .ref (L 6)) hx hb hts in_X8_winning_X8 hown hK hO_3 (by decide) rfl rfl (by decide) lk_X8_winning_f38 rfl dX8_winning_16 ?_
    refine lv_aload_n hx hb dX8_winning_19 rfl (lv_at hl 0 rfl) ?_
    refine k_get (k := 0) (v := .ref (L (aG 0))) hx hb hts in_X8_winning_X8 hown hK hO_3 (by decide) rfl rfl (by decide) lk_X8_winning_f12 rfl dX8_winning_20 ?_
    replace hf := zi_some hf
    obtain ⟨r_6, X_5, hc_5, hf⟩ := hf
    refine k_ai (va_runVN (As := [.ref (L (aG 0))]) (rest := []) ⟨hx, hb, hml, hown, hts⟩ (mX7_winningMoves l D L ac hL _ 0 (by decide) _ _ hc_5) ⟨va_cnB 1 hts gX8_winning_X7_winningMoves_n172 rfl rfl rfl (hN _ nx_method_X8_172) (hts _ lk_X8_winning_iX7) (by decide +kernel) ⟨Nat.le_of_ble_eq_true rfl, Nat.le_of_ble_eq_true rfl⟩, hts _ lk_X8_winning_mX7_winningMoves, hts _ lk_X8_winning_eX7_winningMoves⟩ (k_pv (j := 6) hK hN hO_3 (by decide) rfl rfl _) rfl rfl hl.1 rfl (lv_room (Nat.le_of_ble_eq_true rfl)) dX8_winning_23 ⟨Nat.le_of_ble_eq_true rfl, Nat.le_of_ble_eq_true rfl⟩) hA hO_3 (fun H_7 locs_7 hO_7 => ?_)
    clear hO_3
    obtain ⟨rfl, rfl⟩ := Prod.mk.inj (Option.some.inj hf)
    exact e_i hx hb hr hK hN hO_7 hlocks dX8_winning_26
  · rw [if_neg c_4] at hf
    refine lv_bipush (v := (-5)) hx hb dX8_winning_10 (by decide) ?_
    refine lv_goto (tgt := 26) hx hb dX8_winning_12 (by decide) ?_
    obtain ⟨rfl, rfl⟩ := Prod.mk.inj (Option.some.inj hf)
    exact e_i hx hb hr hK hN hO_3 hlocks dX8_winning_26
theorem in_X8_value_X8 : ∀ w ∈ u_ws RX8 TX8 8, w ∈ wsX8_value := by decide +kernel
theorem lk_X8_value_eX0_isOver : Cond.selects RX0 yX0_isOver yX0_isOver ∈ wsX8_value := by decide +kernel
theorem lk_X8_value_eX7_difference : Cond.selects RX7 yX7_difference yX7_difference ∈ wsX8_value := by decide +kernel
theorem lk_X8_value_f12 : Cond.fieldLink RX8 12 "PoisonPiles" "now" "LPoisonPiles$Game;" ∈ wsX8_value := by decide +kernel
theorem lk_X8_value_f38 : Cond.fieldLink RX8 38 "PoisonPiles" "solver" "LPoisonPiles$Solver;" ∈ wsX8_value := by decide +kernel
theorem lk_X8_value_iX0 : Cond.initialized RX0 ∈ wsX8_value := by decide +kernel
theorem lk_X8_value_iX7 : Cond.initialized RX7 ∈ wsX8_value := by decide +kernel
theorem lk_X8_value_mX0_isOver : Cond.instanceMethod yX0_isOver ∈ wsX8_value := by decide +kernel
theorem lk_X8_value_mX7_difference : Cond.instanceMethod yX7_difference ∈ wsX8_value := by decide +kernel
def fX8_value   (X : XM) : Option (Int32 × XM) := zi (fX0_isOver 0 X) (fun r_2 X_1 => if r_2 = 0 then zi (fX7_difference 0 X_1) (fun r_6 X_5 => some (r_6 + 1000, X_5)) else some ((-5), X_1))
set_option maxHeartbeats 4000000 in
set_option maxRecDepth 100000 in
theorem mX8_value (l : Launch) (D : va_G) (L : Nat → Nat) (ac : Nat → ClassId) (hL : LL L) (X : XM)  (r0 : Int32) (X0 : XM) (hf : fX8_value  X = some (r0, X0)) : Ci l yX8_value wsX8_value ({ frames := 64, cells := 0, slots := 0, locals := 1948 }) D L ac X [.ref (L 0)] r0 X0 := by
  refine Met.ofK (cc := cX8_value) (maxL := 1) (ret := (some .int)) (lv := [(0, .ref (L 0))]) (by decide +kernel) rfl (Nat.le_of_ble_eq_true rfl) rfl ?_
  intro p e s m below meth c F hO ls hl
  obtain ⟨hx, hb, hr, hts, hown, hlocks, hml, hK, hN⟩ := id F
  have hA : ∀ q, fr L q → fr L q := fun q h => h
  unfold fX8_value at hf
  refine lv_aload_n hx hb dX8_value_0 rfl (lv_at hl 0 rfl) ?_
  refine k_get (k := 0) (v := .ref (L (aG 0))) hx hb hts in_X8_value_X8 hown hK hO (by decide) rfl rfl (by decide) lk_X8_value_f12 rfl dX8_value_1 ?_
  replace hf := zi_some hf
  obtain ⟨r_2, X_1, hc_1, hf⟩ := hf
  refine k_ai (va_runVN (As := []) (rest := []) ⟨hx, hb, hml, hown, hts⟩ (mX0_isOver l D L ac hL _ 0 (by decide) _ _ hc_1) ⟨va_cnB 0 hts gX8_value_X0_isOver_n143 rfl rfl rfl (hN _ nx_method_X8_143) (hts _ lk_X8_value_iX0) (by decide +kernel) ⟨Nat.le_of_ble_eq_true rfl, Nat.le_of_ble_eq_true rfl⟩, hts _ lk_X8_value_mX0_isOver, hts _ lk_X8_value_eX0_isOver⟩ (k_pv (j := (aG 0)) hK hN hO (aG_lt (by decide)) (cn_G 0) rfl _) rfl rfl hl.1 rfl (lv_room (Nat.le_of_ble_eq_true rfl)) dX8_value_4 ⟨Nat.le_of_ble_eq_true rfl, Nat.le_of_ble_eq_true rfl⟩) hA hO (fun H_3 locs_3 hO_3 => ?_)
  clear hO
  refine lv_if_eq (tgt := 15) hx hb dX8_value_7 (by decide) (fun c_4 => ?_) (fun c_4 => ?_)
  · rw [if_pos c_4] at hf
    subst c_4
    refine lv_aload_n hx hb dX8_value_15 rfl (lv_at hl 0 rfl) ?_
    refine k_get (k := 5) (v := .ref (L 6)) hx hb hts in_X8_value_X8 hown hK hO_3 (by decide) rfl rfl (by decide) lk_X8_value_f38 rfl dX8_value_16 ?_
    refine lv_aload_n hx hb dX8_value_19 rfl (lv_at hl 0 rfl) ?_
    refine k_get (k := 0) (v := .ref (L (aG 0))) hx hb hts in_X8_value_X8 hown hK hO_3 (by decide) rfl rfl (by decide) lk_X8_value_f12 rfl dX8_value_20 ?_
    replace hf := zi_some hf
    obtain ⟨r_6, X_5, hc_5, hf⟩ := hf
    refine k_ai (va_runVN (As := [.ref (L (aG 0))]) (rest := []) ⟨hx, hb, hml, hown, hts⟩ (mX7_difference l D L ac hL _ 0 (by decide) _ _ hc_5) ⟨va_cnB 1 hts gX8_value_X7_difference_n176 rfl rfl rfl (hN _ nx_method_X8_176) (hts _ lk_X8_value_iX7) (by decide +kernel) ⟨Nat.le_of_ble_eq_true rfl, Nat.le_of_ble_eq_true rfl⟩, hts _ lk_X8_value_mX7_difference, hts _ lk_X8_value_eX7_difference⟩ (k_pv (j := 6) hK hN hO_3 (by decide) rfl rfl _) rfl rfl hl.1 rfl (lv_room (Nat.le_of_ble_eq_true rfl)) dX8_value_23 ⟨Nat.le_of_ble_eq_true rfl, Nat.le_of_ble_eq_true rfl⟩) hA hO_3 (fun H_7 locs_7 hO_7 => ?_)
    clear hO_3
    refine lv_sipush (v := 1000) hx hb dX8_value_26 (by decide) ?_
    refine lv_iadd hx hb dX8_value_29 ?_
    obtain ⟨rfl, rfl⟩ := Prod.mk.inj (Option.some.inj hf)
    exact e_i hx hb hr hK hN hO_7 hlocks dX8_value_30
  · rw [if_neg c_4] at hf
    refine lv_bipush (v := (-5)) hx hb dX8_value_10 (by decide) ?_
    refine lv_goto (tgt := 30) hx hb dX8_value_12 (by decide) ?_
    obtain ⟨rfl, rfl⟩ := Prod.mk.inj (Option.some.inj hf)
    exact e_i hx hb hr hK hN hO_3 hlocks dX8_value_30
theorem in_X8_best_X8 : ∀ w ∈ u_ws RX8 TX8 8, w ∈ wsX8_best := by decide +kernel
theorem lk_X8_best_eX0_isOver : Cond.selects RX0 yX0_isOver yX0_isOver ∈ wsX8_best := by decide +kernel
theorem lk_X8_best_eX7_bestMove : Cond.selects RX7 yX7_bestMove yX7_bestMove ∈ wsX8_best := by decide +kernel
theorem lk_X8_best_f12 : Cond.fieldLink RX8 12 "PoisonPiles" "now" "LPoisonPiles$Game;" ∈ wsX8_best := by decide +kernel
theorem lk_X8_best_f38 : Cond.fieldLink RX8 38 "PoisonPiles" "solver" "LPoisonPiles$Solver;" ∈ wsX8_best := by decide +kernel
theorem lk_X8_best_iX0 : Cond.initialized RX0 ∈ wsX8_best := by decide +kernel
theorem lk_X8_best_iX7 : Cond.initialized RX7 ∈ wsX8_best := by decide +kernel
theorem lk_X8_best_mX0_isOver : Cond.instanceMethod yX0_isOver ∈ wsX8_best := by decide +kernel
theorem lk_X8_best_mX7_bestMove : Cond.instanceMethod yX7_bestMove ∈ wsX8_best := by decide +kernel
def fX8_best   (X : XM) : Option (Int32 × XM) := zi (fX0_isOver 0 X) (fun r_2 X_1 => if r_2 = 0 then zi (fX7_bestMove 0 X_1) (fun r_6 X_5 => some (r_6, X_5)) else some ((-5), X_1))
set_option maxHeartbeats 4000000 in
set_option maxRecDepth 100000 in
theorem mX8_best (l : Launch) (D : va_G) (L : Nat → Nat) (ac : Nat → ClassId) (hL : LL L) (X : XM)  (r0 : Int32) (X0 : XM) (hf : fX8_best  X = some (r0, X0)) : Ci l yX8_best wsX8_best ({ frames := 65, cells := 0, slots := 0, locals := 1983 }) D L ac X [.ref (L 0)] r0 X0 := by
  refine Met.ofK (cc := cX8_best) (maxL := 1) (ret := (some .int)) (lv := [(0, .ref (L 0))]) (by decide +kernel) rfl (Nat.le_of_ble_eq_true rfl) rfl ?_
  intro p e s m below meth c F hO ls hl
  obtain ⟨hx, hb, hr, hts, hown, hlocks, hml, hK, hN⟩ := id F
  have hA : ∀ q, fr L q → fr L q := fun q h => h
  unfold fX8_best at hf
  refine lv_aload_n hx hb dX8_best_0 rfl (lv_at hl 0 rfl) ?_
  refine k_get (k := 0) (v := .ref (L (aG 0))) hx hb hts in_X8_best_X8 hown hK hO (by decide) rfl rfl (by decide) lk_X8_best_f12 rfl dX8_best_1 ?_
  replace hf := zi_some hf
  obtain ⟨r_2, X_1, hc_1, hf⟩ := hf
  refine k_ai (va_runVN (As := []) (rest := []) ⟨hx, hb, hml, hown, hts⟩ (mX0_isOver l D L ac hL _ 0 (by decide) _ _ hc_1) ⟨va_cnB 0 hts gX8_best_X0_isOver_n143 rfl rfl rfl (hN _ nx_method_X8_143) (hts _ lk_X8_best_iX0) (by decide +kernel) ⟨Nat.le_of_ble_eq_true rfl, Nat.le_of_ble_eq_true rfl⟩, hts _ lk_X8_best_mX0_isOver, hts _ lk_X8_best_eX0_isOver⟩ (k_pv (j := (aG 0)) hK hN hO (aG_lt (by decide)) (cn_G 0) rfl _) rfl rfl hl.1 rfl (lv_room (Nat.le_of_ble_eq_true rfl)) dX8_best_4 ⟨Nat.le_of_ble_eq_true rfl, Nat.le_of_ble_eq_true rfl⟩) hA hO (fun H_3 locs_3 hO_3 => ?_)
  clear hO
  refine lv_if_eq (tgt := 15) hx hb dX8_best_7 (by decide) (fun c_4 => ?_) (fun c_4 => ?_)
  · rw [if_pos c_4] at hf
    subst c_4
    refine lv_aload_n hx hb dX8_best_15 rfl (lv_at hl 0 rfl) ?_
    refine k_get (k := 5) (v := .ref (L 6)) hx hb hts in_X8_best_X8 hown hK hO_3 (by decide) rfl rfl (by decide) lk_X8_best_f38 rfl dX8_best_16 ?_
    refine lv_aload_n hx hb dX8_best_19 rfl (lv_at hl 0 rfl) ?_
    refine k_get (k := 0) (v := .ref (L (aG 0))) hx hb hts in_X8_best_X8 hown hK hO_3 (by decide) rfl rfl (by decide) lk_X8_best_f12 rfl dX8_best_20 ?_
    replace hf := zi_some hf
    obtain ⟨r_6, X_5, hc_5, hf⟩ := hf
    refine k_ai (va_runVN (As := [.ref (L (aG 0))]) (rest := []) ⟨hx, hb, hml, hown, hts⟩ (mX7_bestMove l D L ac hL _ 0 (by decide) _ _ hc_5) ⟨va_cnB 1 hts gX8_best_X7_bestMove_n179 rfl rfl rfl (hN _ nx_method_X8_179) (hts _ lk_X8_best_iX7) (by decide +kernel) ⟨Nat.le_of_ble_eq_true rfl, Nat.le_of_ble_eq_true rfl⟩, hts _ lk_X8_best_mX7_bestMove, hts _ lk_X8_best_eX7_bestMove⟩ (k_pv (j := 6) hK hN hO_3 (by decide) rfl rfl _) rfl rfl hl.1 rfl (lv_room (Nat.le_of_ble_eq_true rfl)) dX8_best_23 ⟨Nat.le_of_ble_eq_true rfl, Nat.le_of_ble_eq_true rfl⟩) hA hO_3 (fun H_7 locs_7 hO_7 => ?_)
    clear hO_3
    obtain ⟨rfl, rfl⟩ := Prod.mk.inj (Option.some.inj hf)
    exact e_i hx hb hr hK hN hO_7 hlocks dX8_best_26
  · rw [if_neg c_4] at hf
    refine lv_bipush (v := (-5)) hx hb dX8_best_10 (by decide) ?_
    refine lv_goto (tgt := 26) hx hb dX8_best_12 (by decide) ?_
    obtain ⟨rfl, rfl⟩ := Prod.mk.inj (Option.some.inj hf)
    exact e_i hx hb hr hK hN hO_3 hlocks dX8_best_26
theorem in_X8_grundy_X0 : ∀ w ∈ u_ws RX0 TX0 10, w ∈ wsX8_grundy := by decide +kernel
theorem in_X8_grundy_X8 : ∀ w ∈ u_ws RX8 TX8 8, w ∈ wsX8_grundy := by decide +kernel
theorem lk_X8_grundy_eX5_nimber : Cond.selects RX5 yX5_nimber yX5_nimber ∈ wsX8_grundy := by decide +kernel
theorem lk_X8_grundy_f12 : Cond.fieldLink RX8 12 "PoisonPiles" "now" "LPoisonPiles$Game;" ∈ wsX8_grundy := by decide +kernel
theorem lk_X8_grundy_f45 : Cond.fieldLink RX8 45 "PoisonPiles" "sizes" "LPoisonPiles$Sizes;" ∈ wsX8_grundy := by decide +kernel
theorem lk_X8_grundy_iX5 : Cond.initialized RX5 ∈ wsX8_grundy := by decide +kernel
theorem lk_X8_grundy_mX5_nimber : Cond.instanceMethod yX5_nimber ∈ wsX8_grundy := by decide +kernel
def fX8_grundy  (a1 : Int32) (X : XM) : Option (Int32 × XM) := if a1 < 0 then some ((-2), X) else if a1 ≤ 200 then zi (fX5_nimber (X 0 0) a1 X) (fun r_4 X_3 => some (r_4, X_3)) else some ((-2), X)
set_option maxHeartbeats 4000000 in
set_option maxRecDepth 100000 in
theorem mX8_grundy (l : Launch) (D : va_G) (L : Nat → Nat) (ac : Nat → ClassId) (hL : LL L) (X : XM) (a1 : Int32) (r0 : Int32) (X0 : XM) (hf : fX8_grundy a1 X = some (r0, X0)) : Ci l yX8_grundy wsX8_grundy ({ frames := 4, cells := 0, slots := 0, locals := 90 }) D L ac X [.ref (L 0), .int a1] r0 X0 := by
  refine Met.ofK (cc := cX8_grundy) (maxL := 2) (ret := (some .int)) (lv := [(0, .ref (L 0)), (1, .int a1)]) (by decide +kernel) rfl (Nat.le_of_ble_eq_true rfl) rfl ?_
  intro p e s m below meth c F hO ls hl
  obtain ⟨hx, hb, hr, hts, hown, hlocks, hml, hK, hN⟩ := id F
  have hA : ∀ q, fr L q → fr L q := fun q h => h
  unfold fX8_grundy at hf
  refine lv_iload_n hx hb dX8_grundy_0 rfl (lv_at hl 1 rfl) ?_
  refine lv_if_lt (tgt := 11) hx hb dX8_grundy_1 (by decide) (fun c_1 => ?_) (fun c_1 => ?_)
  · rw [if_pos c_1] at hf
    refine lv_bipush (v := (-2)) hx hb dX8_grundy_11 (by decide) ?_
    obtain ⟨rfl, rfl⟩ := Prod.mk.inj (Option.some.inj hf)
    exact e_i hx hb hr hK hN hO hlocks dX8_grundy_13
  · rw [if_neg c_1] at hf
    refine lv_iload_n hx hb dX8_grundy_4 rfl (lv_at hl 1 rfl) ?_
    refine lv_sipush (v := 200) hx hb dX8_grundy_5 (by decide) ?_
    refine lv_icmp_le (tgt := 14) hx hb dX8_grundy_8 (by decide) (fun c_2 => ?_) (fun c_2 => ?_)
    · rw [if_pos c_2] at hf
      refine lv_aload_n hx hb dX8_grundy_14 rfl (lv_at hl 0 rfl) ?_
      refine k_get (k := 6) (v := .ref (L 11)) hx hb hts in_X8_grundy_X8 hown hK hO (by decide) rfl rfl (by decide) lk_X8_grundy_f45 rfl dX8_grundy_15 ?_
      refine lv_aload_n hx hb dX8_grundy_18 rfl (lv_at hl 0 rfl) ?_
      refine k_get (k := 0) (v := .ref (L (aG 0))) hx hb hts in_X8_grundy_X8 hown hK hO (by decide) rfl rfl (by decide) lk_X8_grundy_f12 rfl dX8_grundy_19 ?_
      refine k_getN (k := 0) (v := .int (X 0 0)) hx hb hts in_X8_grundy_X0 hown hK hN hO (aG_lt (by decide)) (cn_G 0) rfl (by decide) nx_field_X8_116 rfl dX8_grundy_22 ?_
      refine lv_iload_n hx hb dX8_grundy_25 rfl (lv_at hl 1 rfl) ?_
      replace hf := zi_some hf
      obtain ⟨r_4, X_3, hc_3, hf⟩ := hf
      refine k_ai (va_runVN (As := [.int (X 0 0), .int a1]) (rest := []) ⟨hx, hb, hml, hown, hts⟩ (mX5_nimber l D L ac hL _ (X 0 0) a1 _ _ hc_3) ⟨va_cnB 2 hts gX8_grundy_X5_nimber_n119 rfl rfl rfl (hN _ nx_method_X8_119) (hts _ lk_X8_grundy_iX5) (by decide +kernel) ⟨Nat.le_of_ble_eq_true rfl, Nat.le_of_ble_eq_true rfl⟩, hts _ lk_X8_grundy_mX5_nimber, hts _ lk_X8_grundy_eX5_nimber⟩ (k_pv (j := 11) hK hN hO (by decide) rfl rfl _) rfl rfl hl.1 rfl (lv_room (Nat.le_of_ble_eq_true rfl)) dX8_grundy_26 ⟨Nat.le_of_ble_eq_true rfl, Nat.le_of_ble_eq_true rfl⟩) hA hO (fun H_5 locs_5 hO_5 => ?_)
      clear hO
      obtain ⟨rfl, rfl⟩ := Prod.mk.inj (Option.some.inj hf)
      exact e_i hx hb hr hK hN hO_5 hlocks dX8_grundy_29
    · rw [if_neg c_2] at hf
      refine lv_bipush (v := (-2)) hx hb dX8_grundy_11 (by decide) ?_
      obtain ⟨rfl, rfl⟩ := Prod.mk.inj (Option.some.inj hf)
      exact e_i hx hb hr hK hN hO hlocks dX8_grundy_13
theorem in_X8_undo_X1 : ∀ w ∈ u_ws RX1 TX1 2, w ∈ wsX8_undo := by decide +kernel
theorem in_X8_undo_X8 : ∀ w ∈ u_ws RX8 TX8 8, w ∈ wsX8_undo := by decide +kernel
theorem lk_X8_undo_eX1_takeBack : Cond.selects RX1 yX1_takeBack yX1_takeBack ∈ wsX8_undo := by decide +kernel
theorem lk_X8_undo_f12 : Cond.fieldLink RX8 12 "PoisonPiles" "now" "LPoisonPiles$Game;" ∈ wsX8_undo := by decide +kernel
theorem lk_X8_undo_f25 : Cond.fieldLink RX8 25 "PoisonPiles" "history" "LPoisonPiles$History;" ∈ wsX8_undo := by decide +kernel
theorem lk_X8_undo_iX1 : Cond.initialized RX1 ∈ wsX8_undo := by decide +kernel
theorem lk_X8_undo_mX1_takeBack : Cond.instanceMethod yX1_takeBack ∈ wsX8_undo := by decide +kernel
def fX8_undo   (X : XM) : Option (Int32 × XM) := zi (fX1_takeBack 0 X) (fun r_2 X_1 => if r_2 = 0 then some ((-5), X_1) else some (X_1 11 0, X_1))
set_option maxHeartbeats 4000000 in
set_option maxRecDepth 100000 in
theorem mX8_undo (l : Launch) (D : va_G) (L : Nat → Nat) (ac : Nat → ClassId) (hL : LL L) (X : XM)  (r0 : Int32) (X0 : XM) (hf : fX8_undo  X = some (r0, X0)) : Ci l yX8_undo wsX8_undo ({ frames := 3, cells := 0, slots := 0, locals := 64 }) D L ac X [.ref (L 0)] r0 X0 := by
  refine Met.ofK (cc := cX8_undo) (maxL := 1) (ret := (some .int)) (lv := [(0, .ref (L 0))]) (by decide +kernel) rfl (Nat.le_of_ble_eq_true rfl) rfl ?_
  intro p e s m below meth c F hO ls hl
  obtain ⟨hx, hb, hr, hts, hown, hlocks, hml, hK, hN⟩ := id F
  have hA : ∀ q, fr L q → fr L q := fun q h => h
  unfold fX8_undo at hf
  refine lv_aload_n hx hb dX8_undo_0 rfl (lv_at hl 0 rfl) ?_
  refine k_get (k := 3) (v := .ref (L 1)) hx hb hts in_X8_undo_X8 hown hK hO (by decide) rfl rfl (by decide) lk_X8_undo_f25 rfl dX8_undo_1 ?_
  refine lv_aload_n hx hb dX8_undo_4 rfl (lv_at hl 0 rfl) ?_
  refine k_get (k := 0) (v := .ref (L (aG 0))) hx hb hts in_X8_undo_X8 hown hK hO (by decide) rfl rfl (by decide) lk_X8_undo_f12 rfl dX8_undo_5 ?_
  replace hf := zi_some hf
  obtain ⟨r_2, X_1, hc_1, hf⟩ := hf
  refine k_ai (va_runVN (As := [.ref (L (aG 0))]) (rest := []) ⟨hx, hb, hml, hown, hts⟩ (mX1_takeBack l D L ac hL _ 0 (by decide) _ _ hc_1) ⟨va_cnB 1 hts gX8_undo_X1_takeBack_n209 rfl rfl rfl (hN _ nx_method_X8_209) (hts _ lk_X8_undo_iX1) (by decide +kernel) ⟨Nat.le_of_ble_eq_true rfl, Nat.le_of_ble_eq_true rfl⟩, hts _ lk_X8_undo_mX1_takeBack, hts _ lk_X8_undo_eX1_takeBack⟩ (k_pv (j := 1) hK hN hO (by decide) rfl rfl _) rfl rfl hl.1 rfl (lv_room (Nat.le_of_ble_eq_true rfl)) dX8_undo_8 ⟨Nat.le_of_ble_eq_true rfl, Nat.le_of_ble_eq_true rfl⟩) hA hO (fun H_3 locs_3 hO_3 => ?_)
  clear hO
  refine lv_if_eq (tgt := 24) hx hb dX8_undo_11 (by decide) (fun c_4 => ?_) (fun c_4 => ?_)
  · rw [if_pos c_4] at hf
    subst c_4
    refine lv_bipush (v := (-5)) hx hb dX8_undo_24 (by decide) ?_
    obtain ⟨rfl, rfl⟩ := Prod.mk.inj (Option.some.inj hf)
    exact e_i hx hb hr hK hN hO_3 hlocks dX8_undo_26
  · rw [if_neg c_4] at hf
    refine lv_aload_n hx hb dX8_undo_14 rfl (lv_at hl 0 rfl) ?_
    refine k_get (k := 3) (v := .ref (L 1)) hx hb hts in_X8_undo_X8 hown hK hO_3 (by decide) rfl rfl (by decide) lk_X8_undo_f25 rfl dX8_undo_15 ?_
    refine k_getN (k := 1) (v := .int (X_1 11 0)) hx hb hts in_X8_undo_X1 hown hK hN hO_3 (by decide) rfl rfl (by decide) nx_field_X8_162 rfl dX8_undo_18 ?_
    refine lv_goto (tgt := 26) hx hb dX8_undo_21 (by decide) ?_
    obtain ⟨rfl, rfl⟩ := Prod.mk.inj (Option.some.inj hf)
    exact e_i hx hb hr hK hN hO_3 hlocks dX8_undo_26
theorem in_X8_save_X6 : ∀ w ∈ u_ws RX6 TX6 2, w ∈ wsX8_save := by decide +kernel
theorem in_X8_save_X8 : ∀ w ∈ u_ws RX8 TX8 8, w ∈ wsX8_save := by decide +kernel
theorem lk_X8_save_eX0_copyFrom : Cond.selects RX0 yX0_copyFrom yX0_copyFrom ∈ wsX8_save := by decide +kernel
theorem lk_X8_save_eX0_tokenSum : Cond.selects RX0 yX0_tokenSum yX0_tokenSum ∈ wsX8_save := by decide +kernel
theorem lk_X8_save_f12 : Cond.fieldLink RX8 12 "PoisonPiles" "now" "LPoisonPiles$Game;" ∈ wsX8_save := by decide +kernel
theorem lk_X8_save_f31 : Cond.fieldLink RX8 31 "PoisonPiles" "slots" "[LPoisonPiles$Slot;" ∈ wsX8_save := by decide +kernel
theorem lk_X8_save_iX0 : Cond.initialized RX0 ∈ wsX8_save := by decide +kernel
theorem lk_X8_save_mX0_copyFrom : Cond.instanceMethod yX0_copyFrom ∈ wsX8_save := by decide +kernel
theorem lk_X8_save_mX0_tokenSum : Cond.instanceMethod yX0_tokenSum ∈ wsX8_save := by decide +kernel
def fX8_save  (a1 : Int32) (X : XM) : Option (Int32 × XM) := if a1 < 0 then some ((-2), X) else if a1 < 2 then zd a1 2 (zv (fX0_copyFrom (9 + (Int32.toNatClampNeg a1)) 0 X) (fun X_4 => zd a1 2 (zl (xup X_4 12 (Int32.toNatClampNeg a1) 1) (fun X_7 => zi (fX0_tokenSum 0 X_7) (fun r_10 X_9 => some (r_10, X_9)))))) else some ((-2), X)
set_option maxHeartbeats 4000000 in
set_option maxRecDepth 100000 in
theorem mX8_save (l : Launch) (D : va_G) (L : Nat → Nat) (ac : Nat → ClassId) (hL : LL L) (X : XM) (a1 : Int32) (r0 : Int32) (X0 : XM) (hf : fX8_save a1 X = some (r0, X0)) : Ci l yX8_save wsX8_save ({ frames := 2, cells := 0, slots := 0, locals := 43 }) D L ac X [.ref (L 0), .int a1] r0 X0 := by
  refine Met.ofK (cc := cX8_save) (maxL := 2) (ret := (some .int)) (lv := [(0, .ref (L 0)), (1, .int a1)]) (by decide +kernel) rfl (Nat.le_of_ble_eq_true rfl) rfl ?_
  intro p e s m below meth c F hO ls hl
  obtain ⟨hx, hb, hr, hts, hown, hlocks, hml, hK, hN⟩ := id F
  have hA : ∀ q, fr L q → fr L q := fun q h => h
  unfold fX8_save at hf
  refine lv_iload_n hx hb dX8_save_0 rfl (lv_at hl 1 rfl) ?_
  refine lv_if_lt (tgt := 13) hx hb dX8_save_1 (by decide) (fun c_1 => ?_) (fun c_1 => ?_)
  · rw [if_pos c_1] at hf
    refine lv_bipush (v := (-2)) hx hb dX8_save_13 (by decide) ?_
    obtain ⟨rfl, rfl⟩ := Prod.mk.inj (Option.some.inj hf)
    exact e_i hx hb hr hK hN hO hlocks dX8_save_15
  · rw [if_neg c_1] at hf
    refine lv_iload_n hx hb dX8_save_4 rfl (lv_at hl 1 rfl) ?_
    refine lv_aload_n hx hb dX8_save_5 rfl (lv_at hl 0 rfl) ?_
    refine k_get (k := 4) (v := .ref (L 3)) hx hb hts in_X8_save_X8 hown hK hO (by decide) rfl rfl (by decide) lk_X8_save_f31 rfl dX8_save_6 ?_
    refine k_alen (v := 2) (t := 5) hx hb hK hO (by decide) rfl rfl rfl dX8_save_9 ?_
    refine lv_icmp_lt (tgt := 16) hx hb dX8_save_10 (by decide) (fun c_2 => ?_) (fun c_2 => ?_)
    · rw [if_pos c_2] at hf
      refine lv_aload_n hx hb dX8_save_16 rfl (lv_at hl 0 rfl) ?_
      refine k_get (k := 4) (v := .ref (L 3)) hx hb hts in_X8_save_X8 hown hK hO (by decide) rfl rfl (by decide) lk_X8_save_f31 rfl dX8_save_17 ?_
      refine lv_iload_n hx hb dX8_save_20 rfl (lv_at hl 1 rfl) ?_
      replace hf := zd_some hf
      obtain ⟨hi_3, hf⟩ := hf
      refine k_aald hx hb hK hO (by decide) rfl rfl hi_3 dX8_save_21 ?_
      refine lv_topr (b := L (aS (Int32.toNatClampNeg a1))) rfl ?_
      refine k_getN (k := 0) (v := .ref (L (aG (9 + (Int32.toNatClampNeg a1))))) hx hb hts in_X8_save_X6 hown hK hN hO (aS_lt (vp_lt hi_3)) (cn_S (Int32.toNatClampNeg a1) (vp_lt hi_3)) rfl (by decide) nx_field_X8_212 rfl dX8_save_22 ?_
      refine lv_aload_n hx hb dX8_save_25 rfl (lv_at hl 0 rfl) ?_
      refine k_get (k := 0) (v := .ref (L (aG 0))) hx hb hts in_X8_save_X8 hown hK hO (by decide) rfl rfl (by decide) lk_X8_save_f12 rfl dX8_save_26 ?_
      replace hf := zv_some hf
      obtain ⟨X_4, hc_4, hf⟩ := hf
      refine k_av (va_runVN (As := [.ref (L (aG 0))]) (rest := []) ⟨hx, hb, hml, hown, hts⟩ (mX0_copyFrom l D L ac hL _ (9 + (Int32.toNatClampNeg a1)) (by have := (vp_lt hi_3); omega) 0 (by decide) _ hc_4) ⟨va_cnB 1 hts gX8_save_X0_copyFrom_n57 rfl rfl rfl (hN _ nx_method_X8_57) (hts _ lk_X8_save_iX0) (by decide +kernel) ⟨Nat.le_of_ble_eq_true rfl, Nat.le_of_ble_eq_true rfl⟩, hts _ lk_X8_save_mX0_copyFrom, hts _ lk_X8_save_eX0_copyFrom⟩ (k_pv (j := (aG (9 + (Int32.toNatClampNeg a1)))) hK hN hO (aG_lt (by have := (vp_lt hi_3); omega)) (cn_G (9 + (Int32.toNatClampNeg a1))) rfl _) rfl rfl hl.1 rfl (lv_room (Nat.le_of_ble_eq_true rfl)) dX8_save_29 ⟨Nat.le_of_ble_eq_true rfl, Nat.le_of_ble_eq_true rfl⟩) hA hO (fun H_5 locs_5 hO_5 => ?_)
      clear hO
      refine lv_aload_n hx hb dX8_save_32 rfl (lv_at hl 0 rfl) ?_
      refine k_get (k := 4) (v := .ref (L 3)) hx hb hts in_X8_save_X8 hown hK hO_5 (by decide) rfl rfl (by decide) lk_X8_save_f31 rfl dX8_save_33 ?_
      refine lv_iload_n hx hb dX8_save_36 rfl (lv_at hl 1 rfl) ?_
      replace hf := zd_some hf
      obtain ⟨hi_6, hf⟩ := hf
      refine k_aald hx hb hK hO_5 (by decide) rfl rfl hi_6 dX8_save_37 ?_
      refine lv_topr (b := L (aS (Int32.toNatClampNeg a1))) rfl ?_
      refine lv_iconst (v := 1) hx hb dX8_save_38 (by decide) ?_
      refine k_putN (ty := .boolean) (k := 1) (r := 12) (k' := Int32.toNatClampNeg a1) hx hb tyX6 tyX6_ok nmX6 hts in_X8_save_X6 hown hK hN hL hA hO_5 (aS_lt (vp_lt hi_6)) rfl (by omega) (fun Y => (cn_S (Int32.toNatClampNeg a1) (vp_lt hi_6))) (pf_S (Int32.toNatClampNeg a1)) rfl (by decide) nx_field_X8_215 rfl (by decide +kernel) (bo_n (by decide)) (bo_f (by decide)) (Nat.le_of_ble_eq_true rfl) dX8_save_39 (fun H_8 locs_8 hO_8 => ?_)
      replace hf := zl_some hf
      obtain ⟨X_7, hX_7, hf⟩ := hf
      have hQ_8 := zo_eq hX_7 hO_8
      clear hO_8 hO_5
      refine lv_aload_n hx hb dX8_save_42 rfl (lv_at hl 0 rfl) ?_
      refine k_get (k := 0) (v := .ref (L (aG 0))) hx hb hts in_X8_save_X8 hown hK hQ_8 (by decide) rfl rfl (by decide) lk_X8_save_f12 rfl dX8_save_43 ?_
      replace hf := zi_some hf
      obtain ⟨r_10, X_9, hc_9, hf⟩ := hf
      refine k_ai (va_runVN (As := []) (rest := []) ⟨hx, hb, hml, hown, hts⟩ (mX0_tokenSum l D L ac hL _ 0 (by decide) _ _ hc_9) ⟨va_cnB 0 hts gX8_save_X0_tokenSum_n79 rfl rfl rfl (hN _ nx_method_X8_79) (hts _ lk_X8_save_iX0) (by decide +kernel) ⟨Nat.le_of_ble_eq_true rfl, Nat.le_of_ble_eq_true rfl⟩, hts _ lk_X8_save_mX0_tokenSum, hts _ lk_X8_save_eX0_tokenSum⟩ (k_pv (j := (aG 0)) hK hN hQ_8 (aG_lt (by decide)) (cn_G 0) rfl _) rfl rfl hl.1 rfl (lv_room (Nat.le_of_ble_eq_true rfl)) dX8_save_46 ⟨Nat.le_of_ble_eq_true rfl, Nat.le_of_ble_eq_true rfl⟩) hA hQ_8 (fun H_11 locs_11 hO_11 => ?_)
      clear hQ_8
      obtain ⟨rfl, rfl⟩ := Prod.mk.inj (Option.some.inj hf)
      exact e_i hx hb hr hK hN hO_11 hlocks dX8_save_49
    · rw [if_neg c_2] at hf
      refine lv_bipush (v := (-2)) hx hb dX8_save_13 (by decide) ?_
      obtain ⟨rfl, rfl⟩ := Prod.mk.inj (Option.some.inj hf)
      exact e_i hx hb hr hK hN hO hlocks dX8_save_15
theorem in_X8_restore_X6 : ∀ w ∈ u_ws RX6 TX6 2, w ∈ wsX8_restore := by decide +kernel
theorem in_X8_restore_X8 : ∀ w ∈ u_ws RX8 TX8 8, w ∈ wsX8_restore := by decide +kernel
theorem lk_X8_restore_eX0_copyFrom : Cond.selects RX0 yX0_copyFrom yX0_copyFrom ∈ wsX8_restore := by decide +kernel
theorem lk_X8_restore_eX0_tokenSum : Cond.selects RX0 yX0_tokenSum yX0_tokenSum ∈ wsX8_restore := by decide +kernel
theorem lk_X8_restore_f12 : Cond.fieldLink RX8 12 "PoisonPiles" "now" "LPoisonPiles$Game;" ∈ wsX8_restore := by decide +kernel
theorem lk_X8_restore_f16 : Cond.fieldLink RX8 16 "PoisonPiles" "before" "LPoisonPiles$Game;" ∈ wsX8_restore := by decide +kernel
theorem lk_X8_restore_f31 : Cond.fieldLink RX8 31 "PoisonPiles" "slots" "[LPoisonPiles$Slot;" ∈ wsX8_restore := by decide +kernel
theorem lk_X8_restore_iX0 : Cond.initialized RX0 ∈ wsX8_restore := by decide +kernel
theorem lk_X8_restore_mX0_copyFrom : Cond.instanceMethod yX0_copyFrom ∈ wsX8_restore := by decide +kernel
theorem lk_X8_restore_mX0_tokenSum : Cond.instanceMethod yX0_tokenSum ∈ wsX8_restore := by decide +kernel
def fX8_restore  (a1 : Int32) (X : XM) : Option (Int32 × XM) := if a1 < 0 then some ((-2), X) else if a1 < 2 then zd a1 2 (if (X 12 (Int32.toNatClampNeg a1)) = 0 then some ((-5), X) else zv (fX0_copyFrom 1 0 X) (fun X_5 => zd a1 2 (zv (fX0_copyFrom 0 (9 + (Int32.toNatClampNeg a1)) X_5) (fun X_8 => zi (fX0_tokenSum 0 X_8) (fun r_11 X_10 => zi (fX8_recorded r_11 X_10) (fun r_14 X_13 => some (r_14, X_13))))))) else some ((-2), X)
set_option maxHeartbeats 4000000 in
set_option maxRecDepth 100000 in
theorem mX8_restore (l : Launch) (D : va_G) (L : Nat → Nat) (ac : Nat → ClassId) (hL : LL L) (X : XM) (a1 : Int32) (r0 : Int32) (X0 : XM) (hf : fX8_restore a1 X = some (r0, X0)) : Ci l yX8_restore wsX8_restore ({ frames := 4, cells := 0, slots := 0, locals := 85 }) D L ac X [.ref (L 0), .int a1] r0 X0 := by
  refine Met.ofK (cc := cX8_restore) (maxL := 2) (ret := (some .int)) (lv := [(0, .ref (L 0)), (1, .int a1)]) (by decide +kernel) rfl (Nat.le_of_ble_eq_true rfl) rfl ?_
  intro p e s m below meth c F hO ls hl
  obtain ⟨hx, hb, hr, hts, hown, hlocks, hml, hK, hN⟩ := id F
  have hA : ∀ q, fr L q → fr L q := fun q h => h
  unfold fX8_restore at hf
  refine lv_iload_n hx hb dX8_restore_0 rfl (lv_at hl 1 rfl) ?_
  refine lv_if_lt (tgt := 13) hx hb dX8_restore_1 (by decide) (fun c_1 => ?_) (fun c_1 => ?_)
  · rw [if_pos c_1] at hf
    refine lv_bipush (v := (-2)) hx hb dX8_restore_13 (by decide) ?_
    obtain ⟨rfl, rfl⟩ := Prod.mk.inj (Option.some.inj hf)
    exact e_i hx hb hr hK hN hO hlocks dX8_restore_15
  · rw [if_neg c_1] at hf
    refine lv_iload_n hx hb dX8_restore_4 rfl (lv_at hl 1 rfl) ?_
    refine lv_aload_n hx hb dX8_restore_5 rfl (lv_at hl 0 rfl) ?_
    refine k_get (k := 4) (v := .ref (L 3)) hx hb hts in_X8_restore_X8 hown hK hO (by decide) rfl rfl (by decide) lk_X8_restore_f31 rfl dX8_restore_6 ?_
    refine k_alen (v := 2) (t := 5) hx hb hK hO (by decide) rfl rfl rfl dX8_restore_9 ?_
    refine lv_icmp_lt (tgt := 16) hx hb dX8_restore_10 (by decide) (fun c_2 => ?_) (fun c_2 => ?_)
    · rw [if_pos c_2] at hf
      refine lv_aload_n hx hb dX8_restore_16 rfl (lv_at hl 0 rfl) ?_
      refine k_get (k := 4) (v := .ref (L 3)) hx hb hts in_X8_restore_X8 hown hK hO (by decide) rfl rfl (by decide) lk_X8_restore_f31 rfl dX8_restore_17 ?_
      refine lv_iload_n hx hb dX8_restore_20 rfl (lv_at hl 1 rfl) ?_
      replace hf := zd_some hf
      obtain ⟨hi_3, hf⟩ := hf
      refine k_aald hx hb hK hO (by decide) rfl rfl hi_3 dX8_restore_21 ?_
      refine lv_topr (b := L (aS (Int32.toNatClampNeg a1))) rfl ?_
      refine k_getN (k := 1) (v := .int (X 12 (Int32.toNatClampNeg a1))) hx hb hts in_X8_restore_X6 hown hK hN hO (aS_lt (vp_lt hi_3)) (cn_S (Int32.toNatClampNeg a1) (vp_lt hi_3)) rfl (by decide) nx_field_X8_215 rfl dX8_restore_22 ?_
      refine lv_if_ne (tgt := 31) hx hb dX8_restore_25 (by decide) (fun c_4 => ?_) (fun c_4 => ?_)
      · rw [if_neg c_4] at hf
        refine lv_aload_n hx hb dX8_restore_31 rfl (lv_at hl 0 rfl) ?_
        refine k_get (k := 1) (v := .ref (L (aG 1))) hx hb hts in_X8_restore_X8 hown hK hO (by decide) rfl rfl (by decide) lk_X8_restore_f16 rfl dX8_restore_32 ?_
        refine lv_aload_n hx hb dX8_restore_35 rfl (lv_at hl 0 rfl) ?_
        refine k_get (k := 0) (v := .ref (L (aG 0))) hx hb hts in_X8_restore_X8 hown hK hO (by decide) rfl rfl (by decide) lk_X8_restore_f12 rfl dX8_restore_36 ?_
        replace hf := zv_some hf
        obtain ⟨X_5, hc_5, hf⟩ := hf
        refine k_av (va_runVN (As := [.ref (L (aG 0))]) (rest := []) ⟨hx, hb, hml, hown, hts⟩ (mX0_copyFrom l D L ac hL _ 1 (by decide) 0 (by decide) _ hc_5) ⟨va_cnB 1 hts gX8_restore_X0_copyFrom_n57 rfl rfl rfl (hN _ nx_method_X8_57) (hts _ lk_X8_restore_iX0) (by decide +kernel) ⟨Nat.le_of_ble_eq_true rfl, Nat.le_of_ble_eq_true rfl⟩, hts _ lk_X8_restore_mX0_copyFrom, hts _ lk_X8_restore_eX0_copyFrom⟩ (k_pv (j := (aG 1)) hK hN hO (aG_lt (by decide)) (cn_G 1) rfl _) rfl rfl hl.1 rfl (lv_room (Nat.le_of_ble_eq_true rfl)) dX8_restore_39 ⟨Nat.le_of_ble_eq_true rfl, Nat.le_of_ble_eq_true rfl⟩) hA hO (fun H_6 locs_6 hO_6 => ?_)
        clear hO
        refine lv_aload_n hx hb dX8_restore_42 rfl (lv_at hl 0 rfl) ?_
        refine k_get (k := 0) (v := .ref (L (aG 0))) hx hb hts in_X8_restore_X8 hown hK hO_6 (by decide) rfl rfl (by decide) lk_X8_restore_f12 rfl dX8_restore_43 ?_
        refine lv_aload_n hx hb dX8_restore_46 rfl (lv_at hl 0 rfl) ?_
        refine k_get (k := 4) (v := .ref (L 3)) hx hb hts in_X8_restore_X8 hown hK hO_6 (by decide) rfl rfl (by decide) lk_X8_restore_f31 rfl dX8_restore_47 ?_
        refine lv_iload_n hx hb dX8_restore_50 rfl (lv_at hl 1 rfl) ?_
        replace hf := zd_some hf
        obtain ⟨hi_7, hf⟩ := hf
        refine k_aald hx hb hK hO_6 (by decide) rfl rfl hi_7 dX8_restore_51 ?_
        refine lv_topr (b := L (aS (Int32.toNatClampNeg a1))) rfl ?_
        refine k_getN (k := 0) (v := .ref (L (aG (9 + (Int32.toNatClampNeg a1))))) hx hb hts in_X8_restore_X6 hown hK hN hO_6 (aS_lt (vp_lt hi_7)) (cn_S (Int32.toNatClampNeg a1) (vp_lt hi_7)) rfl (by decide) nx_field_X8_212 rfl dX8_restore_52 ?_
        replace hf := zv_some hf
        obtain ⟨X_8, hc_8, hf⟩ := hf
        refine k_av (va_runVN (As := [.ref (L (aG (9 + (Int32.toNatClampNeg a1))))]) (rest := []) ⟨hx, hb, hml, hown, hts⟩ (mX0_copyFrom l D L ac hL _ 0 (by decide) (9 + (Int32.toNatClampNeg a1)) (by have := (vp_lt hi_7); omega) _ hc_8) ⟨va_cnB 1 hts gX8_restore_X0_copyFrom_n57 rfl rfl rfl (hN _ nx_method_X8_57) (hts _ lk_X8_restore_iX0) (by decide +kernel) ⟨Nat.le_of_ble_eq_true rfl, Nat.le_of_ble_eq_true rfl⟩, hts _ lk_X8_restore_mX0_copyFrom, hts _ lk_X8_restore_eX0_copyFrom⟩ (k_pv (j := (aG 0)) hK hN hO_6 (aG_lt (by decide)) (cn_G 0) rfl _) rfl rfl hl.1 rfl (lv_room (Nat.le_of_ble_eq_true rfl)) dX8_restore_55 ⟨Nat.le_of_ble_eq_true rfl, Nat.le_of_ble_eq_true rfl⟩) hA hO_6 (fun H_9 locs_9 hO_9 => ?_)
        clear hO_6
        refine lv_aload_n hx hb dX8_restore_58 rfl (lv_at hl 0 rfl) ?_
        refine lv_aload_n hx hb dX8_restore_59 rfl (lv_at hl 0 rfl) ?_
        refine k_get (k := 0) (v := .ref (L (aG 0))) hx hb hts in_X8_restore_X8 hown hK hO_9 (by decide) rfl rfl (by decide) lk_X8_restore_f12 rfl dX8_restore_60 ?_
        replace hf := zi_some hf
        obtain ⟨r_11, X_10, hc_10, hf⟩ := hf
        refine k_ai (va_runVN (As := []) (rest := [.ref (L 0)]) ⟨hx, hb, hml, hown, hts⟩ (mX0_tokenSum l D L ac hL _ 0 (by decide) _ _ hc_10) ⟨va_cnB 0 hts gX8_restore_X0_tokenSum_n79 rfl rfl rfl (hN _ nx_method_X8_79) (hts _ lk_X8_restore_iX0) (by decide +kernel) ⟨Nat.le_of_ble_eq_true rfl, Nat.le_of_ble_eq_true rfl⟩, hts _ lk_X8_restore_mX0_tokenSum, hts _ lk_X8_restore_eX0_tokenSum⟩ (k_pv (j := (aG 0)) hK hN hO_9 (aG_lt (by decide)) (cn_G 0) rfl _) rfl rfl hl.1 rfl (lv_room (Nat.le_of_ble_eq_true rfl)) dX8_restore_63 ⟨Nat.le_of_ble_eq_true rfl, Nat.le_of_ble_eq_true rfl⟩) hA hO_9 (fun H_12 locs_12 hO_12 => ?_)
        clear hO_9
        replace hf := zi_some hf
        obtain ⟨r_14, X_13, hc_13, hf⟩ := hf
        refine k_ai (va_runV (As := [.int r_11]) (rest := []) ⟨hx, hb, hml, hown, hts⟩ (mX8_recorded l D L ac hL _ r_11 _ _ hc_13) (cwV 1 hts gX8_restore_X8_recorded rfl rfl rfl (by decide +kernel) ⟨Nat.le_of_ble_eq_true rfl, Nat.le_of_ble_eq_true rfl⟩) (k_pv (j := 0) hK hN hO_12 (by decide) rfl rfl _) rfl rfl hl.1 rfl (lv_room (Nat.le_of_ble_eq_true rfl)) dX8_restore_66 ⟨Nat.le_of_ble_eq_true rfl, Nat.le_of_ble_eq_true rfl⟩) hA hO_12 (fun H_15 locs_15 hO_15 => ?_)
        clear hO_12
        obtain ⟨rfl, rfl⟩ := Prod.mk.inj (Option.some.inj hf)
        exact e_i hx hb hr hK hN hO_15 hlocks dX8_restore_69
      · rw [if_pos c_4] at hf
        refine lv_bipush (v := (-5)) hx hb dX8_restore_28 (by decide) ?_
        obtain ⟨rfl, rfl⟩ := Prod.mk.inj (Option.some.inj hf)
        exact e_i hx hb hr hK hN hO hlocks dX8_restore_30
    · rw [if_neg c_2] at hf
      refine lv_bipush (v := (-2)) hx hb dX8_restore_13 (by decide) ?_
      obtain ⟨rfl, rfl⟩ := Prod.mk.inj (Option.some.inj hf)
      exact e_i hx hb hr hK hN hO hlocks dX8_restore_15
