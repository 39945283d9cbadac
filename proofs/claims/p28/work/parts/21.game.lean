theorem nx_field_X0_58 : Cond.fieldLinkNest "PoisonPiles$Game" 58 "PoisonPiles$Pile" "came" "I" "PoisonPiles" ∈ nxW := List.mem_of_getElem? (i := 11) rfl
theorem nx_field_X0_61 : Cond.fieldLinkNest "PoisonPiles$Game" 61 "PoisonPiles$Pile" "tokens" "I" "PoisonPiles" ∈ nxW := List.mem_of_getElem? (i := 8) rfl
theorem nx_field_X0_64 : Cond.fieldLinkNest "PoisonPiles$Game" 64 "PoisonPiles$Player" "gains" "I" "PoisonPiles" ∈ nxW := List.mem_of_getElem? (i := 2) rfl
theorem nx_field_X0_75 : Cond.fieldLinkNest "PoisonPiles$Game" 75 "PoisonPiles$Player" "passesLeft" "I" "PoisonPiles" ∈ nxW := List.mem_of_getElem? (i := 5) rfl
theorem nx_field_X0_101 : Cond.fieldLinkNest "PoisonPiles$Game" 101 "PoisonPiles$Pile" "worth" "I" "PoisonPiles" ∈ nxW := List.mem_of_getElem? (i := 15) rfl
theorem nx_field_X0_104 : Cond.fieldLinkNest "PoisonPiles$Game" 104 "PoisonPiles$Pile" "poisoned" "Z" "PoisonPiles" ∈ nxW := List.mem_of_getElem? (i := 18) rfl
theorem nx_method_X0_35 : Cond.methodLinkNest "PoisonPiles$Game" 35 ⟨"PoisonPiles$Pile", "copyFrom", "(LPoisonPiles$Pile;)V"⟩ "PoisonPiles" ∈ nxW := List.mem_of_getElem? (i := 50) rfl
theorem nx_method_X0_42 : Cond.methodLinkNest "PoisonPiles$Game" 42 ⟨"PoisonPiles$Player", "copyFrom", "(LPoisonPiles$Player;)V"⟩ "PoisonPiles" ∈ nxW := List.mem_of_getElem? (i := 51) rfl
theorem nx_method_X0_67 : Cond.methodLinkNest "PoisonPiles$Game" 67 ⟨"PoisonPiles", "takesOutOf", "(III)I"⟩ "PoisonPiles" ∈ nxW := List.mem_of_getElem? (i := 46) rfl
theorem nx_method_X0_86 : Cond.methodLinkNest "PoisonPiles$Game" 86 ⟨"PoisonPiles", "isIn", "(II)Z"⟩ "PoisonPiles" ∈ nxW := List.mem_of_getElem? (i := 63) rfl
theorem in_X0_tokenSum_X0 : ∀ w ∈ u_ws RX0 TX0 10, w ∈ wsX0_tokenSum := by decide +kernel
theorem in_X0_tokenSum_X3 : ∀ w ∈ u_ws RX3 TX3 4, w ∈ wsX0_tokenSum := by decide +kernel
theorem lk_X0_tokenSum_f20 : Cond.fieldLink RX0 20 "PoisonPiles$Game" "piles" "[LPoisonPiles$Pile;" ∈ wsX0_tokenSum := by decide +kernel
def fX0_tokenSum  (g : Nat) (X : XM) : Option (Int32 × XM) := zl (0 + (X g 11)) (fun v_7 => zl (v_7 + (X g 15)) (fun v_12 => zl (v_12 + (X g 19)) (fun v_17 => zl (v_17 + (X g 23)) (fun v_22 => some (v_22, X)))))
set_option maxHeartbeats 4000000 in
set_option maxRecDepth 100000 in
theorem mX0_tokenSum (l : Launch) (D : va_G) (L : Nat → Nat) (ac : Nat → ClassId) (hL : LL L) (X : XM) (g : Nat) (hg : g < 11) (r0 : Int32) (X0 : XM) (hf : fX0_tokenSum g X = some (r0, X0)) : Ci l yX0_tokenSum wsX0_tokenSum ({ frames := 0, cells := 0, slots := 0, locals := 0 }) D L ac X [.ref (L (aG g))] r0 X0 := by
  refine Met.ofK (cc := cX0_tokenSum) (maxL := 6) (ret := (some .int)) (lv := [(0, .ref (L (aG g)))]) (by decide +kernel) rfl (Nat.le_of_ble_eq_true rfl) rfl ?_
  intro p e s m below meth c F hO ls hl
  obtain ⟨hx, hb, hr, hts, hown, hlocks, hml, hK, hN⟩ := id F
  have hA : ∀ q, fr L q → fr L q := fun q h => h
  unfold fX0_tokenSum at hf
  refine lv_iconst (v := 0) hx hb dX0_tokenSum_0 (by decide) ?_
  refine lv_istore_n (lv' := [(1, .int 0), (0, .ref (L (aG g)))]) hx hb dX0_tokenSum_1 rfl hl (by decide) rfl (fun ls_1 hl_1 => ?_)
  clear hl
  refine lv_aload_n hx hb dX0_tokenSum_2 rfl (lv_at hl_1 1 rfl) ?_
  refine k_get (k := 2) (v := .ref (L (aA g))) hx hb hts in_X0_tokenSum_X0 hown hK hO (aG_lt hg) (cn_G g) rfl (by decide) lk_X0_tokenSum_f20 rfl dX0_tokenSum_3 ?_
  refine lv_astore_n (lv' := [(2, .ref (L (aA g))), (1, .int 0), (0, .ref (L (aG g)))]) hx hb dX0_tokenSum_6 rfl hl_1 (by decide) rfl (fun ls_2 hl_2 => ?_)
  clear hl_1
  refine lv_aload_n hx hb dX0_tokenSum_7 rfl (lv_at hl_2 0 rfl) ?_
  refine k_alen (v := 4) (t := 3) hx hb hK hO (aA_lt hg) (ct_A g) rfl rfl dX0_tokenSum_8 ?_
  refine lv_istore_n (lv' := [(3, .int 4), (2, .ref (L (aA g))), (1, .int 0), (0, .ref (L (aG g)))]) hx hb dX0_tokenSum_9 rfl hl_2 (by decide) rfl (fun ls_3 hl_3 => ?_)
  clear hl_2
  refine lv_iconst (v := 0) hx hb dX0_tokenSum_10 (by decide) ?_
  refine lv_istore (lv' := [(4, .int 0), (3, .int 4), (2, .ref (L (aA g))), (1, .int 0), (0, .ref (L (aG g)))]) hx hb dX0_tokenSum_11 hl_3 (by decide) rfl (fun ls_4 hl_4 => ?_)
  clear hl_3
  refine lv_iload hx hb dX0_tokenSum_13 (lv_at hl_4 0 rfl) ?_
  refine lv_iload_n hx hb dX0_tokenSum_15 rfl (lv_at hl_4 1 rfl) ?_
  refine lv_icmp_ge (tgt := 39) hx hb dX0_tokenSum_16 (by decide) (fun c_5 => absurd c_5 (by decide)) (fun _ => ?_)
  refine lv_aload_n hx hb dX0_tokenSum_19 rfl (lv_at hl_4 2 rfl) ?_
  refine lv_iload hx hb dX0_tokenSum_20 (lv_at hl_4 0 rfl) ?_
  refine k_aald hx hb hK hO (aA_lt hg) (ct_A g) rfl (show vp_in 0 4 from by unfold vp_in; decide) dX0_tokenSum_22 ?_
  refine lv_topr (b := L (aP g 0)) rfl ?_
  refine lv_astore (lv' := [(5, .ref (L (aP g 0))), (4, .int 0), (3, .int 4), (2, .ref (L (aA g))), (1, .int 0), (0, .ref (L (aG g)))]) hx hb dX0_tokenSum_23 hl_4 (by decide) rfl (fun ls_6 hl_6 => ?_)
  clear hl_4
  refine lv_iload_n hx hb dX0_tokenSum_25 rfl (lv_at hl_6 4 rfl) ?_
  refine lv_aload hx hb dX0_tokenSum_26 (lv_at hl_6 0 rfl) ?_
  refine k_getN (k := 0) (v := .int (X g 11)) hx hb hts in_X0_tokenSum_X3 hown hK hN hO (aP_lt hg (by decide)) (cn_P g 0 (by decide)) rfl (by decide) nx_field_X0_61 rfl dX0_tokenSum_28 ?_
  refine lv_iadd hx hb dX0_tokenSum_31 ?_
  replace hf := zl_some hf
  obtain ⟨v_7, hv_7, hf⟩ := hf
  refine lv_tope hv_7 ?_
  refine lv_istore_n (lv' := [(1, .int v_7), (5, .ref (L (aP g 0))), (4, .int 0), (3, .int 4), (2, .ref (L (aA g))), (0, .ref (L (aG g)))]) hx hb dX0_tokenSum_32 rfl hl_6 (by decide) rfl (fun ls_8 hl_8 => ?_)
  clear hl_6
  refine lv_iinc (v := 1) (lv' := [(4, .int 1), (1, .int v_7), (5, .ref (L (aP g 0))), (3, .int 4), (2, .ref (L (aA g))), (0, .ref (L (aG g)))]) hx hb dX0_tokenSum_33 hl_8 (k := 2) rfl (by decide) (by decide) rfl (fun ls_9 hl_9 => ?_)
  clear hl_8
  refine lv_goto (tgt := 13) hx hb dX0_tokenSum_36 (by decide) ?_
  refine lv_iload hx hb dX0_tokenSum_13 (lv_at hl_9 0 rfl) ?_
  refine lv_iload_n hx hb dX0_tokenSum_15 rfl (lv_at hl_9 3 rfl) ?_
  refine lv_icmp_ge (tgt := 39) hx hb dX0_tokenSum_16 (by decide) (fun c_10 => absurd c_10 (by decide)) (fun _ => ?_)
  refine lv_aload_n hx hb dX0_tokenSum_19 rfl (lv_at hl_9 4 rfl) ?_
  refine lv_iload hx hb dX0_tokenSum_20 (lv_at hl_9 0 rfl) ?_
  refine k_aald hx hb hK hO (aA_lt hg) (ct_A g) rfl (show vp_in 1 4 from by unfold vp_in; decide) dX0_tokenSum_22 ?_
  refine lv_topr (b := L (aP g 1)) rfl ?_
  refine lv_astore (lv' := [(5, .ref (L (aP g 1))), (4, .int 1), (1, .int v_7), (3, .int 4), (2, .ref (L (aA g))), (0, .ref (L (aG g)))]) hx hb dX0_tokenSum_23 hl_9 (by decide) rfl (fun ls_11 hl_11 => ?_)
  clear hl_9
  refine lv_iload_n hx hb dX0_tokenSum_25 rfl (lv_at hl_11 2 rfl) ?_
  refine lv_aload hx hb dX0_tokenSum_26 (lv_at hl_11 0 rfl) ?_
  refine k_getN (k := 0) (v := .int (X g 15)) hx hb hts in_X0_tokenSum_X3 hown hK hN hO (aP_lt hg (by decide)) (cn_P g 1 (by decide)) rfl (by decide) nx_field_X0_61 rfl dX0_tokenSum_28 ?_
  refine lv_iadd hx hb dX0_tokenSum_31 ?_
  replace hf := zl_some hf
  obtain ⟨v_12, hv_12, hf⟩ := hf
  refine lv_tope hv_12 ?_
  refine lv_istore_n (lv' := [(1, .int v_12), (5, .ref (L (aP g 1))), (4, .int 1), (3, .int 4), (2, .ref (L (aA g))), (0, .ref (L (aG g)))]) hx hb dX0_tokenSum_32 rfl hl_11 (by decide) rfl (fun ls_13 hl_13 => ?_)
  clear hl_11
  refine lv_iinc (v := 2) (lv' := [(4, .int 2), (1, .int v_12), (5, .ref (L (aP g 1))), (3, .int 4), (2, .ref (L (aA g))), (0, .ref (L (aG g)))]) hx hb dX0_tokenSum_33 hl_13 (k := 2) rfl (by decide) (by decide) rfl (fun ls_14 hl_14 => ?_)
  clear hl_13
  refine lv_goto (tgt := 13) hx hb dX0_tokenSum_36 (by decide) ?_
  refine lv_iload hx hb dX0_tokenSum_13 (lv_at hl_14 0 rfl) ?_
  refine lv_iload_n hx hb dX0_tokenSum_15 rfl (lv_at hl_14 3 rfl) ?_
  refine lv_icmp_ge (tgt := 39) hx hb dX0_tokenSum_16 (by decide) (fun c_15 => absurd c_15 (by decide)) (fun _ => ?_)
  refine lv_aload_n hx hb dX0_tokenSum_19 rfl (lv_at hl_14 4 rfl) ?_
  refine lv_iload hx hb dX0_tokenSum_20 (lv_at hl_14 0 rfl) ?_
  refine k_aald hx hb hK hO (aA_lt hg) (ct_A g) rfl (show vp_in 2 4 from by unfold vp_in; decide) dX0_tokenSum_22 ?_
  refine lv_topr (b := L (aP g 2)) rfl ?_
  refine lv_astore (lv' := [(5, .ref (L (aP g 2))), (4, .int 2), (1, .int v_12), (3, .int 4), (2, .ref (L (aA g))), (0, .ref (L (aG g)))]) hx hb dX0_tokenSum_23 hl_14 (by decide) rfl (fun ls_16 hl_16 => ?_)
  clear hl_14
  refine lv_iload_n hx hb dX0_tokenSum_25 rfl (lv_at hl_16 2 rfl) ?_
  refine lv_aload hx hb dX0_tokenSum_26 (lv_at hl_16 0 rfl) ?_
  refine k_getN (k := 0) (v := .int (X g 19)) hx hb hts in_X0_tokenSum_X3 hown hK hN hO (aP_lt hg (by decide)) (cn_P g 2 (by decide)) rfl (by decide) nx_field_X0_61 rfl dX0_tokenSum_28 ?_
  refine lv_iadd hx hb dX0_tokenSum_31 ?_
  replace hf := zl_some hf
  obtain ⟨v_17, hv_17, hf⟩ := hf
  refine lv_tope hv_17 ?_
  refine lv_istore_n (lv' := [(1, .int v_17), (5, .ref (L (aP g 2))), (4, .int 2), (3, .int 4), (2, .ref (L (aA g))), (0, .ref (L (aG g)))]) hx hb dX0_tokenSum_32 rfl hl_16 (by decide) rfl (fun ls_18 hl_18 => ?_)
  clear hl_16
  refine lv_iinc (v := 3) (lv' := [(4, .int 3), (1, .int v_17), (5, .ref (L (aP g 2))), (3, .int 4), (2, .ref (L (aA g))), (0, .ref (L (aG g)))]) hx hb dX0_tokenSum_33 hl_18 (k := 2) rfl (by decide) (by decide) rfl (fun ls_19 hl_19 => ?_)
  clear hl_18
  refine lv_goto (tgt := 13) hx hb dX0_tokenSum_36 (by decide) ?_
  refine lv_iload hx hb dX0_tokenSum_13 (lv_at hl_19 0 rfl) ?_
  refine lv_iload_n hx hb dX0_tokenSum_15 rfl (lv_at hl_19 3 rfl) ?_
  refine lv_icmp_ge (tgt := 39) hx hb dX0_tokenSum_16 (by decide) (fun c_20 => absurd c_20 (by decide)) (fun _ => ?_)
  refine lv_aload_n hx hb dX0_tokenSum_19 rfl (lv_at hl_19 4 rfl) ?_
  refine lv_iload hx hb dX0_tokenSum_20 (lv_at hl_19 0 rfl) ?_
  refine k_aald hx hb hK hO (aA_lt hg) (ct_A g) rfl (show vp_in 3 4 from by unfold vp_in; decide) dX0_tokenSum_22 ?_
  refine lv_topr (b := L (aP g 3)) rfl ?_
  refine lv_astore (lv' := [(5, .ref (L (aP g 3))), (4, .int 3), (1, .int v_17), (3, .int 4), (2, .ref (L (aA g))), (0, .ref (L (aG g)))]) hx hb dX0_tokenSum_23 hl_19 (by decide) rfl (fun ls_21 hl_21 => ?_)
  clear hl_19
  refine lv_iload_n hx hb dX0_tokenSum_25 rfl (lv_at hl_21 2 rfl) ?_
  refine lv_aload hx hb dX0_tokenSum_26 (lv_at hl_21 0 rfl) ?_
  refine k_getN (k := 0) (v := .int (X g 23)) hx hb hts in_X0_tokenSum_X3 hown hK hN hO (aP_lt hg (by decide)) (cn_P g 3 (by decide)) rfl (by decide) nx_field_X0_61 rfl dX0_tokenSum_28 ?_
  refine lv_iadd hx hb dX0_tokenSum_31 ?_
  replace hf := zl_some hf
  obtain ⟨v_22, hv_22, hf⟩ := hf
  refine lv_tope hv_22 ?_
  refine lv_istore_n (lv' := [(1, .int v_22), (5, .ref (L (aP g 3))), (4, .int 3), (3, .int 4), (2, .ref (L (aA g))), (0, .ref (L (aG g)))]) hx hb dX0_tokenSum_32 rfl hl_21 (by decide) rfl (fun ls_23 hl_23 => ?_)
  clear hl_21
  refine lv_iinc (v := 4) (lv' := [(4, .int 4), (1, .int v_22), (5, .ref (L (aP g 3))), (3, .int 4), (2, .ref (L (aA g))), (0, .ref (L (aG g)))]) hx hb dX0_tokenSum_33 hl_23 (k := 2) rfl (by decide) (by decide) rfl (fun ls_24 hl_24 => ?_)
  clear hl_23
  refine lv_goto (tgt := 13) hx hb dX0_tokenSum_36 (by decide) ?_
  refine lv_iload hx hb dX0_tokenSum_13 (lv_at hl_24 0 rfl) ?_
  refine lv_iload_n hx hb dX0_tokenSum_15 rfl (lv_at hl_24 3 rfl) ?_
  refine lv_icmp_ge (tgt := 39) hx hb dX0_tokenSum_16 (by decide) (fun _ => ?_) (fun c_25 => absurd (by decide) c_25)
  refine lv_iload_n hx hb dX0_tokenSum_39 rfl (lv_at hl_24 1 rfl) ?_
  obtain ⟨rfl, rfl⟩ := Prod.mk.inj (Option.some.inj hf)
  exact e_i hx hb hr hK hN hO hlocks dX0_tokenSum_40
theorem in_X0_moveSet_X0 : ∀ w ∈ u_ws RX0 TX0 10, w ∈ wsX0_moveSet := by decide +kernel
theorem in_X0_moveSet_X3 : ∀ w ∈ u_ws RX3 TX3 4, w ∈ wsX0_moveSet := by decide +kernel
theorem in_X0_moveSet_X4 : ∀ w ∈ u_ws RX4 TX4 2, w ∈ wsX0_moveSet := by decide +kernel
theorem lk_X0_moveSet_c82 : Cond.constant RX0 82 (1048576) ∈ wsX0_moveSet := by decide +kernel
theorem lk_X0_moveSet_f20 : Cond.fieldLink RX0 20 "PoisonPiles$Game" "piles" "[LPoisonPiles$Pile;" ∈ wsX0_moveSet := by decide +kernel
theorem lk_X0_moveSet_f45 : Cond.fieldLink RX0 45 "PoisonPiles$Game" "mover" "I" ∈ wsX0_moveSet := by decide +kernel
theorem lk_X0_moveSet_f51 : Cond.fieldLink RX0 51 "PoisonPiles$Game" "passAhead" "Z" ∈ wsX0_moveSet := by decide +kernel
theorem lk_X0_moveSet_f55 : Cond.fieldLink RX0 55 "PoisonPiles$Game" "poisonEnded" "Z" ∈ wsX0_moveSet := by decide +kernel
theorem lk_X0_moveSet_f9 : Cond.fieldLink RX0 9 "PoisonPiles$Game" "takes" "I" ∈ wsX0_moveSet := by decide +kernel
theorem lk_X0_moveSet_iX8 : Cond.initialized RX8 ∈ wsX0_moveSet := by decide +kernel
theorem lk_X0_moveSet_sX8_takesOutOf : Cond.static yX8_takesOutOf ∈ wsX0_moveSet := by decide +kernel
def fX0_moveSet  (g : Nat) (X : XM) : Option (Int32 × XM) := if (X g 5) = 0 then zi (fX8_takesOutOf (X g 11) (X g 0) 0 X) (fun r_6 X_5 => zl (0 ||| r_6) (fun v_8 => zi (fX8_takesOutOf (X_5 g 15) (X_5 g 0) 1 X_5) (fun r_13 X_12 => zl (v_8 ||| r_13) (fun v_15 => zi (fX8_takesOutOf (X_12 g 19) (X_12 g 0) 2 X_12) (fun r_20 X_19 => zl (v_15 ||| r_20) (fun v_22 => zi (fX8_takesOutOf (X_19 g 23) (X_19 g 0) 3 X_19) (fun r_27 X_26 => zl (v_22 ||| r_27) (fun v_29 => zi (fX0_player g (X_26 g 3) X_26) (fun r_34 X_33 => if (X_33 g (7 + r_34)) ≤ 0 then some (v_29, X_33) else if (X_33 g 4) = 0 then zi (fX0_tokenSum g X_33) (fun r_39 X_38 => if r_39 ≤ 0 then some (v_29, X_38) else zl (v_29 ||| 1048576) (fun v_42 => some (v_42, X_38))) else some (v_29, X_33)))))))))) else some (0, X)
set_option maxHeartbeats 4000000 in
set_option maxRecDepth 100000 in
theorem mX0_moveSet (l : Launch) (D : va_G) (L : Nat → Nat) (ac : Nat → ClassId) (hL : LL L) (X : XM) (g : Nat) (hg : g < 11) (r0 : Int32) (X0 : XM) (hf : fX0_moveSet g X = some (r0, X0)) : Ci l yX0_moveSet wsX0_moveSet ({ frames := 1, cells := 0, slots := 0, locals := 25 }) D L ac X [.ref (L (aG g))] r0 X0 := by
  refine Met.ofK (cc := cX0_moveSet) (maxL := 3) (ret := (some .int)) (lv := [(0, .ref (L (aG g)))]) (by decide +kernel) rfl (Nat.le_of_ble_eq_true rfl) rfl ?_
  intro p e s m below meth c F hO ls hl
  obtain ⟨hx, hb, hr, hts, hown, hlocks, hml, hK, hN⟩ := id F
  have hA : ∀ q, fr L q → fr L q := fun q h => h
  unfold fX0_moveSet at hf
  refine lv_aload_n hx hb dX0_moveSet_0 rfl (lv_at hl 0 rfl) ?_
  refine k_get (k := 9) (v := .int (X g 5)) hx hb hts in_X0_moveSet_X0 hown hK hO (aG_lt hg) (cn_G g) rfl (by decide) lk_X0_moveSet_f55 rfl dX0_moveSet_1 ?_
  refine lv_if_eq (tgt := 9) hx hb dX0_moveSet_4 (by decide) (fun c_1 => ?_) (fun c_1 => ?_)
  · rw [if_pos c_1] at hf
    refine lv_iconst (v := 0) hx hb dX0_moveSet_9 (by decide) ?_
    refine lv_istore_n (lv' := [(1, .int 0), (0, .ref (L (aG g)))]) hx hb dX0_moveSet_10 rfl hl (by decide) rfl (fun ls_2 hl_2 => ?_)
    clear hl
    refine lv_iconst (v := 0) hx hb dX0_moveSet_11 (by decide) ?_
    refine lv_istore_n (lv' := [(2, .int 0), (1, .int 0), (0, .ref (L (aG g)))]) hx hb dX0_moveSet_12 rfl hl_2 (by decide) rfl (fun ls_3 hl_3 => ?_)
    clear hl_2
    refine lv_iload_n hx hb dX0_moveSet_13 rfl (lv_at hl_3 0 rfl) ?_
    refine lv_aload_n hx hb dX0_moveSet_14 rfl (lv_at hl_3 2 rfl) ?_
    refine k_get (k := 2) (v := .ref (L (aA g))) hx hb hts in_X0_moveSet_X0 hown hK hO (aG_lt hg) (cn_G g) rfl (by decide) lk_X0_moveSet_f20 rfl dX0_moveSet_15 ?_
    refine k_alen (v := 4) (t := 3) hx hb hK hO (aA_lt hg) (ct_A g) rfl rfl dX0_moveSet_18 ?_
    refine lv_icmp_ge (tgt := 48) hx hb dX0_moveSet_19 (by decide) (fun c_4 => absurd c_4 (by decide)) (fun _ => ?_)
    refine lv_iload_n hx hb dX0_moveSet_22 rfl (lv_at hl_3 1 rfl) ?_
    refine lv_aload_n hx hb dX0_moveSet_23 rfl (lv_at hl_3 2 rfl) ?_
    refine k_get (k := 2) (v := .ref (L (aA g))) hx hb hts in_X0_moveSet_X0 hown hK hO (aG_lt hg) (cn_G g) rfl (by decide) lk_X0_moveSet_f20 rfl dX0_moveSet_24 ?_
    refine lv_iload_n hx hb dX0_moveSet_27 rfl (lv_at hl_3 0 rfl) ?_
    refine k_aald hx hb hK hO (aA_lt hg) (ct_A g) rfl (show vp_in 0 4 from by unfold vp_in; decide) dX0_moveSet_28 ?_
    refine lv_topr (b := L (aP g 0)) rfl ?_
    refine k_getN (k := 0) (v := .int (X g 11)) hx hb hts in_X0_moveSet_X3 hown hK hN hO (aP_lt hg (by decide)) (cn_P g 0 (by decide)) rfl (by decide) nx_field_X0_61 rfl dX0_moveSet_29 ?_
    refine lv_aload_n hx hb dX0_moveSet_32 rfl (lv_at hl_3 2 rfl) ?_
    refine k_get (k := 0) (v := .int (X g 0)) hx hb hts in_X0_moveSet_X0 hown hK hO (aG_lt hg) (cn_G g) rfl (by decide) lk_X0_moveSet_f9 rfl dX0_moveSet_33 ?_
    refine lv_iload_n hx hb dX0_moveSet_36 rfl (lv_at hl_3 0 rfl) ?_
    replace hf := zi_some hf
    obtain ⟨r_6, X_5, hc_5, hf⟩ := hf
    refine k_ai (va_runSN (As := [.int (X g 11), .int (X g 0), .int 0]) (rest := [.int 0]) ⟨hx, hb, hml, hown, hts⟩ (mX8_takesOutOf l D L ac hL _ (X g 11) (X g 0) 0 _ _ hc_5) ⟨va_cnB 3 hts gX0_moveSet_X8_takesOutOf_n67 rfl rfl rfl (hN _ nx_method_X0_67) (hts _ lk_X0_moveSet_iX8) (by decide +kernel) ⟨Nat.le_of_ble_eq_true rfl, Nat.le_of_ble_eq_true rfl⟩, hts _ lk_X0_moveSet_sX8_takesOutOf, trivial⟩ (k_ps hK hN hO _) rfl rfl hl_3.1 rfl (lv_room (Nat.le_of_ble_eq_true rfl)) dX0_moveSet_37 ⟨Nat.le_of_ble_eq_true rfl, Nat.le_of_ble_eq_true rfl⟩) hA hO (fun H_7 locs_7 hO_7 => ?_)
    clear hO
    refine lv_ior hx hb dX0_moveSet_40 ?_
    replace hf := zl_some hf
    obtain ⟨v_8, hv_8, hf⟩ := hf
    refine lv_tope hv_8 ?_
    refine lv_istore_n (lv' := [(1, .int v_8), (2, .int 0), (0, .ref (L (aG g)))]) hx hb dX0_moveSet_41 rfl hl_3 (by decide) rfl (fun ls_9 hl_9 => ?_)
    clear hl_3
    refine lv_iinc (v := 1) (lv' := [(2, .int 1), (1, .int v_8), (0, .ref (L (aG g)))]) hx hb dX0_moveSet_42 hl_9 (k := 1) rfl (by decide) (by decide) rfl (fun ls_10 hl_10 => ?_)
    clear hl_9
    refine lv_goto (tgt := 13) hx hb dX0_moveSet_45 (by decide) ?_
    refine lv_iload_n hx hb dX0_moveSet_13 rfl (lv_at hl_10 0 rfl) ?_
    refine lv_aload_n hx hb dX0_moveSet_14 rfl (lv_at hl_10 2 rfl) ?_
    refine k_get (k := 2) (v := .ref (L (aA g))) hx hb hts in_X0_moveSet_X0 hown hK hO_7 (aG_lt hg) (cn_G g) rfl (by decide) lk_X0_moveSet_f20 rfl dX0_moveSet_15 ?_
    refine k_alen (v := 4) (t := 3) hx hb hK hO_7 (aA_lt hg) (ct_A g) rfl rfl dX0_moveSet_18 ?_
    refine lv_icmp_ge (tgt := 48) hx hb dX0_moveSet_19 (by decide) (fun c_11 => absurd c_11 (by decide)) (fun _ => ?_)
    refine lv_iload_n hx hb dX0_moveSet_22 rfl (lv_at hl_10 1 rfl) ?_
    refine lv_aload_n hx hb dX0_moveSet_23 rfl (lv_at hl_10 2 rfl) ?_
    refine k_get (k := 2) (v := .ref (L (aA g))) hx hb hts in_X0_moveSet_X0 hown hK hO_7 (aG_lt hg) (cn_G g) rfl (by decide) lk_X0_moveSet_f20 rfl dX0_moveSet_24 ?_
    refine lv_iload_n hx hb dX0_moveSet_27 rfl (lv_at hl_10 0 rfl) ?_
    refine k_aald hx hb hK hO_7 (aA_lt hg) (ct_A g) rfl (show vp_in 1 4 from by unfold vp_in; decide) dX0_moveSet_28 ?_
    refine lv_topr (b := L (aP g 1)) rfl ?_
    refine k_getN (k := 0) (v := .int (X_5 g 15)) hx hb hts in_X0_moveSet_X3 hown hK hN hO_7 (aP_lt hg (by decide)) (cn_P g 1 (by decide)) rfl (by decide) nx_field_X0_61 rfl dX0_moveSet_29 ?_
    refine lv_aload_n hx hb dX0_moveSet_32 rfl (lv_at hl_10 2 rfl) ?_
    refine k_get (k := 0) (v := .int (X_5 g 0)) hx hb hts in_X0_moveSet_X0 hown hK hO_7 (aG_lt hg) (cn_G g) rfl (by decide) lk_X0_moveSet_f9 rfl dX0_moveSet_33 ?_
    refine lv_iload_n hx hb dX0_moveSet_36 rfl (lv_at hl_10 0 rfl) ?_
    replace hf := zi_some hf
    obtain ⟨r_13, X_12, hc_12, hf⟩ := hf
    refine k_ai (va_runSN (As := [.int (X_5 g 15), .int (X_5 g 0), .int 1]) (rest := [.int v_8]) ⟨hx, hb, hml, hown, hts⟩ (mX8_takesOutOf l D L ac hL _ (X_5 g 15) (X_5 g 0) 1 _ _ hc_12) ⟨va_cnB 3 hts gX0_moveSet_X8_takesOutOf_n67 rfl rfl rfl (hN _ nx_method_X0_67) (hts _ lk_X0_moveSet_iX8) (by decide +kernel) ⟨Nat.le_of_ble_eq_true rfl, Nat.le_of_ble_eq_true rfl⟩, hts _ lk_X0_moveSet_sX8_takesOutOf, trivial⟩ (k_ps hK hN hO_7 _) rfl rfl hl_10.1 rfl (lv_room (Nat.le_of_ble_eq_true rfl)) dX0_moveSet_37 ⟨Nat.le_of_ble_eq_true rfl, Nat.le_of_ble_eq_true rfl⟩) hA hO_7 (fun H_14 locs_14 hO_14 => ?_)
    clear hO_7
    refine lv_ior hx hb dX0_moveSet_40 ?_
    replace hf := zl_some hf
    obtain ⟨v_15, hv_15, hf⟩ := hf
    refine lv_tope hv_15 ?_
    refine lv_istore_n (lv' := [(1, .int v_15), (2, .int 1), (0, .ref (L (aG g)))]) hx hb dX0_moveSet_41 rfl hl_10 (by decide) rfl (fun ls_16 hl_16 => ?_)
    clear hl_10
    refine lv_iinc (v := 2) (lv' := [(2, .int 2), (1, .int v_15), (0, .ref (L (aG g)))]) hx hb dX0_moveSet_42 hl_16 (k := 1) rfl (by decide) (by decide) rfl (fun ls_17 hl_17 => ?_)
    clear hl_16
    refine lv_goto (tgt := 13) hx hb dX0_moveSet_45 (by decide) ?_
    refine lv_iload_n hx hb dX0_moveSet_13 rfl (lv_at hl_17 0 rfl) ?_
    refine lv_aload_n hx hb dX0_moveSet_14 rfl (lv_at hl_17 2 rfl) ?_
    refine k_get (k := 2) (v := .ref (L (aA g))) hx hb hts in_X0_moveSet_X0 hown hK hO_14 (aG_lt hg) (cn_G g) rfl (by decide) lk_X0_moveSet_f20 rfl dX0_moveSet_15 ?_
    refine k_alen (v := 4) (t := 3) hx hb hK hO_14 (aA_lt hg) (ct_A g) rfl rfl dX0_moveSet_18 ?_
    refine lv_icmp_ge (tgt := 48) hx hb dX0_moveSet_19 (by decide) (fun c_18 => absurd c_18 (by decide)) (fun _ => ?_)
    refine lv_iload_n hx hb dX0_moveSet_22 rfl (lv_at hl_17 1 rfl) ?_
    refine lv_aload_n hx hb dX0_moveSet_23 rfl (lv_at hl_17 2 rfl) ?_
    refine k_get (k := 2) (v := .ref (L (aA g))) hx hb hts in_X0_moveSet_X0 hown hK hO_14 (aG_lt hg) (cn_G g) rfl (by decide) lk_X0_moveSet_f20 rfl dX0_moveSet_24 ?_
    refine lv_iload_n hx hb dX0_moveSet_27 rfl (lv_at hl_17 0 rfl) ?_
    refine k_aald hx hb hK hO_14 (aA_lt hg) (ct_A g) rfl (show vp_in 2 4 from by unfold vp_in; decide) dX0_moveSet_28 ?_
    refine lv_topr (b := L (aP g 2)) rfl ?_
    refine k_getN (k := 0) (v := .int (X_12 g 19)) hx hb hts in_X0_moveSet_X3 hown hK hN hO_14 (aP_lt hg (by decide)) (cn_P g 2 (by decide)) rfl (by decide) nx_field_X0_61 rfl dX0_moveSet_29 ?_
    refine lv_aload_n hx hb dX0_moveSet_32 rfl (lv_at hl_17 2 rfl) ?_
    refine k_get (k := 0) (v := .int (X_12 g 0)) hx hb hts in_X0_moveSet_X0 hown hK hO_14 (aG_lt hg) (cn_G g) rfl (by decide) lk_X0_moveSet_f9 rfl dX0_moveSet_33 ?_
    refine lv_iload_n hx hb dX0_moveSet_36 rfl (lv_at hl_17 0 rfl) ?_
    replace hf := zi_some hf
    obtain ⟨r_20, X_19, hc_19, hf⟩ := hf
    refine k_ai (va_runSN (As := [.int (X_12 g 19), .int (X_12 g 0), .int 2]) (rest := [.int v_15]) ⟨hx, hb, hml, hown, hts⟩ (mX8_takesOutOf l D L ac hL _ (X_12 g 19) (X_12 g 0) 2 _ _ hc_19) ⟨va_cnB 3 hts gX0_moveSet_X8_takesOutOf_n67 rfl rfl rfl (hN _ nx_method_X0_67) (hts _ lk_X0_moveSet_iX8) (by decide +kernel) ⟨Nat.le_of_ble_eq_true rfl, Nat.le_of_ble_eq_true rfl⟩, hts _ lk_X0_moveSet_sX8_takesOutOf, trivial⟩ (k_ps hK hN hO_14 _) rfl rfl hl_17.1 rfl (lv_room (Nat.le_of_ble_eq_true rfl)) dX0_moveSet_37 ⟨Nat.le_of_ble_eq_true rfl, Nat.le_of_ble_eq_true rfl⟩) hA hO_14 (fun H_21 locs_21 hO_21 => ?_)
    clear hO_14
    refine lv_ior hx hb dX0_moveSet_40 ?_
    replace hf := zl_some hf
    obtain ⟨v_22, hv_22, hf⟩ := hf
    refine lv_tope hv_22 ?_
    refine lv_istore_n (lv' := [(1, .int v_22), (2, .int 2), (0, .ref (L (aG g)))]) hx hb dX0_moveSet_41 rfl hl_17 (by decide) rfl (fun ls_23 hl_23 => ?_)
    clear hl_17
    refine lv_iinc (v := 3) (lv' := [(2, .int 3), (1, .int v_22), (0, .ref (L (aG g)))]) hx hb dX0_moveSet_42 hl_23 (k := 1) rfl (by decide) (by decide) rfl (fun ls_24 hl_24 => ?_)
    clear hl_23
    refine lv_goto (tgt := 13) hx hb dX0_moveSet_45 (by decide) ?_
    refine lv_iload_n hx hb dX0_moveSet_13 rfl (lv_at hl_24 0 rfl) ?_
    refine lv_aload_n hx hb dX0_moveSet_14 rfl (lv_at hl_24 2 rfl) ?_
    refine k_get (k := 2) (v := .ref (L (aA g))) hx hb hts in_X0_moveSet_X0 hown hK hO_21 (aG_lt hg) (cn_G g) rfl (by decide) lk_X0_moveSet_f20 rfl dX0_moveSet_15 ?_
    refine k_alen (v := 4) (t := 3) hx hb hK hO_21 (aA_lt hg) (ct_A g) rfl rfl dX0_moveSet_18 ?_
    refine lv_icmp_ge (tgt := 48) hx hb dX0_moveSet_19 (by decide) (fun c_25 => absurd c_25 (by decide)) (fun _ => ?_)
    refine lv_iload_n hx hb dX0_moveSet_22 rfl (lv_at hl_24 1 rfl) ?_
    refine lv_aload_n hx hb dX0_moveSet_23 rfl (lv_at hl_24 2 rfl) ?_
    refine k_get (k := 2) (v := .ref (L (aA g))) hx hb hts in_X0_moveSet_X0 hown hK hO_21 (aG_lt hg) (cn_G g) rfl (by decide) lk_X0_moveSet_f20 rfl dX0_moveSet_24 ?_
    refine lv_iload_n hx hb dX0_moveSet_27 rfl (lv_at hl_24 0 rfl) ?_
    refine k_aald hx hb hK hO_21 (aA_lt hg) (ct_A g) rfl (show vp_in 3 4 from by unfold vp_in; decide) dX0_moveSet_28 ?_
    refine lv_topr (b := L (aP g 3)) rfl ?_
    refine k_getN (k := 0) (v := .int (X_19 g 23)) hx hb hts in_X0_moveSet_X3 hown hK hN hO_21 (aP_lt hg (by decide)) (cn_P g 3 (by decide)) rfl (by decide) nx_field_X0_61 rfl dX0_moveSet_29 ?_
    refine lv_aload_n hx hb dX0_moveSet_32 rfl (lv_at hl_24 2 rfl) ?_
    refine k_get (k := 0) (v := .int (X_19 g 0)) hx hb hts in_X0_moveSet_X0 hown hK hO_21 (aG_lt hg) (cn_G g) rfl (by decide) lk_X0_moveSet_f9 rfl dX0_moveSet_33 ?_
    refine lv_iload_n hx hb dX0_moveSet_36 rfl (lv_at hl_24 0 rfl) ?_
    replace hf := zi_some hf
    obtain ⟨r_27, X_26, hc_26, hf⟩ := hf
    refine k_ai (va_runSN (As := [.int (X_19 g 23), .int (X_19 g 0), .int 3]) (rest := [.int v_22]) ⟨hx, hb, hml, hown, hts⟩ (mX8_takesOutOf l D L ac hL _ (X_19 g 23) (X_19 g 0) 3 _ _ hc_26) ⟨va_cnB 3 hts gX0_moveSet_X8_takesOutOf_n67 rfl rfl rfl (hN _ nx_method_X0_67) (hts _ lk_X0_moveSet_iX8) (by decide +kernel) ⟨Nat.le_of_ble_eq_true rfl, Nat.le_of_ble_eq_true rfl⟩, hts _ lk_X0_moveSet_sX8_takesOutOf, trivial⟩ (k_ps hK hN hO_21 _) rfl rfl hl_24.1 rfl (lv_room (Nat.le_of_ble_eq_true rfl)) dX0_moveSet_37 ⟨Nat.le_of_ble_eq_true rfl, Nat.le_of_ble_eq_true rfl⟩) hA hO_21 (fun H_28 locs_28 hO_28 => ?_)
    clear hO_21
    refine lv_ior hx hb dX0_moveSet_40 ?_
    replace hf := zl_some hf
    obtain ⟨v_29, hv_29, hf⟩ := hf
    refine lv_tope hv_29 ?_
    refine lv_istore_n (lv' := [(1, .int v_29), (2, .int 3), (0, .ref (L (aG g)))]) hx hb dX0_moveSet_41 rfl hl_24 (by decide) rfl (fun ls_30 hl_30 => ?_)
    clear hl_24
    refine lv_iinc (v := 4) (lv' := [(2, .int 4), (1, .int v_29), (0, .ref (L (aG g)))]) hx hb dX0_moveSet_42 hl_30 (k := 1) rfl (by decide) (by decide) rfl (fun ls_31 hl_31 => ?_)
    clear hl_30
    refine lv_goto (tgt := 13) hx hb dX0_moveSet_45 (by decide) ?_
    refine lv_iload_n hx hb dX0_moveSet_13 rfl (lv_at hl_31 0 rfl) ?_
    refine lv_aload_n hx hb dX0_moveSet_14 rfl (lv_at hl_31 2 rfl) ?_
    refine k_get (k := 2) (v := .ref (L (aA g))) hx hb hts in_X0_moveSet_X0 hown hK hO_28 (aG_lt hg) (cn_G g) rfl (by decide) lk_X0_moveSet_f20 rfl dX0_moveSet_15 ?_
    refine k_alen (v := 4) (t := 3) hx hb hK hO_28 (aA_lt hg) (ct_A g) rfl rfl dX0_moveSet_18 ?_
    refine lv_icmp_ge (tgt := 48) hx hb dX0_moveSet_19 (by decide) (fun _ => ?_) (fun c_32 => absurd (by decide) c_32)
    refine lv_aload_n hx hb dX0_moveSet_48 rfl (lv_at hl_31 2 rfl) ?_
    refine lv_aload_n hx hb dX0_moveSet_49 rfl (lv_at hl_31 2 rfl) ?_
    refine k_get (k := 6) (v := .int (X_26 g 3)) hx hb hts in_X0_moveSet_X0 hown hK hO_28 (aG_lt hg) (cn_G g) rfl (by decide) lk_X0_moveSet_f45 rfl dX0_moveSet_50 ?_
    replace hf := zi_some hf
    obtain ⟨r_34, X_33, hc_33, hf⟩ := hf
    refine k_ar (va_runV (As := [.int (X_26 g 3)]) (rest := []) ⟨hx, hb, hml, hown, hts⟩ (mX0_player l D L ac hL _ g hg (X_26 g 3) _ _ hc_33) (cwV 1 hts gX0_moveSet_X0_player rfl rfl rfl (by decide +kernel) ⟨Nat.le_of_ble_eq_true rfl, Nat.le_of_ble_eq_true rfl⟩) (k_pv (j := (aG g)) hK hN hO_28 (aG_lt hg) (cn_G g) rfl _) rfl rfl hl_31.1 rfl (lv_room (Nat.le_of_ble_eq_true rfl)) dX0_moveSet_53 ⟨Nat.le_of_ble_eq_true rfl, Nat.le_of_ble_eq_true rfl⟩) hA hO_28 (fun H_35 locs_35 hO_35 => ?_)
    clear hO_28
    have hw_r_34 : r_34 < 2 := ltX0_player hc_33
    refine k_getN (k := 1) (v := .int (X_33 g (7 + r_34))) hx hb hts in_X0_moveSet_X4 hown hK hN hO_35 (aY_lt hg hw_r_34) (cn_Y g r_34 hw_r_34) rfl (by decide) nx_field_X0_75 rfl dX0_moveSet_56 ?_
    refine lv_if_le (tgt := 81) hx hb dX0_moveSet_59 (by decide) (fun c_36 => ?_) (fun c_36 => ?_)
    · rw [if_pos c_36] at hf
      refine lv_iload_n hx hb dX0_moveSet_81 rfl (lv_at hl_31 1 rfl) ?_
      obtain ⟨rfl, rfl⟩ := Prod.mk.inj (Option.some.inj hf)
      exact e_i hx hb hr hK hN hO_35 hlocks dX0_moveSet_82
    · rw [if_neg c_36] at hf
      refine lv_aload_n hx hb dX0_moveSet_62 rfl (lv_at hl_31 2 rfl) ?_
      refine k_get (k := 8) (v := .int (X_33 g 4)) hx hb hts in_X0_moveSet_X0 hown hK hO_35 (aG_lt hg) (cn_G g) rfl (by decide) lk_X0_moveSet_f51 rfl dX0_moveSet_63 ?_
      refine lv_if_ne (tgt := 81) hx hb dX0_moveSet_66 (by decide) (fun c_37 => ?_) (fun c_37 => ?_)
      · rw [if_neg c_37] at hf
        refine lv_iload_n hx hb dX0_moveSet_81 rfl (lv_at hl_31 1 rfl) ?_
        obtain ⟨rfl, rfl⟩ := Prod.mk.inj (Option.some.inj hf)
        exact e_i hx hb hr hK hN hO_35 hlocks dX0_moveSet_82
      · rw [if_pos c_37] at hf
        refine lv_aload_n hx hb dX0_moveSet_69 rfl (lv_at hl_31 2 rfl) ?_
        replace hf := zi_some hf
        obtain ⟨r_39, X_38, hc_38, hf⟩ := hf
        refine k_ai (va_runV (As := []) (rest := []) ⟨hx, hb, hml, hown, hts⟩ (mX0_tokenSum l D L ac hL _ g hg _ _ hc_38) (cwV 0 hts gX0_moveSet_X0_tokenSum rfl rfl rfl (by decide +kernel) ⟨Nat.le_of_ble_eq_true rfl, Nat.le_of_ble_eq_true rfl⟩) (k_pv (j := (aG g)) hK hN hO_35 (aG_lt hg) (cn_G g) rfl _) rfl rfl hl_31.1 rfl (lv_room (Nat.le_of_ble_eq_true rfl)) dX0_moveSet_70 ⟨Nat.le_of_ble_eq_true rfl, Nat.le_of_ble_eq_true rfl⟩) hA hO_35 (fun H_40 locs_40 hO_40 => ?_)
        clear hO_35
        refine lv_if_le (tgt := 81) hx hb dX0_moveSet_73 (by decide) (fun c_41 => ?_) (fun c_41 => ?_)
        · rw [if_pos c_41] at hf
          refine lv_iload_n hx hb dX0_moveSet_81 rfl (lv_at hl_31 1 rfl) ?_
          obtain ⟨rfl, rfl⟩ := Prod.mk.inj (Option.some.inj hf)
          exact e_i hx hb hr hK hN hO_40 hlocks dX0_moveSet_82
        · rw [if_neg c_41] at hf
          refine lv_iload_n hx hb dX0_moveSet_76 rfl (lv_at hl_31 1 rfl) ?_
          refine lv_ldc (v := 1048576) hx hb hown (hts _ lk_X0_moveSet_c82) dX0_moveSet_77 ?_
          refine lv_ior hx hb dX0_moveSet_79 ?_
          replace hf := zl_some hf
          obtain ⟨v_42, hv_42, hf⟩ := hf
          refine lv_tope hv_42 ?_
          refine lv_istore_n (lv' := [(1, .int v_42), (2, .int 4), (0, .ref (L (aG g)))]) hx hb dX0_moveSet_80 rfl hl_31 (by decide) rfl (fun ls_43 hl_43 => ?_)
          clear hl_31
          refine lv_iload_n hx hb dX0_moveSet_81 rfl (lv_at hl_43 0 rfl) ?_
          obtain ⟨rfl, rfl⟩ := Prod.mk.inj (Option.some.inj hf)
          exact e_i hx hb hr hK hN hO_40 hlocks dX0_moveSet_82
  · rw [if_neg c_1] at hf
    refine lv_iconst (v := 0) hx hb dX0_moveSet_7 (by decide) ?_
    obtain ⟨rfl, rfl⟩ := Prod.mk.inj (Option.some.inj hf)
    exact e_i hx hb hr hK hN hO hlocks dX0_moveSet_8
theorem lk_X0_allows_iX8 : Cond.initialized RX8 ∈ wsX0_allows := by decide +kernel
theorem lk_X0_allows_sX8_isIn : Cond.static yX8_isIn ∈ wsX0_allows := by decide +kernel
def fX0_allows  (g : Nat) (a1 : Int32) (X : XM) : Option (Int32 × XM) := zi (fX0_moveSet g X) (fun r_2 X_1 => zi (fX8_isIn r_2 a1 X_1) (fun r_5 X_4 => zb r_5 (some (r_5, X_4))))
set_option maxHeartbeats 4000000 in
set_option maxRecDepth 100000 in
theorem mX0_allows (l : Launch) (D : va_G) (L : Nat → Nat) (ac : Nat → ClassId) (hL : LL L) (X : XM) (g : Nat) (hg : g < 11) (a1 : Int32) (r0 : Int32) (X0 : XM) (hf : fX0_allows g a1 X = some (r0, X0)) : Ci l yX0_allows wsX0_allows ({ frames := 2, cells := 0, slots := 0, locals := 47 }) D L ac X [.ref (L (aG g)), .int a1] r0 X0 := by
  refine Met.ofK (cc := cX0_allows) (maxL := 2) (ret := (some .boolean)) (lv := [(0, .ref (L (aG g))), (1, .int a1)]) (by decide +kernel) rfl (Nat.le_of_ble_eq_true rfl) rfl ?_
  intro p e s m below meth c F hO ls hl
  obtain ⟨hx, hb, hr, hts, hown, hlocks, hml, hK, hN⟩ := id F
  have hA : ∀ q, fr L q → fr L q := fun q h => h
  unfold fX0_allows at hf
  refine lv_aload_n hx hb dX0_allows_0 rfl (lv_at hl 0 rfl) ?_
  replace hf := zi_some hf
  obtain ⟨r_2, X_1, hc_1, hf⟩ := hf
  refine k_ai (va_runV (As := []) (rest := []) ⟨hx, hb, hml, hown, hts⟩ (mX0_moveSet l D L ac hL _ g hg _ _ hc_1) (cwV 0 hts gX0_allows_X0_moveSet rfl rfl rfl (by decide +kernel) ⟨Nat.le_of_ble_eq_true rfl, Nat.le_of_ble_eq_true rfl⟩) (k_pv (j := (aG g)) hK hN hO (aG_lt hg) (cn_G g) rfl _) rfl rfl hl.1 rfl (lv_room (Nat.le_of_ble_eq_true rfl)) dX0_allows_1 ⟨Nat.le_of_ble_eq_true rfl, Nat.le_of_ble_eq_true rfl⟩) hA hO (fun H_3 locs_3 hO_3 => ?_)
  clear hO
  refine lv_iload_n hx hb dX0_allows_4 rfl (lv_at hl 1 rfl) ?_
  replace hf := zi_some hf
  obtain ⟨r_5, X_4, hc_4, hf⟩ := hf
  refine k_ai (va_runSN (As := [.int r_2, .int a1]) (rest := []) ⟨hx, hb, hml, hown, hts⟩ (mX8_isIn l D L ac hL _ r_2 a1 _ _ hc_4) ⟨va_cnB 2 hts gX0_allows_X8_isIn_n86 rfl rfl rfl (hN _ nx_method_X0_86) (hts _ lk_X0_allows_iX8) (by decide +kernel) ⟨Nat.le_of_ble_eq_true rfl, Nat.le_of_ble_eq_true rfl⟩, hts _ lk_X0_allows_sX8_isIn, trivial⟩ (k_ps hK hN hO_3 _) rfl rfl hl.1 rfl (lv_room (Nat.le_of_ble_eq_true rfl)) dX0_allows_5 ⟨Nat.le_of_ble_eq_true rfl, Nat.le_of_ble_eq_true rfl⟩) hA hO_3 (fun H_6 locs_6 hO_6 => ?_)
  clear hO_3
  replace hf := zb_some hf
  obtain ⟨hb_7, hf⟩ := hf
  obtain ⟨rfl, rfl⟩ := Prod.mk.inj (Option.some.inj hf)
  exact e_n hx hb hr (bo_n hb_7) hK hN hO_6 hlocks dX0_allows_8
def fX0_isOver  (g : Nat) (X : XM) : Option (Int32 × XM) := zi (fX0_moveSet g X) (fun r_2 X_1 => if r_2 = 0 then some (1, X_1) else some (0, X_1))
set_option maxHeartbeats 4000000 in
set_option maxRecDepth 100000 in
theorem mX0_isOver (l : Launch) (D : va_G) (L : Nat → Nat) (ac : Nat → ClassId) (hL : LL L) (X : XM) (g : Nat) (hg : g < 11) (r0 : Int32) (X0 : XM) (hf : fX0_isOver g X = some (r0, X0)) : Ci l yX0_isOver wsX0_isOver ({ frames := 2, cells := 0, slots := 0, locals := 47 }) D L ac X [.ref (L (aG g))] r0 X0 := by
  refine Met.ofK (cc := cX0_isOver) (maxL := 1) (ret := (some .boolean)) (lv := [(0, .ref (L (aG g)))]) (by decide +kernel) rfl (Nat.le_of_ble_eq_true rfl) rfl ?_
  intro p e s m below meth c F hO ls hl
  obtain ⟨hx, hb, hr, hts, hown, hlocks, hml, hK, hN⟩ := id F
  have hA : ∀ q, fr L q → fr L q := fun q h => h
  unfold fX0_isOver at hf
  refine lv_aload_n hx hb dX0_isOver_0 rfl (lv_at hl 0 rfl) ?_
  replace hf := zi_some hf
  obtain ⟨r_2, X_1, hc_1, hf⟩ := hf
  refine k_ai (va_runV (As := []) (rest := []) ⟨hx, hb, hml, hown, hts⟩ (mX0_moveSet l D L ac hL _ g hg _ _ hc_1) (cwV 0 hts gX0_isOver_X0_moveSet rfl rfl rfl (by decide +kernel) ⟨Nat.le_of_ble_eq_true rfl, Nat.le_of_ble_eq_true rfl⟩) (k_pv (j := (aG g)) hK hN hO (aG_lt hg) (cn_G g) rfl _) rfl rfl hl.1 rfl (lv_room (Nat.le_of_ble_eq_true rfl)) dX0_isOver_1 ⟨Nat.le_of_ble_eq_true rfl, Nat.le_of_ble_eq_true rfl⟩) hA hO (fun H_3 locs_3 hO_3 => ?_)
  clear hO
  refine lv_if_ne (tgt := 11) hx hb dX0_isOver_4 (by decide) (fun c_4 => ?_) (fun c_4 => ?_)
  · rw [if_neg c_4] at hf
    refine lv_iconst (v := 0) hx hb dX0_isOver_11 (by decide) ?_
    obtain ⟨rfl, rfl⟩ := Prod.mk.inj (Option.some.inj hf)
    exact e_n hx hb hr (bo_n (by decide)) hK hN hO_3 hlocks dX0_isOver_12
  · rw [if_pos c_4] at hf
    subst c_4
    refine lv_iconst (v := 1) hx hb dX0_isOver_7 (by decide) ?_
    refine lv_goto (tgt := 12) hx hb dX0_isOver_8 (by decide) ?_
    obtain ⟨rfl, rfl⟩ := Prod.mk.inj (Option.some.inj hf)
    exact e_n hx hb hr (bo_n (by decide)) hK hN hO_3 hlocks dX0_isOver_12
theorem in_X0_winner_X0 : ∀ w ∈ u_ws RX0 TX0 10, w ∈ wsX0_winner := by decide +kernel
theorem lk_X0_winner_f45 : Cond.fieldLink RX0 45 "PoisonPiles$Game" "mover" "I" ∈ wsX0_winner := by decide +kernel
theorem lk_X0_winner_f55 : Cond.fieldLink RX0 55 "PoisonPiles$Game" "poisonEnded" "Z" ∈ wsX0_winner := by decide +kernel
def fX0_winner  (g : Nat) (X : XM) : Option (Int32 × XM) := zi (fX0_isOver g X) (fun r_2 X_1 => if r_2 = 0 then some ((-6), X_1) else if (X_1 g 5) = 0 then some (1 - (X_1 g 3), X_1) else some (X_1 g 3, X_1))
set_option maxHeartbeats 4000000 in
set_option maxRecDepth 100000 in
theorem mX0_winner (l : Launch) (D : va_G) (L : Nat → Nat) (ac : Nat → ClassId) (hL : LL L) (X : XM) (g : Nat) (hg : g < 11) (r0 : Int32) (X0 : XM) (hf : fX0_winner g X = some (r0, X0)) : Ci l yX0_winner wsX0_winner ({ frames := 3, cells := 0, slots := 0, locals := 67 }) D L ac X [.ref (L (aG g))] r0 X0 := by
  refine Met.ofK (cc := cX0_winner) (maxL := 1) (ret := (some .int)) (lv := [(0, .ref (L (aG g)))]) (by decide +kernel) rfl (Nat.le_of_ble_eq_true rfl) rfl ?_
  intro p e s m below meth c F hO ls hl
  obtain ⟨hx, hb, hr, hts, hown, hlocks, hml, hK, hN⟩ := id F
  have hA : ∀ q, fr L q → fr L q := fun q h => h
  unfold fX0_winner at hf
  refine lv_aload_n hx hb dX0_winner_0 rfl (lv_at hl 0 rfl) ?_
  replace hf := zi_some hf
  obtain ⟨r_2, X_1, hc_1, hf⟩ := hf
  refine k_ai (va_runV (As := []) (rest := []) ⟨hx, hb, hml, hown, hts⟩ (mX0_isOver l D L ac hL _ g hg _ _ hc_1) (cwV 0 hts gX0_winner_X0_isOver rfl rfl rfl (by decide +kernel) ⟨Nat.le_of_ble_eq_true rfl, Nat.le_of_ble_eq_true rfl⟩) (k_pv (j := (aG g)) hK hN hO (aG_lt hg) (cn_G g) rfl _) rfl rfl hl.1 rfl (lv_room (Nat.le_of_ble_eq_true rfl)) dX0_winner_1 ⟨Nat.le_of_ble_eq_true rfl, Nat.le_of_ble_eq_true rfl⟩) hA hO (fun H_3 locs_3 hO_3 => ?_)
  clear hO
  refine lv_if_ne (tgt := 10) hx hb dX0_winner_4 (by decide) (fun c_4 => ?_) (fun c_4 => ?_)
  · rw [if_neg c_4] at hf
    refine lv_aload_n hx hb dX0_winner_10 rfl (lv_at hl 0 rfl) ?_
    refine k_get (k := 9) (v := .int (X_1 g 5)) hx hb hts in_X0_winner_X0 hown hK hO_3 (aG_lt hg) (cn_G g) rfl (by decide) lk_X0_winner_f55 rfl dX0_winner_11 ?_
    refine lv_if_eq (tgt := 24) hx hb dX0_winner_14 (by decide) (fun c_5 => ?_) (fun c_5 => ?_)
    · rw [if_pos c_5] at hf
      refine lv_iconst (v := 1) hx hb dX0_winner_24 (by decide) ?_
      refine lv_aload_n hx hb dX0_winner_25 rfl (lv_at hl 0 rfl) ?_
      refine k_get (k := 6) (v := .int (X_1 g 3)) hx hb hts in_X0_winner_X0 hown hK hO_3 (aG_lt hg) (cn_G g) rfl (by decide) lk_X0_winner_f45 rfl dX0_winner_26 ?_
      refine lv_isub hx hb dX0_winner_29 ?_
      obtain ⟨rfl, rfl⟩ := Prod.mk.inj (Option.some.inj hf)
      exact e_i hx hb hr hK hN hO_3 hlocks dX0_winner_30
    · rw [if_neg c_5] at hf
      refine lv_aload_n hx hb dX0_winner_17 rfl (lv_at hl 0 rfl) ?_
      refine k_get (k := 6) (v := .int (X_1 g 3)) hx hb hts in_X0_winner_X0 hown hK hO_3 (aG_lt hg) (cn_G g) rfl (by decide) lk_X0_winner_f45 rfl dX0_winner_18 ?_
      refine lv_goto (tgt := 30) hx hb dX0_winner_21 (by decide) ?_
      obtain ⟨rfl, rfl⟩ := Prod.mk.inj (Option.some.inj hf)
      exact e_i hx hb hr hK hN hO_3 hlocks dX0_winner_30
  · rw [if_pos c_4] at hf
    subst c_4
    refine lv_bipush (v := (-6)) hx hb dX0_winner_7 (by decide) ?_
    obtain ⟨rfl, rfl⟩ := Prod.mk.inj (Option.some.inj hf)
    exact e_i hx hb hr hK hN hO_3 hlocks dX0_winner_9
theorem in_X0_purse_X0 : ∀ w ∈ u_ws RX0 TX0 10, w ∈ wsX0_purse := by decide +kernel
theorem in_X0_purse_X4 : ∀ w ∈ u_ws RX4 TX4 2, w ∈ wsX0_purse := by decide +kernel
theorem lk_X0_purse_f15 : Cond.fieldLink RX0 15 "PoisonPiles$Game" "bonus" "I" ∈ wsX0_purse := by decide +kernel
def fX0_purse  (g : Nat) (a1 : Int32) (X : XM) : Option (Int32 × XM) := zi (fX0_player g a1 X) (fun r_2 X_1 => zl (X_1 g (9 + r_2)) (fun v_4 => zi (fX0_isOver g X_1) (fun r_7 X_6 => if r_7 = 0 then some (v_4, X_6) else zi (fX0_winner g X_6) (fun r_11 X_10 => if r_11 = a1 then some (v_4 + (X_10 g 1), X_10) else some (v_4 - (X_10 g 1), X_10)))))
set_option maxHeartbeats 4000000 in
set_option maxRecDepth 100000 in
theorem mX0_purse (l : Launch) (D : va_G) (L : Nat → Nat) (ac : Nat → ClassId) (hL : LL L) (X : XM) (g : Nat) (hg : g < 11) (a1 : Int32) (r0 : Int32) (X0 : XM) (hf : fX0_purse g a1 X = some (r0, X0)) : Ci l yX0_purse wsX0_purse ({ frames := 4, cells := 0, slots := 0, locals := 87 }) D L ac X [.ref (L (aG g)), .int a1] r0 X0 := by
  refine Met.ofK (cc := cX0_purse) (maxL := 3) (ret := (some .int)) (lv := [(0, .ref (L (aG g))), (1, .int a1)]) (by decide +kernel) rfl (Nat.le_of_ble_eq_true rfl) rfl ?_
  intro p e s m below meth c F hO ls hl
  obtain ⟨hx, hb, hr, hts, hown, hlocks, hml, hK, hN⟩ := id F
  have hA : ∀ q, fr L q → fr L q := fun q h => h
  unfold fX0_purse at hf
  refine lv_aload_n hx hb dX0_purse_0 rfl (lv_at hl 0 rfl) ?_
  refine lv_iload_n hx hb dX0_purse_1 rfl (lv_at hl 1 rfl) ?_
  replace hf := zi_some hf
  obtain ⟨r_2, X_1, hc_1, hf⟩ := hf
  refine k_ar (va_runV (As := [.int a1]) (rest := []) ⟨hx, hb, hml, hown, hts⟩ (mX0_player l D L ac hL _ g hg a1 _ _ hc_1) (cwV 1 hts gX0_purse_X0_player rfl rfl rfl (by decide +kernel) ⟨Nat.le_of_ble_eq_true rfl, Nat.le_of_ble_eq_true rfl⟩) (k_pv (j := (aG g)) hK hN hO (aG_lt hg) (cn_G g) rfl _) rfl rfl hl.1 rfl (lv_room (Nat.le_of_ble_eq_true rfl)) dX0_purse_2 ⟨Nat.le_of_ble_eq_true rfl, Nat.le_of_ble_eq_true rfl⟩) hA hO (fun H_3 locs_3 hO_3 => ?_)
  clear hO
  have hw_r_2 : r_2 < 2 := ltX0_player hc_1
  refine k_getN (k := 0) (v := .int (X_1 g (9 + r_2))) hx hb hts in_X0_purse_X4 hown hK hN hO_3 (aY_lt hg hw_r_2) (cn_Y g r_2 hw_r_2) rfl (by decide) nx_field_X0_64 rfl dX0_purse_5 ?_
  replace hf := zl_some hf
  obtain ⟨v_4, hv_4, hf⟩ := hf
  refine lv_tope hv_4 ?_
  refine lv_istore_n (lv' := [(2, .int v_4), (0, .ref (L (aG g))), (1, .int a1)]) hx hb dX0_purse_8 rfl hl (by decide) rfl (fun ls_5 hl_5 => ?_)
  clear hl
  refine lv_aload_n hx hb dX0_purse_9 rfl (lv_at hl_5 1 rfl) ?_
  replace hf := zi_some hf
  obtain ⟨r_7, X_6, hc_6, hf⟩ := hf
  refine k_ai (va_runV (As := []) (rest := []) ⟨hx, hb, hml, hown, hts⟩ (mX0_isOver l D L ac hL _ g hg _ _ hc_6) (cwV 0 hts gX0_purse_X0_isOver rfl rfl rfl (by decide +kernel) ⟨Nat.le_of_ble_eq_true rfl, Nat.le_of_ble_eq_true rfl⟩) (k_pv (j := (aG g)) hK hN hO_3 (aG_lt hg) (cn_G g) rfl _) rfl rfl hl_5.1 rfl (lv_room (Nat.le_of_ble_eq_true rfl)) dX0_purse_10 ⟨Nat.le_of_ble_eq_true rfl, Nat.le_of_ble_eq_true rfl⟩) hA hO_3 (fun H_8 locs_8 hO_8 => ?_)
  clear hO_3
  refine lv_if_ne (tgt := 18) hx hb dX0_purse_13 (by decide) (fun c_9 => ?_) (fun c_9 => ?_)
  · rw [if_neg c_9] at hf
    refine lv_aload_n hx hb dX0_purse_18 rfl (lv_at hl_5 1 rfl) ?_
    replace hf := zi_some hf
    obtain ⟨r_11, X_10, hc_10, hf⟩ := hf
    refine k_ai (va_runV (As := []) (rest := []) ⟨hx, hb, hml, hown, hts⟩ (mX0_winner l D L ac hL _ g hg _ _ hc_10) (cwV 0 hts gX0_purse_X0_winner rfl rfl rfl (by decide +kernel) ⟨Nat.le_of_ble_eq_true rfl, Nat.le_of_ble_eq_true rfl⟩) (k_pv (j := (aG g)) hK hN hO_8 (aG_lt hg) (cn_G g) rfl _) rfl rfl hl_5.1 rfl (lv_room (Nat.le_of_ble_eq_true rfl)) dX0_purse_19 ⟨Nat.le_of_ble_eq_true rfl, Nat.le_of_ble_eq_true rfl⟩) hA hO_8 (fun H_12 locs_12 hO_12 => ?_)
    clear hO_8
    refine lv_iload_n hx hb dX0_purse_22 rfl (lv_at hl_5 2 rfl) ?_
    refine lv_icmp_ne (tgt := 35) hx hb dX0_purse_23 (by decide) (fun c_13 => ?_) (fun c_13 => ?_)
    · rw [if_neg c_13] at hf
      refine lv_iload_n hx hb dX0_purse_35 rfl (lv_at hl_5 0 rfl) ?_
      refine lv_aload_n hx hb dX0_purse_36 rfl (lv_at hl_5 1 rfl) ?_
      refine k_get (k := 1) (v := .int (X_10 g 1)) hx hb hts in_X0_purse_X0 hown hK hO_12 (aG_lt hg) (cn_G g) rfl (by decide) lk_X0_purse_f15 rfl dX0_purse_37 ?_
      refine lv_isub hx hb dX0_purse_40 ?_
      obtain ⟨rfl, rfl⟩ := Prod.mk.inj (Option.some.inj hf)
      exact e_i hx hb hr hK hN hO_12 hlocks dX0_purse_41
    · rw [if_pos c_13] at hf
      refine lv_iload_n hx hb dX0_purse_26 rfl (lv_at hl_5 0 rfl) ?_
      refine lv_aload_n hx hb dX0_purse_27 rfl (lv_at hl_5 1 rfl) ?_
      refine k_get (k := 1) (v := .int (X_10 g 1)) hx hb hts in_X0_purse_X0 hown hK hO_12 (aG_lt hg) (cn_G g) rfl (by decide) lk_X0_purse_f15 rfl dX0_purse_28 ?_
      refine lv_iadd hx hb dX0_purse_31 ?_
      refine lv_goto (tgt := 41) hx hb dX0_purse_32 (by decide) ?_
      obtain ⟨rfl, rfl⟩ := Prod.mk.inj (Option.some.inj hf)
      exact e_i hx hb hr hK hN hO_12 hlocks dX0_purse_41
  · rw [if_pos c_9] at hf
    subst c_9
    refine lv_iload_n hx hb dX0_purse_16 rfl (lv_at hl_5 0 rfl) ?_
    obtain ⟨rfl, rfl⟩ := Prod.mk.inj (Option.some.inj hf)
    exact e_i hx hb hr hK hN hO_8 hlocks dX0_purse_17
theorem in_X0_turnOver_X0 : ∀ w ∈ u_ws RX0 TX0 10, w ∈ wsX0_turnOver := by decide +kernel
theorem lk_X0_turnOver_f45 : Cond.fieldLink RX0 45 "PoisonPiles$Game" "mover" "I" ∈ wsX0_turnOver := by decide +kernel
theorem lk_X0_turnOver_f48 : Cond.fieldLink RX0 48 "PoisonPiles$Game" "moveCount" "I" ∈ wsX0_turnOver := by decide +kernel
theorem lk_X0_turnOver_f51 : Cond.fieldLink RX0 51 "PoisonPiles$Game" "passAhead" "Z" ∈ wsX0_turnOver := by decide +kernel
def fX0_turnOver  (g : Nat) (a1 : Int32) (X : XM) : Option XM := zb a1 (zl (xup X g 4 a1) (fun X_2 => zl (xup X_2 g 3 (1 - (X_2 g 3))) (fun X_4 => zl (xup X_4 g 6 ((X_4 g 6) + 1)) (fun X_6 => some X_6))))
set_option maxHeartbeats 4000000 in
set_option maxRecDepth 100000 in
theorem mX0_turnOver (l : Launch) (D : va_G) (L : Nat → Nat) (ac : Nat → ClassId) (hL : LL L) (X : XM) (g : Nat) (hg : g < 11) (a1 : Int32) (X0 : XM) (hf : fX0_turnOver g a1 X = some X0) : Cv l yX0_turnOver wsX0_turnOver ({ frames := 0, cells := 0, slots := 0, locals := 0 }) D L ac X [.ref (L (aG g)), .int a1] X0 := by
  refine Met.ofK (cc := cX0_turnOver) (maxL := 2) (ret := none) (lv := [(0, .ref (L (aG g))), (1, .int a1)]) (by decide +kernel) rfl (Nat.le_of_ble_eq_true rfl) rfl ?_
  intro p e s m below meth c F hO ls hl
  obtain ⟨hx, hb, hr, hts, hown, hlocks, hml, hK, hN⟩ := id F
  have hA : ∀ q, fr L q → fr L q := fun q h => h
  unfold fX0_turnOver at hf
  refine lv_aload_n hx hb dX0_turnOver_0 rfl (lv_at hl 0 rfl) ?_
  refine lv_iload_n hx hb dX0_turnOver_1 rfl (lv_at hl 1 rfl) ?_
  replace hf := zb_some hf
  obtain ⟨hb_1, hf⟩ := hf
  refine k_put (ty := .boolean) (k := 8) (r := g) (k' := 4) hx hb tyX0 tyX0_ok nmX0 hts in_X0_turnOver_X0 hown hK  hL hA hO (aG_lt hg) (ow_G hg (by decide)) (by omega) (fun Y => (cn_G g)) (pf_G4 g) rfl (by decide) lk_X0_turnOver_f51 rfl (by decide +kernel) (bo_n hb_1) (bo_f hb_1) (Nat.le_of_ble_eq_true rfl) dX0_turnOver_2 (fun H_3 locs_3 hO_3 => ?_)
  replace hf := zl_some hf
  obtain ⟨X_2, hX_2, hf⟩ := hf
  have hQ_3 := zo_eq hX_2 hO_3
  clear hO_3 hO
  refine lv_aload_n hx hb dX0_turnOver_5 rfl (lv_at hl 0 rfl) ?_
  refine lv_iconst (v := 1) hx hb dX0_turnOver_6 (by decide) ?_
  refine lv_aload_n hx hb dX0_turnOver_7 rfl (lv_at hl 0 rfl) ?_
  refine k_get (k := 6) (v := .int (X_2 g 3)) hx hb hts in_X0_turnOver_X0 hown hK hQ_3 (aG_lt hg) (cn_G g) rfl (by decide) lk_X0_turnOver_f45 rfl dX0_turnOver_8 ?_
  refine lv_isub hx hb dX0_turnOver_11 ?_
  refine k_put (ty := .int) (k := 6) (r := g) (k' := 3) hx hb tyX0 tyX0_ok nmX0 hts in_X0_turnOver_X0 hown hK  hL hA hQ_3 (aG_lt hg) (ow_G hg (by decide)) (by omega) (fun Y => (cn_G g)) (pf_G3 g) rfl (by decide) lk_X0_turnOver_f45 rfl (by decide +kernel) rfl rfl (Nat.le_of_ble_eq_true rfl) dX0_turnOver_12 (fun H_5 locs_5 hO_5 => ?_)
  replace hf := zl_some hf
  obtain ⟨X_4, hX_4, hf⟩ := hf
  have hQ_5 := zo_eq hX_4 hO_5
  clear hO_5 hQ_3
  refine lv_aload_n hx hb dX0_turnOver_15 rfl (lv_at hl 0 rfl) ?_
  refine lv_dup hx hb dX0_turnOver_16 rfl ?_
  refine k_get (k := 7) (v := .int (X_4 g 6)) hx hb hts in_X0_turnOver_X0 hown hK hQ_5 (aG_lt hg) (cn_G g) rfl (by decide) lk_X0_turnOver_f48 rfl dX0_turnOver_17 ?_
  refine lv_iconst (v := 1) hx hb dX0_turnOver_20 (by decide) ?_
  refine lv_iadd hx hb dX0_turnOver_21 ?_
  refine k_put (ty := .int) (k := 7) (r := g) (k' := 6) hx hb tyX0 tyX0_ok nmX0 hts in_X0_turnOver_X0 hown hK  hL hA hQ_5 (aG_lt hg) (ow_G hg (by decide)) (by omega) (fun Y => (cn_G g)) (pf_G6 g) rfl (by decide) lk_X0_turnOver_f48 rfl (by decide +kernel) rfl rfl (Nat.le_of_ble_eq_true rfl) dX0_turnOver_22 (fun H_7 locs_7 hO_7 => ?_)
  replace hf := zl_some hf
  obtain ⟨X_6, hX_6, hf⟩ := hf
  have hQ_7 := zo_eq hX_6 hO_7
  clear hO_7 hQ_5
  obtain rfl := Option.some.inj hf
  exact e_v hx hb hr hK hN hQ_7 hlocks dX0_turnOver_25
theorem in_X0_takeFrom_X0 : ∀ w ∈ u_ws RX0 TX0 10, w ∈ wsX0_takeFrom := by decide +kernel
theorem in_X0_takeFrom_X3 : ∀ w ∈ u_ws RX3 TX3 4, w ∈ wsX0_takeFrom := by decide +kernel
theorem in_X0_takeFrom_X4 : ∀ w ∈ u_ws RX4 TX4 2, w ∈ wsX0_takeFrom := by decide +kernel
theorem lk_X0_takeFrom_f20 : Cond.fieldLink RX0 20 "PoisonPiles$Game" "piles" "[LPoisonPiles$Pile;" ∈ wsX0_takeFrom := by decide +kernel
theorem lk_X0_takeFrom_f45 : Cond.fieldLink RX0 45 "PoisonPiles$Game" "mover" "I" ∈ wsX0_takeFrom := by decide +kernel
theorem lk_X0_takeFrom_f55 : Cond.fieldLink RX0 55 "PoisonPiles$Game" "poisonEnded" "Z" ∈ wsX0_takeFrom := by decide +kernel
def fX0_takeFrom  (g : Nat) (a1 : Int32) (a2 : Int32) (X : XM) : Option (Int32 × XM) := zi (fX0_hasPile g a1 X) (fun r_2 X_1 => if r_2 = 0 then some (0, X_1) else zd a1 4 (zl (a2 * (X_1 g (12 + 4 * (Int32.toNatClampNeg a1)))) (fun v_7 => zl (xup X_1 g (11 + 4 * (Int32.toNatClampNeg a1)) ((X_1 g (11 + 4 * (Int32.toNatClampNeg a1))) - a2)) (fun X_9 => zi (fX0_player g (X_9 g 3) X_9) (fun r_12 X_11 => zl (xup X_11 g (9 + r_12) ((X_11 g (9 + r_12)) + v_7)) (fun X_14 => if (X_14 g (13 + 4 * (Int32.toNatClampNeg a1))) = 0 then zl (xup X_14 g 5 0) (fun X_17 => zv (fX0_turnOver g 0 X_17) (fun X_19 => some (v_7, X_19))) else if (X_14 g (11 + 4 * (Int32.toNatClampNeg a1))) = 0 then zl (xup X_14 g 5 1) (fun X_26 => zv (fX0_turnOver g 0 X_26) (fun X_28 => some (v_7, X_28))) else zl (xup X_14 g 5 0) (fun X_22 => zv (fX0_turnOver g 0 X_22) (fun X_24 => some (v_7, X_24)))))))))
set_option maxHeartbeats 4000000 in
set_option maxRecDepth 100000 in
theorem mX0_takeFrom (l : Launch) (D : va_G) (L : Nat → Nat) (ac : Nat → ClassId) (hL : LL L) (X : XM) (g : Nat) (hg : g < 11) (a1 : Int32) (a2 : Int32) (r0 : Int32) (X0 : XM) (hf : fX0_takeFrom g a1 a2 X = some (r0, X0)) : Ci l yX0_takeFrom wsX0_takeFrom ({ frames := 1, cells := 0, slots := 0, locals := 21 }) D L ac X [.ref (L (aG g)), .int a1, .int a2] r0 X0 := by
  refine Met.ofK (cc := cX0_takeFrom) (maxL := 5) (ret := (some .int)) (lv := [(0, .ref (L (aG g))), (1, .int a1), (2, .int a2)]) (by decide +kernel) rfl (Nat.le_of_ble_eq_true rfl) rfl ?_
  intro p e s m below meth c F hO ls hl
  obtain ⟨hx, hb, hr, hts, hown, hlocks, hml, hK, hN⟩ := id F
  have hA : ∀ q, fr L q → fr L q := fun q h => h
  unfold fX0_takeFrom at hf
  refine lv_aload_n hx hb dX0_takeFrom_0 rfl (lv_at hl 0 rfl) ?_
  refine lv_iload_n hx hb dX0_takeFrom_1 rfl (lv_at hl 1 rfl) ?_
  replace hf := zi_some hf
  obtain ⟨r_2, X_1, hc_1, hf⟩ := hf
  refine k_ai (va_runV (As := [.int a1]) (rest := []) ⟨hx, hb, hml, hown, hts⟩ (mX0_hasPile l D L ac hL _ g hg a1 _ _ hc_1) (cwV 1 hts gX0_takeFrom_X0_hasPile rfl rfl rfl (by decide +kernel) ⟨Nat.le_of_ble_eq_true rfl, Nat.le_of_ble_eq_true rfl⟩) (k_pv (j := (aG g)) hK hN hO (aG_lt hg) (cn_G g) rfl _) rfl rfl hl.1 rfl (lv_room (Nat.le_of_ble_eq_true rfl)) dX0_takeFrom_2 ⟨Nat.le_of_ble_eq_true rfl, Nat.le_of_ble_eq_true rfl⟩) hA hO (fun H_3 locs_3 hO_3 => ?_)
  clear hO
  refine lv_if_ne (tgt := 10) hx hb dX0_takeFrom_5 (by decide) (fun c_4 => ?_) (fun c_4 => ?_)
  · rw [if_neg c_4] at hf
    refine lv_aload_n hx hb dX0_takeFrom_10 rfl (lv_at hl 0 rfl) ?_
    refine k_get (k := 2) (v := .ref (L (aA g))) hx hb hts in_X0_takeFrom_X0 hown hK hO_3 (aG_lt hg) (cn_G g) rfl (by decide) lk_X0_takeFrom_f20 rfl dX0_takeFrom_11 ?_
    refine lv_iload_n hx hb dX0_takeFrom_14 rfl (lv_at hl 1 rfl) ?_
    replace hf := zd_some hf
    obtain ⟨hi_5, hf⟩ := hf
    refine k_aald hx hb hK hO_3 (aA_lt hg) (ct_A g) rfl hi_5 dX0_takeFrom_15 ?_
    refine lv_topr (b := L (aP g (Int32.toNatClampNeg a1))) rfl ?_
    refine lv_astore_n (lv' := [(3, .ref (L (aP g (Int32.toNatClampNeg a1)))), (0, .ref (L (aG g))), (1, .int a1), (2, .int a2)]) hx hb dX0_takeFrom_16 rfl hl (by decide) rfl (fun ls_6 hl_6 => ?_)
    clear hl
    refine lv_iload_n hx hb dX0_takeFrom_17 rfl (lv_at hl_6 3 rfl) ?_
    refine lv_aload_n hx hb dX0_takeFrom_18 rfl (lv_at hl_6 0 rfl) ?_
    refine k_getN (k := 2) (v := .int (X_1 g (12 + 4 * (Int32.toNatClampNeg a1)))) hx hb hts in_X0_takeFrom_X3 hown hK hN hO_3 (aP_lt hg (vp_lt hi_5)) (cn_P g (Int32.toNatClampNeg a1) (vp_lt hi_5)) rfl (by decide) nx_field_X0_101 rfl dX0_takeFrom_19 ?_
    refine lv_imul hx hb dX0_takeFrom_22 ?_
    replace hf := zl_some hf
    obtain ⟨v_7, hv_7, hf⟩ := hf
    refine lv_tope hv_7 ?_
    refine lv_istore (lv' := [(4, .int v_7), (3, .ref (L (aP g (Int32.toNatClampNeg a1)))), (0, .ref (L (aG g))), (1, .int a1), (2, .int a2)]) hx hb dX0_takeFrom_23 hl_6 (by decide) rfl (fun ls_8 hl_8 => ?_)
    clear hl_6
    refine lv_aload_n hx hb dX0_takeFrom_25 rfl (lv_at hl_8 1 rfl) ?_
    refine lv_dup hx hb dX0_takeFrom_26 rfl ?_
    refine k_getN (k := 0) (v := .int (X_1 g (11 + 4 * (Int32.toNatClampNeg a1)))) hx hb hts in_X0_takeFrom_X3 hown hK hN hO_3 (aP_lt hg (vp_lt hi_5)) (cn_P g (Int32.toNatClampNeg a1) (vp_lt hi_5)) rfl (by decide) nx_field_X0_61 rfl dX0_takeFrom_27 ?_
    refine lv_iload_n hx hb dX0_takeFrom_30 rfl (lv_at hl_8 4 rfl) ?_
    refine lv_isub hx hb dX0_takeFrom_31 ?_
    refine k_putN (ty := .int) (k := 0) (r := g) (k' := 11 + 4 * (Int32.toNatClampNeg a1)) hx hb tyX3 tyX3_ok nmX3 hts in_X0_takeFrom_X3 hown hK hN hL hA hO_3 (aP_lt hg (vp_lt hi_5)) (ow_P hg (by omega) (by omega)) (by omega) (fun Y => (cn_P g (Int32.toNatClampNeg a1) (vp_lt hi_5))) (pf_P0 g (Int32.toNatClampNeg a1)) rfl (by decide) nx_field_X0_61 rfl (by decide +kernel) rfl rfl (Nat.le_of_ble_eq_true rfl) dX0_takeFrom_32 (fun H_10 locs_10 hO_10 => ?_)
    replace hf := zl_some hf
    obtain ⟨X_9, hX_9, hf⟩ := hf
    have hQ_10 := zo_eq hX_9 hO_10
    clear hO_10 hO_3
    refine lv_aload_n hx hb dX0_takeFrom_35 rfl (lv_at hl_8 2 rfl) ?_
    refine lv_aload_n hx hb dX0_takeFrom_36 rfl (lv_at hl_8 2 rfl) ?_
    refine k_get (k := 6) (v := .int (X_9 g 3)) hx hb hts in_X0_takeFrom_X0 hown hK hQ_10 (aG_lt hg) (cn_G g) rfl (by decide) lk_X0_takeFrom_f45 rfl dX0_takeFrom_37 ?_
    replace hf := zi_some hf
    obtain ⟨r_12, X_11, hc_11, hf⟩ := hf
    refine k_ar (va_runV (As := [.int (X_9 g 3)]) (rest := []) ⟨hx, hb, hml, hown, hts⟩ (mX0_player l D L ac hL _ g hg (X_9 g 3) _ _ hc_11) (cwV 1 hts gX0_takeFrom_X0_player rfl rfl rfl (by decide +kernel) ⟨Nat.le_of_ble_eq_true rfl, Nat.le_of_ble_eq_true rfl⟩) (k_pv (j := (aG g)) hK hN hQ_10 (aG_lt hg) (cn_G g) rfl _) rfl rfl hl_8.1 rfl (lv_room (Nat.le_of_ble_eq_true rfl)) dX0_takeFrom_40 ⟨Nat.le_of_ble_eq_true rfl, Nat.le_of_ble_eq_true rfl⟩) hA hQ_10 (fun H_13 locs_13 hO_13 => ?_)
    clear hQ_10
    have hw_r_12 : r_12 < 2 := ltX0_player hc_11
    refine lv_dup hx hb dX0_takeFrom_43 rfl ?_
    refine k_getN (k := 0) (v := .int (X_11 g (9 + r_12))) hx hb hts in_X0_takeFrom_X4 hown hK hN hO_13 (aY_lt hg hw_r_12) (cn_Y g r_12 hw_r_12) rfl (by decide) nx_field_X0_64 rfl dX0_takeFrom_44 ?_
    refine lv_iload hx hb dX0_takeFrom_47 (lv_at hl_8 0 rfl) ?_
    refine lv_iadd hx hb dX0_takeFrom_49 ?_
    refine k_putN (ty := .int) (k := 0) (r := g) (k' := 9 + r_12) hx hb tyX4 tyX4_ok nmX4 hts in_X0_takeFrom_X4 hown hK hN hL hA hO_13 (aY_lt hg hw_r_12) (ow_Y9 (w := r_12) hg hw_r_12) (by omega) (fun Y => (cn_Y g r_12 hw_r_12)) (pf_Y9 g r_12 hw_r_12) rfl (by decide) nx_field_X0_64 rfl (by decide +kernel) rfl rfl (Nat.le_of_ble_eq_true rfl) dX0_takeFrom_50 (fun H_15 locs_15 hO_15 => ?_)
    replace hf := zl_some hf
    obtain ⟨X_14, hX_14, hf⟩ := hf
    have hQ_15 := zo_eq hX_14 hO_15
    clear hO_15 hO_13
    refine lv_aload_n hx hb dX0_takeFrom_53 rfl (lv_at hl_8 2 rfl) ?_
    refine lv_aload_n hx hb dX0_takeFrom_54 rfl (lv_at hl_8 1 rfl) ?_
    refine k_getN (k := 3) (v := .int (X_14 g (13 + 4 * (Int32.toNatClampNeg a1)))) hx hb hts in_X0_takeFrom_X3 hown hK hN hQ_15 (aP_lt hg (vp_lt hi_5)) (cn_P g (Int32.toNatClampNeg a1) (vp_lt hi_5)) rfl (by decide) nx_field_X0_104 rfl dX0_takeFrom_55 ?_
    refine lv_if_eq (tgt := 72) hx hb dX0_takeFrom_58 (by decide) (fun c_16 => ?_) (fun c_16 => ?_)
    · rw [if_pos c_16] at hf
      refine lv_iconst (v := 0) hx hb dX0_takeFrom_72 (by decide) ?_
      refine k_put (ty := .boolean) (k := 9) (r := g) (k' := 5) hx hb tyX0 tyX0_ok nmX0 hts in_X0_takeFrom_X0 hown hK  hL hA hQ_15 (aG_lt hg) (ow_G hg (by decide)) (by omega) (fun Y => (cn_G g)) (pf_G5 g) rfl (by decide) lk_X0_takeFrom_f55 rfl (by decide +kernel) (bo_n (by decide)) (bo_f (by decide)) (Nat.le_of_ble_eq_true rfl) dX0_takeFrom_73 (fun H_18 locs_18 hO_18 => ?_)
      replace hf := zl_some hf
      obtain ⟨X_17, hX_17, hf⟩ := hf
      have hQ_18 := zo_eq hX_17 hO_18
      clear hO_18 hQ_15
      refine lv_aload_n hx hb dX0_takeFrom_76 rfl (lv_at hl_8 2 rfl) ?_
      refine lv_iconst (v := 0) hx hb dX0_takeFrom_77 (by decide) ?_
      replace hf := zv_some hf
      obtain ⟨X_19, hc_19, hf⟩ := hf
      refine k_av (va_runV (As := [.int 0]) (rest := []) ⟨hx, hb, hml, hown, hts⟩ (mX0_turnOver l D L ac hL _ g hg 0 _ hc_19) (cwV 1 hts gX0_takeFrom_X0_turnOver rfl rfl rfl (by decide +kernel) ⟨Nat.le_of_ble_eq_true rfl, Nat.le_of_ble_eq_true rfl⟩) (k_pv (j := (aG g)) hK hN hQ_18 (aG_lt hg) (cn_G g) rfl _) rfl rfl hl_8.1 rfl (lv_room (Nat.le_of_ble_eq_true rfl)) dX0_takeFrom_78 ⟨Nat.le_of_ble_eq_true rfl, Nat.le_of_ble_eq_true rfl⟩) hA hQ_18 (fun H_20 locs_20 hO_20 => ?_)
      clear hQ_18
      refine lv_iload hx hb dX0_takeFrom_81 (lv_at hl_8 0 rfl) ?_
      obtain ⟨rfl, rfl⟩ := Prod.mk.inj (Option.some.inj hf)
      exact e_i hx hb hr hK hN hO_20 hlocks dX0_takeFrom_83
    · rw [if_neg c_16] at hf
      refine lv_aload_n hx hb dX0_takeFrom_61 rfl (lv_at hl_8 1 rfl) ?_
      refine k_getN (k := 0) (v := .int (X_14 g (11 + 4 * (Int32.toNatClampNeg a1)))) hx hb hts in_X0_takeFrom_X3 hown hK hN hQ_15 (aP_lt hg (vp_lt hi_5)) (cn_P g (Int32.toNatClampNeg a1) (vp_lt hi_5)) rfl (by decide) nx_field_X0_61 rfl dX0_takeFrom_62 ?_
      refine lv_if_ne (tgt := 72) hx hb dX0_takeFrom_65 (by decide) (fun c_21 => ?_) (fun c_21 => ?_)
      · rw [if_neg c_21] at hf
        refine lv_iconst (v := 0) hx hb dX0_takeFrom_72 (by decide) ?_
        refine k_put (ty := .boolean) (k := 9) (r := g) (k' := 5) hx hb tyX0 tyX0_ok nmX0 hts in_X0_takeFrom_X0 hown hK  hL hA hQ_15 (aG_lt hg) (ow_G hg (by decide)) (by omega) (fun Y => (cn_G g)) (pf_G5 g) rfl (by decide) lk_X0_takeFrom_f55 rfl (by decide +kernel) (bo_n (by decide)) (bo_f (by decide)) (Nat.le_of_ble_eq_true rfl) dX0_takeFrom_73 (fun H_23 locs_23 hO_23 => ?_)
        replace hf := zl_some hf
        obtain ⟨X_22, hX_22, hf⟩ := hf
        have hQ_23 := zo_eq hX_22 hO_23
        clear hO_23 hQ_15
        refine lv_aload_n hx hb dX0_takeFrom_76 rfl (lv_at hl_8 2 rfl) ?_
        refine lv_iconst (v := 0) hx hb dX0_takeFrom_77 (by decide) ?_
        replace hf := zv_some hf
        obtain ⟨X_24, hc_24, hf⟩ := hf
        refine k_av (va_runV (As := [.int 0]) (rest := []) ⟨hx, hb, hml, hown, hts⟩ (mX0_turnOver l D L ac hL _ g hg 0 _ hc_24) (cwV 1 hts gX0_takeFrom_X0_turnOver rfl rfl rfl (by decide +kernel) ⟨Nat.le_of_ble_eq_true rfl, Nat.le_of_ble_eq_true rfl⟩) (k_pv (j := (aG g)) hK hN hQ_23 (aG_lt hg) (cn_G g) rfl _) rfl rfl hl_8.1 rfl (lv_room (Nat.le_of_ble_eq_true rfl)) dX0_takeFrom_78 ⟨Nat.le_of_ble_eq_true rfl, Nat.le_of_ble_eq_true rfl⟩) hA hQ_23 (fun H_25 locs_25 hO_25 => ?_)
        clear hQ_23
        refine lv_iload hx hb dX0_takeFrom_81 (lv_at hl_8 0 rfl) ?_
        obtain ⟨rfl, rfl⟩ := Prod.mk.inj (Option.some.inj hf)
        exact e_i hx hb hr hK hN hO_25 hlocks dX0_takeFrom_83
      · rw [if_pos c_21] at hf
        refine lv_iconst (v := 1) hx hb dX0_takeFrom_68 (by decide) ?_
        refine lv_goto (tgt := 73) hx hb dX0_takeFrom_69 (by decide) ?_
        refine k_put (ty := .boolean) (k := 9) (r := g) (k' := 5) hx hb tyX0 tyX0_ok nmX0 hts in_X0_takeFrom_X0 hown hK  hL hA hQ_15 (aG_lt hg) (ow_G hg (by decide)) (by omega) (fun Y => (cn_G g)) (pf_G5 g) rfl (by decide) lk_X0_takeFrom_f55 rfl (by decide +kernel) (bo_n (by decide)) (bo_f (by decide)) (Nat.le_of_ble_eq_true rfl) dX0_takeFrom_73 (fun H_27 locs_27 hO_27 => ?_)
        replace hf := zl_some hf
        obtain ⟨X_26, hX_26, hf⟩ := hf
        have hQ_27 := zo_eq hX_26 hO_27
        clear hO_27 hQ_15
        refine lv_aload_n hx hb dX0_takeFrom_76 rfl (lv_at hl_8 2 rfl) ?_
        refine lv_iconst (v := 0) hx hb dX0_takeFrom_77 (by decide) ?_
        replace hf := zv_some hf
        obtain ⟨X_28, hc_28, hf⟩ := hf
        refine k_av (va_runV (As := [.int 0]) (rest := []) ⟨hx, hb, hml, hown, hts⟩ (mX0_turnOver l D L ac hL _ g hg 0 _ hc_28) (cwV 1 hts gX0_takeFrom_X0_turnOver rfl rfl rfl (by decide +kernel) ⟨Nat.le_of_ble_eq_true rfl, Nat.le_of_ble_eq_true rfl⟩) (k_pv (j := (aG g)) hK hN hQ_27 (aG_lt hg) (cn_G g) rfl _) rfl rfl hl_8.1 rfl (lv_room (Nat.le_of_ble_eq_true rfl)) dX0_takeFrom_78 ⟨Nat.le_of_ble_eq_true rfl, Nat.le_of_ble_eq_true rfl⟩) hA hQ_27 (fun H_29 locs_29 hO_29 => ?_)
        clear hQ_27
        refine lv_iload hx hb dX0_takeFrom_81 (lv_at hl_8 0 rfl) ?_
        obtain ⟨rfl, rfl⟩ := Prod.mk.inj (Option.some.inj hf)
        exact e_i hx hb hr hK hN hO_29 hlocks dX0_takeFrom_83
  · rw [if_pos c_4] at hf
    subst c_4
    refine lv_iconst (v := 0) hx hb dX0_takeFrom_8 (by decide) ?_
    obtain ⟨rfl, rfl⟩ := Prod.mk.inj (Option.some.inj hf)
    exact e_i hx hb hr hK hN hO_3 hlocks dX0_takeFrom_9
theorem in_X0_usePass_X0 : ∀ w ∈ u_ws RX0 TX0 10, w ∈ wsX0_usePass := by decide +kernel
theorem in_X0_usePass_X4 : ∀ w ∈ u_ws RX4 TX4 2, w ∈ wsX0_usePass := by decide +kernel
theorem lk_X0_usePass_f45 : Cond.fieldLink RX0 45 "PoisonPiles$Game" "mover" "I" ∈ wsX0_usePass := by decide +kernel
def fX0_usePass  (g : Nat) (X : XM) : Option (Int32 × XM) := zi (fX0_player g (X g 3) X) (fun r_2 X_1 => zl (xup X_1 g (7 + r_2) ((X_1 g (7 + r_2)) - 1)) (fun X_5 => zv (fX0_turnOver g 1 X_5) (fun X_7 => some (X_7 g (7 + r_2), X_7))))
set_option maxHeartbeats 4000000 in
set_option maxRecDepth 100000 in
theorem mX0_usePass (l : Launch) (D : va_G) (L : Nat → Nat) (ac : Nat → ClassId) (hL : LL L) (X : XM) (g : Nat) (hg : g < 11) (r0 : Int32) (X0 : XM) (hf : fX0_usePass g X = some (r0, X0)) : Ci l yX0_usePass wsX0_usePass ({ frames := 1, cells := 0, slots := 0, locals := 21 }) D L ac X [.ref (L (aG g))] r0 X0 := by
  refine Met.ofK (cc := cX0_usePass) (maxL := 2) (ret := (some .int)) (lv := [(0, .ref (L (aG g)))]) (by decide +kernel) rfl (Nat.le_of_ble_eq_true rfl) rfl ?_
  intro p e s m below meth c F hO ls hl
  obtain ⟨hx, hb, hr, hts, hown, hlocks, hml, hK, hN⟩ := id F
  have hA : ∀ q, fr L q → fr L q := fun q h => h
  unfold fX0_usePass at hf
  refine lv_aload_n hx hb dX0_usePass_0 rfl (lv_at hl 0 rfl) ?_
  refine lv_aload_n hx hb dX0_usePass_1 rfl (lv_at hl 0 rfl) ?_
  refine k_get (k := 6) (v := .int (X g 3)) hx hb hts in_X0_usePass_X0 hown hK hO (aG_lt hg) (cn_G g) rfl (by decide) lk_X0_usePass_f45 rfl dX0_usePass_2 ?_
  replace hf := zi_some hf
  obtain ⟨r_2, X_1, hc_1, hf⟩ := hf
  refine k_ar (va_runV (As := [.int (X g 3)]) (rest := []) ⟨hx, hb, hml, hown, hts⟩ (mX0_player l D L ac hL _ g hg (X g 3) _ _ hc_1) (cwV 1 hts gX0_usePass_X0_player rfl rfl rfl (by decide +kernel) ⟨Nat.le_of_ble_eq_true rfl, Nat.le_of_ble_eq_true rfl⟩) (k_pv (j := (aG g)) hK hN hO (aG_lt hg) (cn_G g) rfl _) rfl rfl hl.1 rfl (lv_room (Nat.le_of_ble_eq_true rfl)) dX0_usePass_5 ⟨Nat.le_of_ble_eq_true rfl, Nat.le_of_ble_eq_true rfl⟩) hA hO (fun H_3 locs_3 hO_3 => ?_)
  clear hO
  have hw_r_2 : r_2 < 2 := ltX0_player hc_1
  refine lv_astore_n (lv' := [(1, .ref (L (aY g r_2))), (0, .ref (L (aG g)))]) hx hb dX0_usePass_8 rfl hl (by decide) rfl (fun ls_4 hl_4 => ?_)
  clear hl
  refine lv_aload_n hx hb dX0_usePass_9 rfl (lv_at hl_4 0 rfl) ?_
  refine lv_dup hx hb dX0_usePass_10 rfl ?_
  refine k_getN (k := 1) (v := .int (X_1 g (7 + r_2))) hx hb hts in_X0_usePass_X4 hown hK hN hO_3 (aY_lt hg hw_r_2) (cn_Y g r_2 hw_r_2) rfl (by decide) nx_field_X0_75 rfl dX0_usePass_11 ?_
  refine lv_iconst (v := 1) hx hb dX0_usePass_14 (by decide) ?_
  refine lv_isub hx hb dX0_usePass_15 ?_
  refine k_putN (ty := .int) (k := 1) (r := g) (k' := 7 + r_2) hx hb tyX4 tyX4_ok nmX4 hts in_X0_usePass_X4 hown hK hN hL hA hO_3 (aY_lt hg hw_r_2) (ow_Y7 (w := r_2) hg hw_r_2) (by omega) (fun Y => (cn_Y g r_2 hw_r_2)) (pf_Y7 g r_2 hw_r_2) rfl (by decide) nx_field_X0_75 rfl (by decide +kernel) rfl rfl (Nat.le_of_ble_eq_true rfl) dX0_usePass_16 (fun H_6 locs_6 hO_6 => ?_)
  replace hf := zl_some hf
  obtain ⟨X_5, hX_5, hf⟩ := hf
  have hQ_6 := zo_eq hX_5 hO_6
  clear hO_6 hO_3
  refine lv_aload_n hx hb dX0_usePass_19 rfl (lv_at hl_4 1 rfl) ?_
  refine lv_iconst (v := 1) hx hb dX0_usePass_20 (by decide) ?_
  replace hf := zv_some hf
  obtain ⟨X_7, hc_7, hf⟩ := hf
  refine k_av (va_runV (As := [.int 1]) (rest := []) ⟨hx, hb, hml, hown, hts⟩ (mX0_turnOver l D L ac hL _ g hg 1 _ hc_7) (cwV 1 hts gX0_usePass_X0_turnOver rfl rfl rfl (by decide +kernel) ⟨Nat.le_of_ble_eq_true rfl, Nat.le_of_ble_eq_true rfl⟩) (k_pv (j := (aG g)) hK hN hQ_6 (aG_lt hg) (cn_G g) rfl _) rfl rfl hl_4.1 rfl (lv_room (Nat.le_of_ble_eq_true rfl)) dX0_usePass_21 ⟨Nat.le_of_ble_eq_true rfl, Nat.le_of_ble_eq_true rfl⟩) hA hQ_6 (fun H_8 locs_8 hO_8 => ?_)
  clear hQ_6
  refine lv_aload_n hx hb dX0_usePass_24 rfl (lv_at hl_4 0 rfl) ?_
  refine k_getN (k := 1) (v := .int (X_7 g (7 + r_2))) hx hb hts in_X0_usePass_X4 hown hK hN hO_8 (aY_lt hg hw_r_2) (cn_Y g r_2 hw_r_2) rfl (by decide) nx_field_X0_75 rfl dX0_usePass_25 ?_
  obtain ⟨rfl, rfl⟩ := Prod.mk.inj (Option.some.inj hf)
  exact e_i hx hb hr hK hN hO_8 hlocks dX0_usePass_28
def fX0_make  (g : Nat) (a1 : Int32) (X : XM) : Option XM := zi (fX0_allows g a1 X) (fun r_2 X_1 => if r_2 = 0 then some X_1 else if a1 = 20 then zi (fX0_usePass g X_1) (fun r_10 X_9 => some X_9) else zi (fX0_takeFrom g (a1 / 5) ((o_rem a1 5) + 1) X_1) (fun r_7 X_6 => some X_6))
set_option maxHeartbeats 4000000 in
set_option maxRecDepth 100000 in
theorem mX0_make (l : Launch) (D : va_G) (L : Nat → Nat) (ac : Nat → ClassId) (hL : LL L) (X : XM) (g : Nat) (hg : g < 11) (a1 : Int32) (X0 : XM) (hf : fX0_make g a1 X = some X0) : Cv l yX0_make wsX0_make ({ frames := 3, cells := 0, slots := 0, locals := 68 }) D L ac X [.ref (L (aG g)), .int a1] X0 := by
  refine Met.ofK (cc := cX0_make) (maxL := 2) (ret := none) (lv := [(0, .ref (L (aG g))), (1, .int a1)]) (by decide +kernel) rfl (Nat.le_of_ble_eq_true rfl) rfl ?_
  intro p e s m below meth c F hO ls hl
  obtain ⟨hx, hb, hr, hts, hown, hlocks, hml, hK, hN⟩ := id F
  have hA : ∀ q, fr L q → fr L q := fun q h => h
  unfold fX0_make at hf
  refine lv_aload_n hx hb dX0_make_0 rfl (lv_at hl 0 rfl) ?_
  refine lv_iload_n hx hb dX0_make_1 rfl (lv_at hl 1 rfl) ?_
  replace hf := zi_some hf
  obtain ⟨r_2, X_1, hc_1, hf⟩ := hf
  refine k_ai (va_runV (As := [.int a1]) (rest := []) ⟨hx, hb, hml, hown, hts⟩ (mX0_allows l D L ac hL _ g hg a1 _ _ hc_1) (cwV 1 hts gX0_make_X0_allows rfl rfl rfl (by decide +kernel) ⟨Nat.le_of_ble_eq_true rfl, Nat.le_of_ble_eq_true rfl⟩) (k_pv (j := (aG g)) hK hN hO (aG_lt hg) (cn_G g) rfl _) rfl rfl hl.1 rfl (lv_room (Nat.le_of_ble_eq_true rfl)) dX0_make_2 ⟨Nat.le_of_ble_eq_true rfl, Nat.le_of_ble_eq_true rfl⟩) hA hO (fun H_3 locs_3 hO_3 => ?_)
  clear hO
  refine lv_if_ne (tgt := 9) hx hb dX0_make_5 (by decide) (fun c_4 => ?_) (fun c_4 => ?_)
  · rw [if_neg c_4] at hf
    refine lv_iload_n hx hb dX0_make_9 rfl (lv_at hl 1 rfl) ?_
    refine lv_bipush (v := 20) hx hb dX0_make_10 (by decide) ?_
    refine lv_icmp_ne (tgt := 23) hx hb dX0_make_12 (by decide) (fun c_5 => ?_) (fun c_5 => ?_)
    · rw [if_neg c_5] at hf
      refine lv_aload_n hx hb dX0_make_23 rfl (lv_at hl 0 rfl) ?_
      refine lv_iload_n hx hb dX0_make_24 rfl (lv_at hl 1 rfl) ?_
      refine lv_iconst (v := 5) hx hb dX0_make_25 (by decide) ?_
      refine lv_idiv hx hb dX0_make_26 (by decide) ?_
      refine lv_iload_n hx hb dX0_make_27 rfl (lv_at hl 1 rfl) ?_
      refine lv_iconst (v := 5) hx hb dX0_make_28 (by decide) ?_
      refine lv_irem hx hb dX0_make_29 (by decide) ?_
      refine lv_iconst (v := 1) hx hb dX0_make_30 (by decide) ?_
      refine lv_iadd hx hb dX0_make_31 ?_
      replace hf := zi_some hf
      obtain ⟨r_7, X_6, hc_6, hf⟩ := hf
      refine k_ai (va_runV (As := [.int (a1 / 5), .int ((o_rem a1 5) + 1)]) (rest := []) ⟨hx, hb, hml, hown, hts⟩ (mX0_takeFrom l D L ac hL _ g hg (a1 / 5) ((o_rem a1 5) + 1) _ _ hc_6) (cwV 2 hts gX0_make_X0_takeFrom rfl rfl rfl (by decide +kernel) ⟨Nat.le_of_ble_eq_true rfl, Nat.le_of_ble_eq_true rfl⟩) (k_pv (j := (aG g)) hK hN hO_3 (aG_lt hg) (cn_G g) rfl _) rfl rfl hl.1 rfl (lv_room (Nat.le_of_ble_eq_true rfl)) dX0_make_32 ⟨Nat.le_of_ble_eq_true rfl, Nat.le_of_ble_eq_true rfl⟩) hA hO_3 (fun H_8 locs_8 hO_8 => ?_)
      clear hO_3
      refine lv_pop hx hb dX0_make_35 rfl ?_
      obtain rfl := Option.some.inj hf
      exact e_v hx hb hr hK hN hO_8 hlocks dX0_make_36
    · rw [if_pos c_5] at hf
      subst c_5
      refine lv_aload_n hx hb dX0_make_15 rfl (lv_at hl 0 rfl) ?_
      replace hf := zi_some hf
      obtain ⟨r_10, X_9, hc_9, hf⟩ := hf
      refine k_ai (va_runV (As := []) (rest := []) ⟨hx, hb, hml, hown, hts⟩ (mX0_usePass l D L ac hL _ g hg _ _ hc_9) (cwV 0 hts gX0_make_X0_usePass rfl rfl rfl (by decide +kernel) ⟨Nat.le_of_ble_eq_true rfl, Nat.le_of_ble_eq_true rfl⟩) (k_pv (j := (aG g)) hK hN hO_3 (aG_lt hg) (cn_G g) rfl _) rfl rfl hl.1 rfl (lv_room (Nat.le_of_ble_eq_true rfl)) dX0_make_16 ⟨Nat.le_of_ble_eq_true rfl, Nat.le_of_ble_eq_true rfl⟩) hA hO_3 (fun H_11 locs_11 hO_11 => ?_)
      clear hO_3
      refine lv_pop hx hb dX0_make_19 rfl ?_
      refine lv_goto (tgt := 36) hx hb dX0_make_20 (by decide) ?_
      obtain rfl := Option.some.inj hf
      exact e_v hx hb hr hK hN hO_11 hlocks dX0_make_36
  · rw [if_pos c_4] at hf
    subst c_4
    obtain rfl := Option.some.inj hf
    exact e_v hx hb hr hK hN hO_3 hlocks dX0_make_8
theorem in_X0_restart_X0 : ∀ w ∈ u_ws RX0 TX0 10, w ∈ wsX0_restart := by decide +kernel
theorem in_X0_restart_X3 : ∀ w ∈ u_ws RX3 TX3 4, w ∈ wsX0_restart := by decide +kernel
theorem in_X0_restart_X4 : ∀ w ∈ u_ws RX4 TX4 2, w ∈ wsX0_restart := by decide +kernel
theorem lk_X0_restart_f20 : Cond.fieldLink RX0 20 "PoisonPiles$Game" "piles" "[LPoisonPiles$Pile;" ∈ wsX0_restart := by decide +kernel
theorem lk_X0_restart_f27 : Cond.fieldLink RX0 27 "PoisonPiles$Game" "first" "LPoisonPiles$Player;" ∈ wsX0_restart := by decide +kernel
theorem lk_X0_restart_f31 : Cond.fieldLink RX0 31 "PoisonPiles$Game" "second" "LPoisonPiles$Player;" ∈ wsX0_restart := by decide +kernel
theorem lk_X0_restart_f45 : Cond.fieldLink RX0 45 "PoisonPiles$Game" "mover" "I" ∈ wsX0_restart := by decide +kernel
theorem lk_X0_restart_f48 : Cond.fieldLink RX0 48 "PoisonPiles$Game" "moveCount" "I" ∈ wsX0_restart := by decide +kernel
theorem lk_X0_restart_f51 : Cond.fieldLink RX0 51 "PoisonPiles$Game" "passAhead" "Z" ∈ wsX0_restart := by decide +kernel
theorem lk_X0_restart_f55 : Cond.fieldLink RX0 55 "PoisonPiles$Game" "poisonEnded" "Z" ∈ wsX0_restart := by decide +kernel
def fX0_restart  (g : Nat) (X : XM) : Option XM := zl (xup X g 11 (X g 14)) (fun X_6 => zl (xup X_6 g 15 (X_6 g 18)) (fun X_11 => zl (xup X_11 g 19 (X_11 g 22)) (fun X_16 => zl (xup X_16 g 23 (X_16 g 26)) (fun X_21 => zl (xup X_21 g 9 0) (fun X_25 => zl (xup X_25 g 10 0) (fun X_27 => zl (xup X_27 g 3 0) (fun X_29 => zl (xup X_29 g 6 0) (fun X_31 => zl (xup X_31 g 4 0) (fun X_33 => zl (xup X_33 g 5 0) (fun X_35 => some X_35))))))))))
set_option maxHeartbeats 4000000 in
set_option maxRecDepth 100000 in
theorem mX0_restart (l : Launch) (D : va_G) (L : Nat → Nat) (ac : Nat → ClassId) (hL : LL L) (X : XM) (g : Nat) (hg : g < 11) (X0 : XM) (hf : fX0_restart g X = some X0) : Cv l yX0_restart wsX0_restart ({ frames := 0, cells := 0, slots := 0, locals := 0 }) D L ac X [.ref (L (aG g))] X0 := by
  refine Met.ofK (cc := cX0_restart) (maxL := 5) (ret := none) (lv := [(0, .ref (L (aG g)))]) (by decide +kernel) rfl (Nat.le_of_ble_eq_true rfl) rfl ?_
  intro p e s m below meth c F hO ls hl
  obtain ⟨hx, hb, hr, hts, hown, hlocks, hml, hK, hN⟩ := id F
  have hA : ∀ q, fr L q → fr L q := fun q h => h
  unfold fX0_restart at hf
  refine lv_aload_n hx hb dX0_restart_0 rfl (lv_at hl 0 rfl) ?_
  refine k_get (k := 2) (v := .ref (L (aA g))) hx hb hts in_X0_restart_X0 hown hK hO (aG_lt hg) (cn_G g) rfl (by decide) lk_X0_restart_f20 rfl dX0_restart_1 ?_
  refine lv_astore_n (lv' := [(1, .ref (L (aA g))), (0, .ref (L (aG g)))]) hx hb dX0_restart_4 rfl hl (by decide) rfl (fun ls_1 hl_1 => ?_)
  clear hl
  refine lv_aload_n hx hb dX0_restart_5 rfl (lv_at hl_1 0 rfl) ?_
  refine k_alen (v := 4) (t := 3) hx hb hK hO (aA_lt hg) (ct_A g) rfl rfl dX0_restart_6 ?_
  refine lv_istore_n (lv' := [(2, .int 4), (1, .ref (L (aA g))), (0, .ref (L (aG g)))]) hx hb dX0_restart_7 rfl hl_1 (by decide) rfl (fun ls_2 hl_2 => ?_)
  clear hl_1
  refine lv_iconst (v := 0) hx hb dX0_restart_8 (by decide) ?_
  refine lv_istore_n (lv' := [(3, .int 0), (2, .int 4), (1, .ref (L (aA g))), (0, .ref (L (aG g)))]) hx hb dX0_restart_9 rfl hl_2 (by decide) rfl (fun ls_3 hl_3 => ?_)
  clear hl_2
  refine lv_iload_n hx hb dX0_restart_10 rfl (lv_at hl_3 0 rfl) ?_
  refine lv_iload_n hx hb dX0_restart_11 rfl (lv_at hl_3 1 rfl) ?_
  refine lv_icmp_ge (tgt := 36) hx hb dX0_restart_12 (by decide) (fun c_4 => absurd c_4 (by decide)) (fun _ => ?_)
  refine lv_aload_n hx hb dX0_restart_15 rfl (lv_at hl_3 2 rfl) ?_
  refine lv_iload_n hx hb dX0_restart_16 rfl (lv_at hl_3 0 rfl) ?_
  refine k_aald hx hb hK hO (aA_lt hg) (ct_A g) rfl (show vp_in 0 4 from by unfold vp_in; decide) dX0_restart_17 ?_
  refine lv_topr (b := L (aP g 0)) rfl ?_
  refine lv_astore (lv' := [(4, .ref (L (aP g 0))), (3, .int 0), (2, .int 4), (1, .ref (L (aA g))), (0, .ref (L (aG g)))]) hx hb dX0_restart_18 hl_3 (by decide) rfl (fun ls_5 hl_5 => ?_)
  clear hl_3
  refine lv_aload hx hb dX0_restart_20 (lv_at hl_5 0 rfl) ?_
  refine lv_aload hx hb dX0_restart_22 (lv_at hl_5 0 rfl) ?_
  refine k_getN (k := 1) (v := .int (X g 14)) hx hb hts in_X0_restart_X3 hown hK hN hO (aP_lt hg (by decide)) (cn_P g 0 (by decide)) rfl (by decide) nx_field_X0_58 rfl dX0_restart_24 ?_
  refine k_putN (ty := .int) (k := 0) (r := g) (k' := 11) hx hb tyX3 tyX3_ok nmX3 hts in_X0_restart_X3 hown hK hN hL hA hO (aP_lt hg (by decide)) (ow_P (p := 0) hg (by decide) (by decide)) (by omega) (fun Y => (cn_P g 0 (by decide))) (pf_P0 g 0) rfl (by decide) nx_field_X0_61 rfl (by decide +kernel) rfl rfl (Nat.le_of_ble_eq_true rfl) dX0_restart_27 (fun H_7 locs_7 hO_7 => ?_)
  replace hf := zl_some hf
  obtain ⟨X_6, hX_6, hf⟩ := hf
  have hQ_7 := zo_eq hX_6 hO_7
  clear hO_7 hO
  refine lv_iinc (v := 1) (lv' := [(3, .int 1), (4, .ref (L (aP g 0))), (2, .int 4), (1, .ref (L (aA g))), (0, .ref (L (aG g)))]) hx hb dX0_restart_30 hl_5 (k := 1) rfl (by decide) (by decide) rfl (fun ls_8 hl_8 => ?_)
  clear hl_5
  refine lv_goto (tgt := 10) hx hb dX0_restart_33 (by decide) ?_
  refine lv_iload_n hx hb dX0_restart_10 rfl (lv_at hl_8 0 rfl) ?_
  refine lv_iload_n hx hb dX0_restart_11 rfl (lv_at hl_8 2 rfl) ?_
  refine lv_icmp_ge (tgt := 36) hx hb dX0_restart_12 (by decide) (fun c_9 => absurd c_9 (by decide)) (fun _ => ?_)
  refine lv_aload_n hx hb dX0_restart_15 rfl (lv_at hl_8 3 rfl) ?_
  refine lv_iload_n hx hb dX0_restart_16 rfl (lv_at hl_8 0 rfl) ?_
  refine k_aald hx hb hK hQ_7 (aA_lt hg) (ct_A g) rfl (show vp_in 1 4 from by unfold vp_in; decide) dX0_restart_17 ?_
  refine lv_topr (b := L (aP g 1)) rfl ?_
  refine lv_astore (lv' := [(4, .ref (L (aP g 1))), (3, .int 1), (2, .int 4), (1, .ref (L (aA g))), (0, .ref (L (aG g)))]) hx hb dX0_restart_18 hl_8 (by decide) rfl (fun ls_10 hl_10 => ?_)
  clear hl_8
  refine lv_aload hx hb dX0_restart_20 (lv_at hl_10 0 rfl) ?_
  refine lv_aload hx hb dX0_restart_22 (lv_at hl_10 0 rfl) ?_
  refine k_getN (k := 1) (v := .int (X_6 g 18)) hx hb hts in_X0_restart_X3 hown hK hN hQ_7 (aP_lt hg (by decide)) (cn_P g 1 (by decide)) rfl (by decide) nx_field_X0_58 rfl dX0_restart_24 ?_
  refine k_putN (ty := .int) (k := 0) (r := g) (k' := 15) hx hb tyX3 tyX3_ok nmX3 hts in_X0_restart_X3 hown hK hN hL hA hQ_7 (aP_lt hg (by decide)) (ow_P (p := 1) hg (by decide) (by decide)) (by omega) (fun Y => (cn_P g 1 (by decide))) (pf_P0 g 1) rfl (by decide) nx_field_X0_61 rfl (by decide +kernel) rfl rfl (Nat.le_of_ble_eq_true rfl) dX0_restart_27 (fun H_12 locs_12 hO_12 => ?_)
  replace hf := zl_some hf
  obtain ⟨X_11, hX_11, hf⟩ := hf
  have hQ_12 := zo_eq hX_11 hO_12
  clear hO_12 hQ_7
  refine lv_iinc (v := 2) (lv' := [(3, .int 2), (4, .ref (L (aP g 1))), (2, .int 4), (1, .ref (L (aA g))), (0, .ref (L (aG g)))]) hx hb dX0_restart_30 hl_10 (k := 1) rfl (by decide) (by decide) rfl (fun ls_13 hl_13 => ?_)
  clear hl_10
  refine lv_goto (tgt := 10) hx hb dX0_restart_33 (by decide) ?_
  refine lv_iload_n hx hb dX0_restart_10 rfl (lv_at hl_13 0 rfl) ?_
  refine lv_iload_n hx hb dX0_restart_11 rfl (lv_at hl_13 2 rfl) ?_
  refine lv_icmp_ge (tgt := 36) hx hb dX0_restart_12 (by decide) (fun c_14 => absurd c_14 (by decide)) (fun _ => ?_)
  refine lv_aload_n hx hb dX0_restart_15 rfl (lv_at hl_13 3 rfl) ?_
  refine lv_iload_n hx hb dX0_restart_16 rfl (lv_at hl_13 0 rfl) ?_
  refine k_aald hx hb hK hQ_12 (aA_lt hg) (ct_A g) rfl (show vp_in 2 4 from by unfold vp_in; decide) dX0_restart_17 ?_
  refine lv_topr (b := L (aP g 2)) rfl ?_
  refine lv_astore (lv' := [(4, .ref (L (aP g 2))), (3, .int 2), (2, .int 4), (1, .ref (L (aA g))), (0, .ref (L (aG g)))]) hx hb dX0_restart_18 hl_13 (by decide) rfl (fun ls_15 hl_15 => ?_)
  clear hl_13
  refine lv_aload hx hb dX0_restart_20 (lv_at hl_15 0 rfl) ?_
  refine lv_aload hx hb dX0_restart_22 (lv_at hl_15 0 rfl) ?_
  refine k_getN (k := 1) (v := .int (X_11 g 22)) hx hb hts in_X0_restart_X3 hown hK hN hQ_12 (aP_lt hg (by decide)) (cn_P g 2 (by decide)) rfl (by decide) nx_field_X0_58 rfl dX0_restart_24 ?_
  refine k_putN (ty := .int) (k := 0) (r := g) (k' := 19) hx hb tyX3 tyX3_ok nmX3 hts in_X0_restart_X3 hown hK hN hL hA hQ_12 (aP_lt hg (by decide)) (ow_P (p := 2) hg (by decide) (by decide)) (by omega) (fun Y => (cn_P g 2 (by decide))) (pf_P0 g 2) rfl (by decide) nx_field_X0_61 rfl (by decide +kernel) rfl rfl (Nat.le_of_ble_eq_true rfl) dX0_restart_27 (fun H_17 locs_17 hO_17 => ?_)
  replace hf := zl_some hf
  obtain ⟨X_16, hX_16, hf⟩ := hf
  have hQ_17 := zo_eq hX_16 hO_17
  clear hO_17 hQ_12
  refine lv_iinc (v := 3) (lv' := [(3, .int 3), (4, .ref (L (aP g 2))), (2, .int 4), (1, .ref (L (aA g))), (0, .ref (L (aG g)))]) hx hb dX0_restart_30 hl_15 (k := 1) rfl (by decide) (by decide) rfl (fun ls_18 hl_18 => ?_)
  clear hl_15
  refine lv_goto (tgt := 10) hx hb dX0_restart_33 (by decide) ?_
  refine lv_iload_n hx hb dX0_restart_10 rfl (lv_at hl_18 0 rfl) ?_
  refine lv_iload_n hx hb dX0_restart_11 rfl (lv_at hl_18 2 rfl) ?_
  refine lv_icmp_ge (tgt := 36) hx hb dX0_restart_12 (by decide) (fun c_19 => absurd c_19 (by decide)) (fun _ => ?_)
  refine lv_aload_n hx hb dX0_restart_15 rfl (lv_at hl_18 3 rfl) ?_
  refine lv_iload_n hx hb dX0_restart_16 rfl (lv_at hl_18 0 rfl) ?_
  refine k_aald hx hb hK hQ_17 (aA_lt hg) (ct_A g) rfl (show vp_in 3 4 from by unfold vp_in; decide) dX0_restart_17 ?_
  refine lv_topr (b := L (aP g 3)) rfl ?_
  refine lv_astore (lv' := [(4, .ref (L (aP g 3))), (3, .int 3), (2, .int 4), (1, .ref (L (aA g))), (0, .ref (L (aG g)))]) hx hb dX0_restart_18 hl_18 (by decide) rfl (fun ls_20 hl_20 => ?_)
  clear hl_18
  refine lv_aload hx hb dX0_restart_20 (lv_at hl_20 0 rfl) ?_
  refine lv_aload hx hb dX0_restart_22 (lv_at hl_20 0 rfl) ?_
  refine k_getN (k := 1) (v := .int (X_16 g 26)) hx hb hts in_X0_restart_X3 hown hK hN hQ_17 (aP_lt hg (by decide)) (cn_P g 3 (by decide)) rfl (by decide) nx_field_X0_58 rfl dX0_restart_24 ?_
  refine k_putN (ty := .int) (k := 0) (r := g) (k' := 23) hx hb tyX3 tyX3_ok nmX3 hts in_X0_restart_X3 hown hK hN hL hA hQ_17 (aP_lt hg (by decide)) (ow_P (p := 3) hg (by decide) (by decide)) (by omega) (fun Y => (cn_P g 3 (by decide))) (pf_P0 g 3) rfl (by decide) nx_field_X0_61 rfl (by decide +kernel) rfl rfl (Nat.le_of_ble_eq_true rfl) dX0_restart_27 (fun H_22 locs_22 hO_22 => ?_)
  replace hf := zl_some hf
  obtain ⟨X_21, hX_21, hf⟩ := hf
  have hQ_22 := zo_eq hX_21 hO_22
  clear hO_22 hQ_17
  refine lv_iinc (v := 4) (lv' := [(3, .int 4), (4, .ref (L (aP g 3))), (2, .int 4), (1, .ref (L (aA g))), (0, .ref (L (aG g)))]) hx hb dX0_restart_30 hl_20 (k := 1) rfl (by decide) (by decide) rfl (fun ls_23 hl_23 => ?_)
  clear hl_20
  refine lv_goto (tgt := 10) hx hb dX0_restart_33 (by decide) ?_
  refine lv_iload_n hx hb dX0_restart_10 rfl (lv_at hl_23 0 rfl) ?_
  refine lv_iload_n hx hb dX0_restart_11 rfl (lv_at hl_23 2 rfl) ?_
  refine lv_icmp_ge (tgt := 36) hx hb dX0_restart_12 (by decide) (fun _ => ?_) (fun c_24 => absurd (by decide) c_24)
  refine lv_aload_n hx hb dX0_restart_36 rfl (lv_at hl_23 4 rfl) ?_
  refine k_get (k := 4) (v := .ref (L (aY g 0))) hx hb hts in_X0_restart_X0 hown hK hQ_22 (aG_lt hg) (cn_G g) rfl (by decide) lk_X0_restart_f27 rfl dX0_restart_37 ?_
  refine lv_iconst (v := 0) hx hb dX0_restart_40 (by decide) ?_
  refine k_putN (ty := .int) (k := 0) (r := g) (k' := 9) hx hb tyX4 tyX4_ok nmX4 hts in_X0_restart_X4 hown hK hN hL hA hQ_22 (aY_lt hg (by decide)) (ow_Y9 (w := 0) hg (by decide)) (by omega) (fun Y => (cn_Y g 0 (by decide))) (pf_Y9 g 0 (by decide)) rfl (by decide) nx_field_X0_64 rfl (by decide +kernel) rfl rfl (Nat.le_of_ble_eq_true rfl) dX0_restart_41 (fun H_26 locs_26 hO_26 => ?_)
  replace hf := zl_some hf
  obtain ⟨X_25, hX_25, hf⟩ := hf
  have hQ_26 := zo_eq hX_25 hO_26
  clear hO_26 hQ_22
  refine lv_aload_n hx hb dX0_restart_44 rfl (lv_at hl_23 4 rfl) ?_
  refine k_get (k := 5) (v := .ref (L (aY g 1))) hx hb hts in_X0_restart_X0 hown hK hQ_26 (aG_lt hg) (cn_G g) rfl (by decide) lk_X0_restart_f31 rfl dX0_restart_45 ?_
  refine lv_iconst (v := 0) hx hb dX0_restart_48 (by decide) ?_
  refine k_putN (ty := .int) (k := 0) (r := g) (k' := 10) hx hb tyX4 tyX4_ok nmX4 hts in_X0_restart_X4 hown hK hN hL hA hQ_26 (aY_lt hg (by decide)) (ow_Y9 (w := 1) hg (by decide)) (by omega) (fun Y => (cn_Y g 1 (by decide))) (pf_Y9 g 1 (by decide)) rfl (by decide) nx_field_X0_64 rfl (by decide +kernel) rfl rfl (Nat.le_of_ble_eq_true rfl) dX0_restart_49 (fun H_28 locs_28 hO_28 => ?_)
  replace hf := zl_some hf
  obtain ⟨X_27, hX_27, hf⟩ := hf
  have hQ_28 := zo_eq hX_27 hO_28
  clear hO_28 hQ_26
  refine lv_aload_n hx hb dX0_restart_52 rfl (lv_at hl_23 4 rfl) ?_
  refine lv_iconst (v := 0) hx hb dX0_restart_53 (by decide) ?_
  refine k_put (ty := .int) (k := 6) (r := g) (k' := 3) hx hb tyX0 tyX0_ok nmX0 hts in_X0_restart_X0 hown hK  hL hA hQ_28 (aG_lt hg) (ow_G hg (by decide)) (by omega) (fun Y => (cn_G g)) (pf_G3 g) rfl (by decide) lk_X0_restart_f45 rfl (by decide +kernel) rfl rfl (Nat.le_of_ble_eq_true rfl) dX0_restart_54 (fun H_30 locs_30 hO_30 => ?_)
  replace hf := zl_some hf
  obtain ⟨X_29, hX_29, hf⟩ := hf
  have hQ_30 := zo_eq hX_29 hO_30
  clear hO_30 hQ_28
  refine lv_aload_n hx hb dX0_restart_57 rfl (lv_at hl_23 4 rfl) ?_
  refine lv_iconst (v := 0) hx hb dX0_restart_58 (by decide) ?_
  refine k_put (ty := .int) (k := 7) (r := g) (k' := 6) hx hb tyX0 tyX0_ok nmX0 hts in_X0_restart_X0 hown hK  hL hA hQ_30 (aG_lt hg) (ow_G hg (by decide)) (by omega) (fun Y => (cn_G g)) (pf_G6 g) rfl (by decide) lk_X0_restart_f48 rfl (by decide +kernel) rfl rfl (Nat.le_of_ble_eq_true rfl) dX0_restart_59 (fun H_32 locs_32 hO_32 => ?_)
  replace hf := zl_some hf
  obtain ⟨X_31, hX_31, hf⟩ := hf
  have hQ_32 := zo_eq hX_31 hO_32
  clear hO_32 hQ_30
  refine lv_aload_n hx hb dX0_restart_62 rfl (lv_at hl_23 4 rfl) ?_
  refine lv_iconst (v := 0) hx hb dX0_restart_63 (by decide) ?_
  refine k_put (ty := .boolean) (k := 8) (r := g) (k' := 4) hx hb tyX0 tyX0_ok nmX0 hts in_X0_restart_X0 hown hK  hL hA hQ_32 (aG_lt hg) (ow_G hg (by decide)) (by omega) (fun Y => (cn_G g)) (pf_G4 g) rfl (by decide) lk_X0_restart_f51 rfl (by decide +kernel) (bo_n (by decide)) (bo_f (by decide)) (Nat.le_of_ble_eq_true rfl) dX0_restart_64 (fun H_34 locs_34 hO_34 => ?_)
  replace hf := zl_some hf
  obtain ⟨X_33, hX_33, hf⟩ := hf
  have hQ_34 := zo_eq hX_33 hO_34
  clear hO_34 hQ_32
  refine lv_aload_n hx hb dX0_restart_67 rfl (lv_at hl_23 4 rfl) ?_
  refine lv_iconst (v := 0) hx hb dX0_restart_68 (by decide) ?_
  refine k_put (ty := .boolean) (k := 9) (r := g) (k' := 5) hx hb tyX0 tyX0_ok nmX0 hts in_X0_restart_X0 hown hK  hL hA hQ_34 (aG_lt hg) (ow_G hg (by decide)) (by omega) (fun Y => (cn_G g)) (pf_G5 g) rfl (by decide) lk_X0_restart_f55 rfl (by decide +kernel) (bo_n (by decide)) (bo_f (by decide)) (Nat.le_of_ble_eq_true rfl) dX0_restart_69 (fun H_36 locs_36 hO_36 => ?_)
  replace hf := zl_some hf
  obtain ⟨X_35, hX_35, hf⟩ := hf
  have hQ_36 := zo_eq hX_35 hO_36
  clear hO_36 hQ_34
  obtain rfl := Option.some.inj hf
  exact e_v hx hb hr hK hN hQ_36 hlocks dX0_restart_72
theorem in_X0_copyFrom_X0 : ∀ w ∈ u_ws RX0 TX0 10, w ∈ wsX0_copyFrom := by decide +kernel
theorem lk_X0_copyFrom_eX3_copyFrom : Cond.selects RX3 yX3_copyFrom yX3_copyFrom ∈ wsX0_copyFrom := by decide +kernel
theorem lk_X0_copyFrom_eX4_copyFrom : Cond.selects RX4 yX4_copyFrom yX4_copyFrom ∈ wsX0_copyFrom := by decide +kernel
theorem lk_X0_copyFrom_f15 : Cond.fieldLink RX0 15 "PoisonPiles$Game" "bonus" "I" ∈ wsX0_copyFrom := by decide +kernel
theorem lk_X0_copyFrom_f20 : Cond.fieldLink RX0 20 "PoisonPiles$Game" "piles" "[LPoisonPiles$Pile;" ∈ wsX0_copyFrom := by decide +kernel
theorem lk_X0_copyFrom_f27 : Cond.fieldLink RX0 27 "PoisonPiles$Game" "first" "LPoisonPiles$Player;" ∈ wsX0_copyFrom := by decide +kernel
theorem lk_X0_copyFrom_f31 : Cond.fieldLink RX0 31 "PoisonPiles$Game" "second" "LPoisonPiles$Player;" ∈ wsX0_copyFrom := by decide +kernel
theorem lk_X0_copyFrom_f39 : Cond.fieldLink RX0 39 "PoisonPiles$Game" "pileCount" "I" ∈ wsX0_copyFrom := by decide +kernel
theorem lk_X0_copyFrom_f45 : Cond.fieldLink RX0 45 "PoisonPiles$Game" "mover" "I" ∈ wsX0_copyFrom := by decide +kernel
theorem lk_X0_copyFrom_f48 : Cond.fieldLink RX0 48 "PoisonPiles$Game" "moveCount" "I" ∈ wsX0_copyFrom := by decide +kernel
theorem lk_X0_copyFrom_f51 : Cond.fieldLink RX0 51 "PoisonPiles$Game" "passAhead" "Z" ∈ wsX0_copyFrom := by decide +kernel
theorem lk_X0_copyFrom_f55 : Cond.fieldLink RX0 55 "PoisonPiles$Game" "poisonEnded" "Z" ∈ wsX0_copyFrom := by decide +kernel
theorem lk_X0_copyFrom_f9 : Cond.fieldLink RX0 9 "PoisonPiles$Game" "takes" "I" ∈ wsX0_copyFrom := by decide +kernel
theorem lk_X0_copyFrom_iX3 : Cond.initialized RX3 ∈ wsX0_copyFrom := by decide +kernel
theorem lk_X0_copyFrom_iX4 : Cond.initialized RX4 ∈ wsX0_copyFrom := by decide +kernel
theorem lk_X0_copyFrom_mX3_copyFrom : Cond.instanceMethod yX3_copyFrom ∈ wsX0_copyFrom := by decide +kernel
theorem lk_X0_copyFrom_mX4_copyFrom : Cond.instanceMethod yX4_copyFrom ∈ wsX0_copyFrom := by decide +kernel
def fX0_copyFrom  (g : Nat) (g2 : Nat) (X : XM) : Option XM := zl (xup X g 0 (X g2 0)) (fun X_1 => zl (xup X_1 g 1 (X_1 g2 1)) (fun X_3 => zv (fX3_copyFrom g 0 g2 0 X_3) (fun X_8 => zv (fX3_copyFrom g 1 g2 1 X_8) (fun X_13 => zv (fX3_copyFrom g 2 g2 2 X_13) (fun X_18 => zv (fX3_copyFrom g 3 g2 3 X_18) (fun X_23 => zl (xup X_23 g 2 (X_23 g2 2)) (fun X_27 => zv (fX4_copyFrom g 0 g2 0 X_27) (fun X_29 => zv (fX4_copyFrom g 1 g2 1 X_29) (fun X_31 => zl (xup X_31 g 3 (X_31 g2 3)) (fun X_33 => zl (xup X_33 g 6 (X_33 g2 6)) (fun X_35 => zb (X_35 g2 4) (zl (xup X_35 g 4 (X_35 g2 4)) (fun X_38 => zb (X_38 g2 5) (zl (xup X_38 g 5 (X_38 g2 5)) (fun X_41 => some X_41)))))))))))))))
set_option maxHeartbeats 4000000 in
set_option maxRecDepth 100000 in
theorem mX0_copyFrom (l : Launch) (D : va_G) (L : Nat → Nat) (ac : Nat → ClassId) (hL : LL L) (X : XM) (g : Nat) (hg : g < 11) (g2 : Nat) (hg2 : g2 < 11) (X0 : XM) (hf : fX0_copyFrom g g2 X = some X0) : Cv l yX0_copyFrom wsX0_copyFrom ({ frames := 1, cells := 0, slots := 0, locals := 21 }) D L ac X [.ref (L (aG g)), .ref (L (aG g2))] X0 := by
  refine Met.ofK (cc := cX0_copyFrom) (maxL := 3) (ret := none) (lv := [(0, .ref (L (aG g))), (1, .ref (L (aG g2)))]) (by decide +kernel) rfl (Nat.le_of_ble_eq_true rfl) rfl ?_
  intro p e s m below meth c F hO ls hl
  obtain ⟨hx, hb, hr, hts, hown, hlocks, hml, hK, hN⟩ := id F
  have hA : ∀ q, fr L q → fr L q := fun q h => h
  unfold fX0_copyFrom at hf
  refine lv_aload_n hx hb dX0_copyFrom_0 rfl (lv_at hl 0 rfl) ?_
  refine lv_aload_n hx hb dX0_copyFrom_1 rfl (lv_at hl 1 rfl) ?_
  refine k_get (k := 0) (v := .int (X g2 0)) hx hb hts in_X0_copyFrom_X0 hown hK hO (aG_lt hg2) (cn_G g2) rfl (by decide) lk_X0_copyFrom_f9 rfl dX0_copyFrom_2 ?_
  refine k_put (ty := .int) (k := 0) (r := g) (k' := 0) hx hb tyX0 tyX0_ok nmX0 hts in_X0_copyFrom_X0 hown hK  hL hA hO (aG_lt hg) (ow_G hg (by decide)) (by omega) (fun Y => (cn_G g)) (pf_G0 g) rfl (by decide) lk_X0_copyFrom_f9 rfl (by decide +kernel) rfl rfl (Nat.le_of_ble_eq_true rfl) dX0_copyFrom_5 (fun H_2 locs_2 hO_2 => ?_)
  replace hf := zl_some hf
  obtain ⟨X_1, hX_1, hf⟩ := hf
  have hQ_2 := zo_eq hX_1 hO_2
  clear hO_2 hO
  refine lv_aload_n hx hb dX0_copyFrom_8 rfl (lv_at hl 0 rfl) ?_
  refine lv_aload_n hx hb dX0_copyFrom_9 rfl (lv_at hl 1 rfl) ?_
  refine k_get (k := 1) (v := .int (X_1 g2 1)) hx hb hts in_X0_copyFrom_X0 hown hK hQ_2 (aG_lt hg2) (cn_G g2) rfl (by decide) lk_X0_copyFrom_f15 rfl dX0_copyFrom_10 ?_
  refine k_put (ty := .int) (k := 1) (r := g) (k' := 1) hx hb tyX0 tyX0_ok nmX0 hts in_X0_copyFrom_X0 hown hK  hL hA hQ_2 (aG_lt hg) (ow_G hg (by decide)) (by omega) (fun Y => (cn_G g)) (pf_G1 g) rfl (by decide) lk_X0_copyFrom_f15 rfl (by decide +kernel) rfl rfl (Nat.le_of_ble_eq_true rfl) dX0_copyFrom_13 (fun H_4 locs_4 hO_4 => ?_)
  replace hf := zl_some hf
  obtain ⟨X_3, hX_3, hf⟩ := hf
  have hQ_4 := zo_eq hX_3 hO_4
  clear hO_4 hQ_2
  refine lv_iconst (v := 0) hx hb dX0_copyFrom_16 (by decide) ?_
  refine lv_istore_n (lv' := [(2, .int 0), (0, .ref (L (aG g))), (1, .ref (L (aG g2)))]) hx hb dX0_copyFrom_17 rfl hl (by decide) rfl (fun ls_5 hl_5 => ?_)
  clear hl
  refine lv_iload_n hx hb dX0_copyFrom_18 rfl (lv_at hl_5 0 rfl) ?_
  refine lv_aload_n hx hb dX0_copyFrom_19 rfl (lv_at hl_5 1 rfl) ?_
  refine k_get (k := 2) (v := .ref (L (aA g))) hx hb hts in_X0_copyFrom_X0 hown hK hQ_4 (aG_lt hg) (cn_G g) rfl (by decide) lk_X0_copyFrom_f20 rfl dX0_copyFrom_20 ?_
  refine k_alen (v := 4) (t := 3) hx hb hK hQ_4 (aA_lt hg) (ct_A g) rfl rfl dX0_copyFrom_23 ?_
  refine lv_icmp_ge (tgt := 57) hx hb dX0_copyFrom_24 (by decide) (fun c_6 => absurd c_6 (by decide)) (fun _ => ?_)
  refine lv_iload_n hx hb dX0_copyFrom_27 rfl (lv_at hl_5 0 rfl) ?_
  refine lv_aload_n hx hb dX0_copyFrom_28 rfl (lv_at hl_5 2 rfl) ?_
  refine k_get (k := 2) (v := .ref (L (aA g2))) hx hb hts in_X0_copyFrom_X0 hown hK hQ_4 (aG_lt hg2) (cn_G g2) rfl (by decide) lk_X0_copyFrom_f20 rfl dX0_copyFrom_29 ?_
  refine k_alen (v := 4) (t := 3) hx hb hK hQ_4 (aA_lt hg2) (ct_A g2) rfl rfl dX0_copyFrom_32 ?_
  refine lv_icmp_ge (tgt := 57) hx hb dX0_copyFrom_33 (by decide) (fun c_7 => absurd c_7 (by decide)) (fun _ => ?_)
  refine lv_aload_n hx hb dX0_copyFrom_36 rfl (lv_at hl_5 1 rfl) ?_
  refine k_get (k := 2) (v := .ref (L (aA g))) hx hb hts in_X0_copyFrom_X0 hown hK hQ_4 (aG_lt hg) (cn_G g) rfl (by decide) lk_X0_copyFrom_f20 rfl dX0_copyFrom_37 ?_
  refine lv_iload_n hx hb dX0_copyFrom_40 rfl (lv_at hl_5 0 rfl) ?_
  refine k_aald hx hb hK hQ_4 (aA_lt hg) (ct_A g) rfl (show vp_in 0 4 from by unfold vp_in; decide) dX0_copyFrom_41 ?_
  refine lv_topr (b := L (aP g 0)) rfl ?_
  refine lv_aload_n hx hb dX0_copyFrom_42 rfl (lv_at hl_5 2 rfl) ?_
  refine k_get (k := 2) (v := .ref (L (aA g2))) hx hb hts in_X0_copyFrom_X0 hown hK hQ_4 (aG_lt hg2) (cn_G g2) rfl (by decide) lk_X0_copyFrom_f20 rfl dX0_copyFrom_43 ?_
  refine lv_iload_n hx hb dX0_copyFrom_46 rfl (lv_at hl_5 0 rfl) ?_
  refine k_aald hx hb hK hQ_4 (aA_lt hg2) (ct_A g2) rfl (show vp_in 0 4 from by unfold vp_in; decide) dX0_copyFrom_47 ?_
  refine lv_topr (b := L (aP g2 0)) rfl ?_
  replace hf := zv_some hf
  obtain ⟨X_8, hc_8, hf⟩ := hf
  refine k_av (va_runVN (As := [.ref (L (aP g2 0))]) (rest := []) ⟨hx, hb, hml, hown, hts⟩ (mX3_copyFrom l D L ac hL _ g hg 0 (by decide) g2 hg2 0 (by decide) _ hc_8) ⟨va_cnB 1 hts gX0_copyFrom_X3_copyFrom_n35 rfl rfl rfl (hN _ nx_method_X0_35) (hts _ lk_X0_copyFrom_iX3) (by decide +kernel) ⟨Nat.le_of_ble_eq_true rfl, Nat.le_of_ble_eq_true rfl⟩, hts _ lk_X0_copyFrom_mX3_copyFrom, hts _ lk_X0_copyFrom_eX3_copyFrom⟩ (k_pv (j := (aP g 0)) hK hN hQ_4 (aP_lt hg (by decide)) (cn_P g 0 (by decide)) rfl _) rfl rfl hl_5.1 rfl (lv_room (Nat.le_of_ble_eq_true rfl)) dX0_copyFrom_48 ⟨Nat.le_of_ble_eq_true rfl, Nat.le_of_ble_eq_true rfl⟩) hA hQ_4 (fun H_9 locs_9 hO_9 => ?_)
  clear hQ_4
  refine lv_iinc (v := 1) (lv' := [(2, .int 1), (0, .ref (L (aG g))), (1, .ref (L (aG g2)))]) hx hb dX0_copyFrom_51 hl_5 (k := 0) rfl (by decide) (by decide) rfl (fun ls_10 hl_10 => ?_)
  clear hl_5
  refine lv_goto (tgt := 18) hx hb dX0_copyFrom_54 (by decide) ?_
  refine lv_iload_n hx hb dX0_copyFrom_18 rfl (lv_at hl_10 0 rfl) ?_
  refine lv_aload_n hx hb dX0_copyFrom_19 rfl (lv_at hl_10 1 rfl) ?_
  refine k_get (k := 2) (v := .ref (L (aA g))) hx hb hts in_X0_copyFrom_X0 hown hK hO_9 (aG_lt hg) (cn_G g) rfl (by decide) lk_X0_copyFrom_f20 rfl dX0_copyFrom_20 ?_
  refine k_alen (v := 4) (t := 3) hx hb hK hO_9 (aA_lt hg) (ct_A g) rfl rfl dX0_copyFrom_23 ?_
  refine lv_icmp_ge (tgt := 57) hx hb dX0_copyFrom_24 (by decide) (fun c_11 => absurd c_11 (by decide)) (fun _ => ?_)
  refine lv_iload_n hx hb dX0_copyFrom_27 rfl (lv_at hl_10 0 rfl) ?_
  refine lv_aload_n hx hb dX0_copyFrom_28 rfl (lv_at hl_10 2 rfl) ?_
  refine k_get (k := 2) (v := .ref (L (aA g2))) hx hb hts in_X0_copyFrom_X0 hown hK hO_9 (aG_lt hg2) (cn_G g2) rfl (by decide) lk_X0_copyFrom_f20 rfl dX0_copyFrom_29 ?_
  refine k_alen (v := 4) (t := 3) hx hb hK hO_9 (aA_lt hg2) (ct_A g2) rfl rfl dX0_copyFrom_32 ?_
  refine lv_icmp_ge (tgt := 57) hx hb dX0_copyFrom_33 (by decide) (fun c_12 => absurd c_12 (by decide)) (fun _ => ?_)
  refine lv_aload_n hx hb dX0_copyFrom_36 rfl (lv_at hl_10 1 rfl) ?_
  refine k_get (k := 2) (v := .ref (L (aA g))) hx hb hts in_X0_copyFrom_X0 hown hK hO_9 (aG_lt hg) (cn_G g) rfl (by decide) lk_X0_copyFrom_f20 rfl dX0_copyFrom_37 ?_
  refine lv_iload_n hx hb dX0_copyFrom_40 rfl (lv_at hl_10 0 rfl) ?_
  refine k_aald hx hb hK hO_9 (aA_lt hg) (ct_A g) rfl (show vp_in 1 4 from by unfold vp_in; decide) dX0_copyFrom_41 ?_
  refine lv_topr (b := L (aP g 1)) rfl ?_
  refine lv_aload_n hx hb dX0_copyFrom_42 rfl (lv_at hl_10 2 rfl) ?_
  refine k_get (k := 2) (v := .ref (L (aA g2))) hx hb hts in_X0_copyFrom_X0 hown hK hO_9 (aG_lt hg2) (cn_G g2) rfl (by decide) lk_X0_copyFrom_f20 rfl dX0_copyFrom_43 ?_
  refine lv_iload_n hx hb dX0_copyFrom_46 rfl (lv_at hl_10 0 rfl) ?_
  refine k_aald hx hb hK hO_9 (aA_lt hg2) (ct_A g2) rfl (show vp_in 1 4 from by unfold vp_in; decide) dX0_copyFrom_47 ?_
  refine lv_topr (b := L (aP g2 1)) rfl ?_
  replace hf := zv_some hf
  obtain ⟨X_13, hc_13, hf⟩ := hf
  refine k_av (va_runVN (As := [.ref (L (aP g2 1))]) (rest := []) ⟨hx, hb, hml, hown, hts⟩ (mX3_copyFrom l D L ac hL _ g hg 1 (by decide) g2 hg2 1 (by decide) _ hc_13) ⟨va_cnB 1 hts gX0_copyFrom_X3_copyFrom_n35 rfl rfl rfl (hN _ nx_method_X0_35) (hts _ lk_X0_copyFrom_iX3) (by decide +kernel) ⟨Nat.le_of_ble_eq_true rfl, Nat.le_of_ble_eq_true rfl⟩, hts _ lk_X0_copyFrom_mX3_copyFrom, hts _ lk_X0_copyFrom_eX3_copyFrom⟩ (k_pv (j := (aP g 1)) hK hN hO_9 (aP_lt hg (by decide)) (cn_P g 1 (by decide)) rfl _) rfl rfl hl_10.1 rfl (lv_room (Nat.le_of_ble_eq_true rfl)) dX0_copyFrom_48 ⟨Nat.le_of_ble_eq_true rfl, Nat.le_of_ble_eq_true rfl⟩) hA hO_9 (fun H_14 locs_14 hO_14 => ?_)
  clear hO_9
  refine lv_iinc (v := 2) (lv' := [(2, .int 2), (0, .ref (L (aG g))), (1, .ref (L (aG g2)))]) hx hb dX0_copyFrom_51 hl_10 (k := 0) rfl (by decide) (by decide) rfl (fun ls_15 hl_15 => ?_)
  clear hl_10
  refine lv_goto (tgt := 18) hx hb dX0_copyFrom_54 (by decide) ?_
  refine lv_iload_n hx hb dX0_copyFrom_18 rfl (lv_at hl_15 0 rfl) ?_
  refine lv_aload_n hx hb dX0_copyFrom_19 rfl (lv_at hl_15 1 rfl) ?_
  refine k_get (k := 2) (v := .ref (L (aA g))) hx hb hts in_X0_copyFrom_X0 hown hK hO_14 (aG_lt hg) (cn_G g) rfl (by decide) lk_X0_copyFrom_f20 rfl dX0_copyFrom_20 ?_
  refine k_alen (v := 4) (t := 3) hx hb hK hO_14 (aA_lt hg) (ct_A g) rfl rfl dX0_copyFrom_23 ?_
  refine lv_icmp_ge (tgt := 57) hx hb dX0_copyFrom_24 (by decide) (fun c_16 => absurd c_16 (by decide)) (fun _ => ?_)
  refine lv_iload_n hx hb dX0_copyFrom_27 rfl (lv_at hl_15 0 rfl) ?_
  refine lv_aload_n hx hb dX0_copyFrom_28 rfl (lv_at hl_15 2 rfl) ?_
  refine k_get (k := 2) (v := .ref (L (aA g2))) hx hb hts in_X0_copyFrom_X0 hown hK hO_14 (aG_lt hg2) (cn_G g2) rfl (by decide) lk_X0_copyFrom_f20 rfl dX0_copyFrom_29 ?_
  refine k_alen (v := 4) (t := 3) hx hb hK hO_14 (aA_lt hg2) (ct_A g2) rfl rfl dX0_copyFrom_32 ?_
  refine lv_icmp_ge (tgt := 57) hx hb dX0_copyFrom_33 (by decide) (fun c_17 => absurd c_17 (by decide)) (fun _ => ?_)
  refine lv_aload_n hx hb dX0_copyFrom_36 rfl (lv_at hl_15 1 rfl) ?_
  refine k_get (k := 2) (v := .ref (L (aA g))) hx hb hts in_X0_copyFrom_X0 hown hK hO_14 (aG_lt hg) (cn_G g) rfl (by decide) lk_X0_copyFrom_f20 rfl dX0_copyFrom_37 ?_
  refine lv_iload_n hx hb dX0_copyFrom_40 rfl (lv_at hl_15 0 rfl) ?_
  refine k_aald hx hb hK hO_14 (aA_lt hg) (ct_A g) rfl (show vp_in 2 4 from by unfold vp_in; decide) dX0_copyFrom_41 ?_
  refine lv_topr (b := L (aP g 2)) rfl ?_
  refine lv_aload_n hx hb dX0_copyFrom_42 rfl (lv_at hl_15 2 rfl) ?_
  refine k_get (k := 2) (v := .ref (L (aA g2))) hx hb hts in_X0_copyFrom_X0 hown hK hO_14 (aG_lt hg2) (cn_G g2) rfl (by decide) lk_X0_copyFrom_f20 rfl dX0_copyFrom_43 ?_
  refine lv_iload_n hx hb dX0_copyFrom_46 rfl (lv_at hl_15 0 rfl) ?_
  refine k_aald hx hb hK hO_14 (aA_lt hg2) (ct_A g2) rfl (show vp_in 2 4 from by unfold vp_in; decide) dX0_copyFrom_47 ?_
  refine lv_topr (b := L (aP g2 2)) rfl ?_
  replace hf := zv_some hf
  obtain ⟨X_18, hc_18, hf⟩ := hf
  refine k_av (va_runVN (As := [.ref (L (aP g2 2))]) (rest := []) ⟨hx, hb, hml, hown, hts⟩ (mX3_copyFrom l D L ac hL _ g hg 2 (by decide) g2 hg2 2 (by decide) _ hc_18) ⟨va_cnB 1 hts gX0_copyFrom_X3_copyFrom_n35 rfl rfl rfl (hN _ nx_method_X0_35) (hts _ lk_X0_copyFrom_iX3) (by decide +kernel) ⟨Nat.le_of_ble_eq_true rfl, Nat.le_of_ble_eq_true rfl⟩, hts _ lk_X0_copyFrom_mX3_copyFrom, hts _ lk_X0_copyFrom_eX3_copyFrom⟩ (k_pv (j := (aP g 2)) hK hN hO_14 (aP_lt hg (by decide)) (cn_P g 2 (by decide)) rfl _) rfl rfl hl_15.1 rfl (lv_room (Nat.le_of_ble_eq_true rfl)) dX0_copyFrom_48 ⟨Nat.le_of_ble_eq_true rfl, Nat.le_of_ble_eq_true rfl⟩) hA hO_14 (fun H_19 locs_19 hO_19 => ?_)
  clear hO_14
  refine lv_iinc (v := 3) (lv' := [(2, .int 3), (0, .ref (L (aG g))), (1, .ref (L (aG g2)))]) hx hb dX0_copyFrom_51 hl_15 (k := 0) rfl (by decide) (by decide) rfl (fun ls_20 hl_20 => ?_)
  clear hl_15
  refine lv_goto (tgt := 18) hx hb dX0_copyFrom_54 (by decide) ?_
  refine lv_iload_n hx hb dX0_copyFrom_18 rfl (lv_at hl_20 0 rfl) ?_
  refine lv_aload_n hx hb dX0_copyFrom_19 rfl (lv_at hl_20 1 rfl) ?_
  refine k_get (k := 2) (v := .ref (L (aA g))) hx hb hts in_X0_copyFrom_X0 hown hK hO_19 (aG_lt hg) (cn_G g) rfl (by decide) lk_X0_copyFrom_f20 rfl dX0_copyFrom_20 ?_
  refine k_alen (v := 4) (t := 3) hx hb hK hO_19 (aA_lt hg) (ct_A g) rfl rfl dX0_copyFrom_23 ?_
  refine lv_icmp_ge (tgt := 57) hx hb dX0_copyFrom_24 (by decide) (fun c_21 => absurd c_21 (by decide)) (fun _ => ?_)
  refine lv_iload_n hx hb dX0_copyFrom_27 rfl (lv_at hl_20 0 rfl) ?_
  refine lv_aload_n hx hb dX0_copyFrom_28 rfl (lv_at hl_20 2 rfl) ?_
  refine k_get (k := 2) (v := .ref (L (aA g2))) hx hb hts in_X0_copyFrom_X0 hown hK hO_19 (aG_lt hg2) (cn_G g2) rfl (by decide) lk_X0_copyFrom_f20 rfl dX0_copyFrom_29 ?_
  refine k_alen (v := 4) (t := 3) hx hb hK hO_19 (aA_lt hg2) (ct_A g2) rfl rfl dX0_copyFrom_32 ?_
  refine lv_icmp_ge (tgt := 57) hx hb dX0_copyFrom_33 (by decide) (fun c_22 => absurd c_22 (by decide)) (fun _ => ?_)
  refine lv_aload_n hx hb dX0_copyFrom_36 rfl (lv_at hl_20 1 rfl) ?_
  refine k_get (k := 2) (v := .ref (L (aA g))) hx hb hts in_X0_copyFrom_X0 hown hK hO_19 (aG_lt hg) (cn_G g) rfl (by decide) lk_X0_copyFrom_f20 rfl dX0_copyFrom_37 ?_
  refine lv_iload_n hx hb dX0_copyFrom_40 rfl (lv_at hl_20 0 rfl) ?_
  refine k_aald hx hb hK hO_19 (aA_lt hg) (ct_A g) rfl (show vp_in 3 4 from by unfold vp_in; decide) dX0_copyFrom_41 ?_
  refine lv_topr (b := L (aP g 3)) rfl ?_
  refine lv_aload_n hx hb dX0_copyFrom_42 rfl (lv_at hl_20 2 rfl) ?_
  refine k_get (k := 2) (v := .ref (L (aA g2))) hx hb hts in_X0_copyFrom_X0 hown hK hO_19 (aG_lt hg2) (cn_G g2) rfl (by decide) lk_X0_copyFrom_f20 rfl dX0_copyFrom_43 ?_
  refine lv_iload_n hx hb dX0_copyFrom_46 rfl (lv_at hl_20 0 rfl) ?_
  refine k_aald hx hb hK hO_19 (aA_lt hg2) (ct_A g2) rfl (show vp_in 3 4 from by unfold vp_in; decide) dX0_copyFrom_47 ?_
  refine lv_topr (b := L (aP g2 3)) rfl ?_
  replace hf := zv_some hf
  obtain ⟨X_23, hc_23, hf⟩ := hf
  refine k_av (va_runVN (As := [.ref (L (aP g2 3))]) (rest := []) ⟨hx, hb, hml, hown, hts⟩ (mX3_copyFrom l D L ac hL _ g hg 3 (by decide) g2 hg2 3 (by decide) _ hc_23) ⟨va_cnB 1 hts gX0_copyFrom_X3_copyFrom_n35 rfl rfl rfl (hN _ nx_method_X0_35) (hts _ lk_X0_copyFrom_iX3) (by decide +kernel) ⟨Nat.le_of_ble_eq_true rfl, Nat.le_of_ble_eq_true rfl⟩, hts _ lk_X0_copyFrom_mX3_copyFrom, hts _ lk_X0_copyFrom_eX3_copyFrom⟩ (k_pv (j := (aP g 3)) hK hN hO_19 (aP_lt hg (by decide)) (cn_P g 3 (by decide)) rfl _) rfl rfl hl_20.1 rfl (lv_room (Nat.le_of_ble_eq_true rfl)) dX0_copyFrom_48 ⟨Nat.le_of_ble_eq_true rfl, Nat.le_of_ble_eq_true rfl⟩) hA hO_19 (fun H_24 locs_24 hO_24 => ?_)
  clear hO_19
  refine lv_iinc (v := 4) (lv' := [(2, .int 4), (0, .ref (L (aG g))), (1, .ref (L (aG g2)))]) hx hb dX0_copyFrom_51 hl_20 (k := 0) rfl (by decide) (by decide) rfl (fun ls_25 hl_25 => ?_)
  clear hl_20
  refine lv_goto (tgt := 18) hx hb dX0_copyFrom_54 (by decide) ?_
  refine lv_iload_n hx hb dX0_copyFrom_18 rfl (lv_at hl_25 0 rfl) ?_
  refine lv_aload_n hx hb dX0_copyFrom_19 rfl (lv_at hl_25 1 rfl) ?_
  refine k_get (k := 2) (v := .ref (L (aA g))) hx hb hts in_X0_copyFrom_X0 hown hK hO_24 (aG_lt hg) (cn_G g) rfl (by decide) lk_X0_copyFrom_f20 rfl dX0_copyFrom_20 ?_
  refine k_alen (v := 4) (t := 3) hx hb hK hO_24 (aA_lt hg) (ct_A g) rfl rfl dX0_copyFrom_23 ?_
  refine lv_icmp_ge (tgt := 57) hx hb dX0_copyFrom_24 (by decide) (fun _ => ?_) (fun c_26 => absurd (by decide) c_26)
  refine lv_aload_n hx hb dX0_copyFrom_57 rfl (lv_at hl_25 1 rfl) ?_
  refine lv_aload_n hx hb dX0_copyFrom_58 rfl (lv_at hl_25 2 rfl) ?_
  refine k_get (k := 3) (v := .int (X_23 g2 2)) hx hb hts in_X0_copyFrom_X0 hown hK hO_24 (aG_lt hg2) (cn_G g2) rfl (by decide) lk_X0_copyFrom_f39 rfl dX0_copyFrom_59 ?_
  refine k_put (ty := .int) (k := 3) (r := g) (k' := 2) hx hb tyX0 tyX0_ok nmX0 hts in_X0_copyFrom_X0 hown hK  hL hA hO_24 (aG_lt hg) (ow_G hg (by decide)) (by omega) (fun Y => (cn_G g)) (pf_G2 g) rfl (by decide) lk_X0_copyFrom_f39 rfl (by decide +kernel) rfl rfl (Nat.le_of_ble_eq_true rfl) dX0_copyFrom_62 (fun H_28 locs_28 hO_28 => ?_)
  replace hf := zl_some hf
  obtain ⟨X_27, hX_27, hf⟩ := hf
  have hQ_28 := zo_eq hX_27 hO_28
  clear hO_28 hO_24
  refine lv_aload_n hx hb dX0_copyFrom_65 rfl (lv_at hl_25 1 rfl) ?_
  refine k_get (k := 4) (v := .ref (L (aY g 0))) hx hb hts in_X0_copyFrom_X0 hown hK hQ_28 (aG_lt hg) (cn_G g) rfl (by decide) lk_X0_copyFrom_f27 rfl dX0_copyFrom_66 ?_
  refine lv_aload_n hx hb dX0_copyFrom_69 rfl (lv_at hl_25 2 rfl) ?_
  refine k_get (k := 4) (v := .ref (L (aY g2 0))) hx hb hts in_X0_copyFrom_X0 hown hK hQ_28 (aG_lt hg2) (cn_G g2) rfl (by decide) lk_X0_copyFrom_f27 rfl dX0_copyFrom_70 ?_
  replace hf := zv_some hf
  obtain ⟨X_29, hc_29, hf⟩ := hf
  refine k_av (va_runVN (As := [.ref (L (aY g2 0))]) (rest := []) ⟨hx, hb, hml, hown, hts⟩ (mX4_copyFrom l D L ac hL _ g hg 0 (by decide) g2 hg2 0 (by decide) _ hc_29) ⟨va_cnB 1 hts gX0_copyFrom_X4_copyFrom_n42 rfl rfl rfl (hN _ nx_method_X0_42) (hts _ lk_X0_copyFrom_iX4) (by decide +kernel) ⟨Nat.le_of_ble_eq_true rfl, Nat.le_of_ble_eq_true rfl⟩, hts _ lk_X0_copyFrom_mX4_copyFrom, hts _ lk_X0_copyFrom_eX4_copyFrom⟩ (k_pv (j := (aY g 0)) hK hN hQ_28 (aY_lt hg (by decide)) (cn_Y g 0 (by decide)) rfl _) rfl rfl hl_25.1 rfl (lv_room (Nat.le_of_ble_eq_true rfl)) dX0_copyFrom_73 ⟨Nat.le_of_ble_eq_true rfl, Nat.le_of_ble_eq_true rfl⟩) hA hQ_28 (fun H_30 locs_30 hO_30 => ?_)
  clear hQ_28
  refine lv_aload_n hx hb dX0_copyFrom_76 rfl (lv_at hl_25 1 rfl) ?_
  refine k_get (k := 5) (v := .ref (L (aY g 1))) hx hb hts in_X0_copyFrom_X0 hown hK hO_30 (aG_lt hg) (cn_G g) rfl (by decide) lk_X0_copyFrom_f31 rfl dX0_copyFrom_77 ?_
  refine lv_aload_n hx hb dX0_copyFrom_80 rfl (lv_at hl_25 2 rfl) ?_
  refine k_get (k := 5) (v := .ref (L (aY g2 1))) hx hb hts in_X0_copyFrom_X0 hown hK hO_30 (aG_lt hg2) (cn_G g2) rfl (by decide) lk_X0_copyFrom_f31 rfl dX0_copyFrom_81 ?_
  replace hf := zv_some hf
  obtain ⟨X_31, hc_31, hf⟩ := hf
  refine k_av (va_runVN (As := [.ref (L (aY g2 1))]) (rest := []) ⟨hx, hb, hml, hown, hts⟩ (mX4_copyFrom l D L ac hL _ g hg 1 (by decide) g2 hg2 1 (by decide) _ hc_31) ⟨va_cnB 1 hts gX0_copyFrom_X4_copyFrom_n42 rfl rfl rfl (hN _ nx_method_X0_42) (hts _ lk_X0_copyFrom_iX4) (by decide +kernel) ⟨Nat.le_of_ble_eq_true rfl, Nat.le_of_ble_eq_true rfl⟩, hts _ lk_X0_copyFrom_mX4_copyFrom, hts _ lk_X0_copyFrom_eX4_copyFrom⟩ (k_pv (j := (aY g 1)) hK hN hO_30 (aY_lt hg (by decide)) (cn_Y g 1 (by decide)) rfl _) rfl rfl hl_25.1 rfl (lv_room (Nat.le_of_ble_eq_true rfl)) dX0_copyFrom_84 ⟨Nat.le_of_ble_eq_true rfl, Nat.le_of_ble_eq_true rfl⟩) hA hO_30 (fun H_32 locs_32 hO_32 => ?_)
  clear hO_30
  refine lv_aload_n hx hb dX0_copyFrom_87 rfl (lv_at hl_25 1 rfl) ?_
  refine lv_aload_n hx hb dX0_copyFrom_88 rfl (lv_at hl_25 2 rfl) ?_
  refine k_get (k := 6) (v := .int (X_31 g2 3)) hx hb hts in_X0_copyFrom_X0 hown hK hO_32 (aG_lt hg2) (cn_G g2) rfl (by decide) lk_X0_copyFrom_f45 rfl dX0_copyFrom_89 ?_
  refine k_put (ty := .int) (k := 6) (r := g) (k' := 3) hx hb tyX0 tyX0_ok nmX0 hts in_X0_copyFrom_X0 hown hK  hL hA hO_32 (aG_lt hg) (ow_G hg (by decide)) (by omega) (fun Y => (cn_G g)) (pf_G3 g) rfl (by decide) lk_X0_copyFrom_f45 rfl (by decide +kernel) rfl rfl (Nat.le_of_ble_eq_true rfl) dX0_copyFrom_92 (fun H_34 locs_34 hO_34 => ?_)
  replace hf := zl_some hf
  obtain ⟨X_33, hX_33, hf⟩ := hf
  have hQ_34 := zo_eq hX_33 hO_34
  clear hO_34 hO_32
  refine lv_aload_n hx hb dX0_copyFrom_95 rfl (lv_at hl_25 1 rfl) ?_
  refine lv_aload_n hx hb dX0_copyFrom_96 rfl (lv_at hl_25 2 rfl) ?_
  refine k_get (k := 7) (v := .int (X_33 g2 6)) hx hb hts in_X0_copyFrom_X0 hown hK hQ_34 (aG_lt hg2) (cn_G g2) rfl (by decide) lk_X0_copyFrom_f48 rfl dX0_copyFrom_97 ?_
  refine k_put (ty := .int) (k := 7) (r := g) (k' := 6) hx hb tyX0 tyX0_ok nmX0 hts in_X0_copyFrom_X0 hown hK  hL hA hQ_34 (aG_lt hg) (ow_G hg (by decide)) (by omega) (fun Y => (cn_G g)) (pf_G6 g) rfl (by decide) lk_X0_copyFrom_f48 rfl (by decide +kernel) rfl rfl (Nat.le_of_ble_eq_true rfl) dX0_copyFrom_100 (fun H_36 locs_36 hO_36 => ?_)
  replace hf := zl_some hf
  obtain ⟨X_35, hX_35, hf⟩ := hf
  have hQ_36 := zo_eq hX_35 hO_36
  clear hO_36 hQ_34
  refine lv_aload_n hx hb dX0_copyFrom_103 rfl (lv_at hl_25 1 rfl) ?_
  refine lv_aload_n hx hb dX0_copyFrom_104 rfl (lv_at hl_25 2 rfl) ?_
  refine k_get (k := 8) (v := .int (X_35 g2 4)) hx hb hts in_X0_copyFrom_X0 hown hK hQ_36 (aG_lt hg2) (cn_G g2) rfl (by decide) lk_X0_copyFrom_f51 rfl dX0_copyFrom_105 ?_
  replace hf := zb_some hf
  obtain ⟨hb_37, hf⟩ := hf
  refine k_put (ty := .boolean) (k := 8) (r := g) (k' := 4) hx hb tyX0 tyX0_ok nmX0 hts in_X0_copyFrom_X0 hown hK  hL hA hQ_36 (aG_lt hg) (ow_G hg (by decide)) (by omega) (fun Y => (cn_G g)) (pf_G4 g) rfl (by decide) lk_X0_copyFrom_f51 rfl (by decide +kernel) (bo_n hb_37) (bo_f hb_37) (Nat.le_of_ble_eq_true rfl) dX0_copyFrom_108 (fun H_39 locs_39 hO_39 => ?_)
  replace hf := zl_some hf
  obtain ⟨X_38, hX_38, hf⟩ := hf
  have hQ_39 := zo_eq hX_38 hO_39
  clear hO_39 hQ_36
  refine lv_aload_n hx hb dX0_copyFrom_111 rfl (lv_at hl_25 1 rfl) ?_
  refine lv_aload_n hx hb dX0_copyFrom_112 rfl (lv_at hl_25 2 rfl) ?_
  refine k_get (k := 9) (v := .int (X_38 g2 5)) hx hb hts in_X0_copyFrom_X0 hown hK hQ_39 (aG_lt hg2) (cn_G g2) rfl (by decide) lk_X0_copyFrom_f55 rfl dX0_copyFrom_113 ?_
  replace hf := zb_some hf
  obtain ⟨hb_40, hf⟩ := hf
  refine k_put (ty := .boolean) (k := 9) (r := g) (k' := 5) hx hb tyX0 tyX0_ok nmX0 hts in_X0_copyFrom_X0 hown hK  hL hA hQ_39 (aG_lt hg) (ow_G hg (by decide)) (by omega) (fun Y => (cn_G g)) (pf_G5 g) rfl (by decide) lk_X0_copyFrom_f55 rfl (by decide +kernel) (bo_n hb_40) (bo_f hb_40) (Nat.le_of_ble_eq_true rfl) dX0_copyFrom_116 (fun H_42 locs_42 hO_42 => ?_)
  replace hf := zl_some hf
  obtain ⟨X_41, hX_41, hf⟩ := hf
  have hQ_42 := zo_eq hX_41 hO_42
  clear hO_42 hQ_39
  obtain rfl := Option.some.inj hf
  exact e_v hx hb hr hK hN hQ_42 hlocks dX0_copyFrom_119
