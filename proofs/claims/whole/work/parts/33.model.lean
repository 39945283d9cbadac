theorem in_X9_reads_X9 : ∀ w ∈ u_ws RX9 TX9 16, w ∈ wsX9_reads := by decide +kernel
theorem lk_X9_reads_f176 : Cond.fieldLink RX9 176 "PoisonPilesModel" "length" "I" ∈ wsX9_reads := by decide +kernel
theorem lk_X9_reads_f198 : Cond.fieldLink RX9 198 "PoisonPilesModel" "at" "I" ∈ wsX9_reads := by decide +kernel
theorem lk_X9_reads_f201 : Cond.fieldLink RX9 201 "PoisonPilesModel" "isWell" "Z" ∈ wsX9_reads := by decide +kernel
theorem lk_X9_reads_f208 : Cond.fieldLink RX9 208 "PoisonPilesModel" "orderMany" "I" ∈ wsX9_reads := by decide +kernel
def fX9_reads_14   : Nat → XM → Option (Int32 × XM)
  | 0, _ => none
  | n + 1, X => if (X 22 4) = 0 then some (X 22 3, X) else if (X 22 2) ≤ (X 22 3) then some ((-6), X) else zi (fX9_hasSign 59 X) (fun r_6 X_5 => zb r_6 (zl (xup X_5 22 4 r_6) (fun X_9 => if (X_9 22 4) = 0 then fX9_reads_14 n X_9 else zv (fX9_readsOrder X_9) (fun X_12 => fX9_reads_14 n X_12))))
set_option maxHeartbeats 4000000 in
set_option maxRecDepth 100000 in
theorem wX9_reads_14 {p : Program} {l : Launch} {e : Env} {s : State} {m : MethodId} {args : Array Value} {below : List Frame} {meth : Method} {c : Code} {D : va_G} {L : Nat → Nat} {ac : Nat → ClassId} {r0 : Int32} {X0 : XM} (hL : LL L) (F : Fx p s m args meth c cX9_reads 1 (some .int) wsX9_reads yX9_reads.cls D ac) : ∀ (n : Nat)  (X : XM) (H : Heap) (locs : List Loc) (ls : Array Slot), Oh D L ac X (fr L) s.heap H locs → lv_has ls 1 [(0, .ref (L 15))] → fX9_reads_14 n  X = some (r0, X0) → W p l e (headSpec wsX9_reads ({ frames := 3, cells := 0, slots := 0, locals := 65 })).room s m args below meth c H locs 0 0 (MQ below (va_Qi (fun (r : Int32) (Y : XM) => r = r0 ∧ Y = X0) (fun (Y : XM) t => St D L ac Y t) (fr L)) args s 0 0 (fr L)) (F0 m 14 ls []) := by
  obtain ⟨hx, hb, hr, hts, hown, hlocks, hml, hK, hN⟩ := id F
  have hA : ∀ q, fr L q → fr L q := fun q h => h
  intro n
  induction n with
  | zero => intro  X H locs ls hO hl hf; simp [fX9_reads_14] at hf
  | succ n ih =>
    intro  X H locs ls hO hl hf
    rw [fX9_reads_14] at hf
    refine lv_aload_n hx hb dX9_reads_14 rfl (lv_at hl 0 rfl) ?_
    refine k_get (k := 13) (v := .int (X 22 4)) hx hb hts in_X9_reads_X9 hown hK hO (by decide) rfl rfl (by decide) lk_X9_reads_f201 rfl dX9_reads_15 ?_
    refine lv_if_eq (tgt := 56) hx hb dX9_reads_18 (by decide) (fun c_1 => ?_) (fun c_1 => ?_)
    · rw [if_pos c_1] at hf
      refine lv_aload_n hx hb dX9_reads_56 rfl (lv_at hl 0 rfl) ?_
      refine k_get (k := 13) (v := .int (X 22 4)) hx hb hts in_X9_reads_X9 hown hK hO (by decide) rfl rfl (by decide) lk_X9_reads_f201 rfl dX9_reads_57 ?_
      refine lv_if_eq (tgt := 68) hx hb dX9_reads_60 (by decide) (fun _ => ?_) (fun c_2 => absurd c_1 c_2)
      refine lv_aload_n hx hb dX9_reads_68 rfl (lv_at hl 0 rfl) ?_
      refine k_get (k := 12) (v := .int (X 22 3)) hx hb hts in_X9_reads_X9 hown hK hO (by decide) rfl rfl (by decide) lk_X9_reads_f198 rfl dX9_reads_69 ?_
      obtain ⟨rfl, rfl⟩ := Prod.mk.inj (Option.some.inj hf)
      exact e_i hx hb hr hK hN hO hlocks dX9_reads_72
    · rw [if_neg c_1] at hf
      refine lv_aload_n hx hb dX9_reads_21 rfl (lv_at hl 0 rfl) ?_
      refine k_get (k := 12) (v := .int (X 22 3)) hx hb hts in_X9_reads_X9 hown hK hO (by decide) rfl rfl (by decide) lk_X9_reads_f198 rfl dX9_reads_22 ?_
      refine lv_aload_n hx hb dX9_reads_25 rfl (lv_at hl 0 rfl) ?_
      refine k_get (k := 8) (v := .int (X 22 2)) hx hb hts in_X9_reads_X9 hown hK hO (by decide) rfl rfl (by decide) lk_X9_reads_f176 rfl dX9_reads_26 ?_
      refine lv_icmp_ge (tgt := 56) hx hb dX9_reads_29 (by decide) (fun c_3 => ?_) (fun c_3 => ?_)
      · rw [if_pos c_3] at hf
        refine lv_aload_n hx hb dX9_reads_56 rfl (lv_at hl 0 rfl) ?_
        refine k_get (k := 13) (v := .int (X 22 4)) hx hb hts in_X9_reads_X9 hown hK hO (by decide) rfl rfl (by decide) lk_X9_reads_f201 rfl dX9_reads_57 ?_
        refine lv_if_eq (tgt := 68) hx hb dX9_reads_60 (by decide) (fun c_4 => absurd c_4 c_1) (fun _ => ?_)
        refine lv_bipush (v := (-6)) hx hb dX9_reads_63 (by decide) ?_
        refine lv_goto (tgt := 72) hx hb dX9_reads_65 (by decide) ?_
        obtain ⟨rfl, rfl⟩ := Prod.mk.inj (Option.some.inj hf)
        exact e_i hx hb hr hK hN hO hlocks dX9_reads_72
      · rw [if_neg c_3] at hf
        refine lv_aload_n hx hb dX9_reads_32 rfl (lv_at hl 0 rfl) ?_
        refine lv_aload_n hx hb dX9_reads_33 rfl (lv_at hl 0 rfl) ?_
        refine lv_bipush (v := 59) hx hb dX9_reads_34 (by decide) ?_
        replace hf := zi_some hf
        obtain ⟨r_6, X_5, hc_5, hf⟩ := hf
        refine k_ai (va_runV (As := [.int 59]) (rest := [.ref (L 15)]) ⟨hx, hb, hml, hown, hts⟩ (mX9_hasSign l D L ac hL _ 59 _ _ hc_5) (cwV 1 hts gX9_reads_X9_hasSign rfl rfl rfl (by decide +kernel) ⟨Nat.le_of_ble_eq_true rfl, Nat.le_of_ble_eq_true rfl⟩) (k_pv (j := 15) hK hN hO (by decide) rfl rfl _) rfl rfl hl.1 rfl (lv_room (Nat.le_of_ble_eq_true rfl)) dX9_reads_36 ⟨Nat.le_of_ble_eq_true rfl, Nat.le_of_ble_eq_true rfl⟩) hA hO (fun H_7 locs_7 hO_7 => ?_)
        clear hO
        replace hf := zb_some hf
        obtain ⟨hb_8, hf⟩ := hf
        refine k_put (ty := .boolean) (k := 13) (r := 22) (k' := 4) hx hb tyX9 tyX9_ok nmX9 hts in_X9_reads_X9 hown hK  hL hA hO_7 (by decide) rfl (by omega) (fun Y => rfl) (by simp [xup]) rfl (by decide) lk_X9_reads_f201 rfl (by decide +kernel) (bo_n hb_8) (bo_f hb_8) (Nat.le_of_ble_eq_true rfl) dX9_reads_39 (fun H_10 locs_10 hO_10 => ?_)
        replace hf := zl_some hf
        obtain ⟨X_9, hX_9, hf⟩ := hf
        have hQ_10 := zo_eq hX_9 hO_10
        clear hO_10 hO_7
        refine lv_aload_n hx hb dX9_reads_42 rfl (lv_at hl 0 rfl) ?_
        refine k_get (k := 13) (v := .int (X_9 22 4)) hx hb hts in_X9_reads_X9 hown hK hQ_10 (by decide) rfl rfl (by decide) lk_X9_reads_f201 rfl dX9_reads_43 ?_
        refine lv_if_eq (tgt := 14) hx hb dX9_reads_46 (by decide) (fun c_11 => ?_) (fun c_11 => ?_)
        · rw [if_pos c_11] at hf
          exact ih _  _ _ _ hQ_10 (lv_sub hl [0] rfl) hf
        · rw [if_neg c_11] at hf
          refine lv_aload_n hx hb dX9_reads_49 rfl (lv_at hl 0 rfl) ?_
          replace hf := zv_some hf
          obtain ⟨X_12, hc_12, hf⟩ := hf
          refine k_av (va_runV (As := []) (rest := []) ⟨hx, hb, hml, hown, hts⟩ (mX9_readsOrder l D L ac hL _  _ hc_12) (cwV 0 hts gX9_reads_X9_readsOrder rfl rfl rfl (by decide +kernel) ⟨Nat.le_of_ble_eq_true rfl, Nat.le_of_ble_eq_true rfl⟩) (k_pv (j := 15) hK hN hQ_10 (by decide) rfl rfl _) rfl rfl hl.1 rfl (lv_room (Nat.le_of_ble_eq_true rfl)) dX9_reads_50 ⟨Nat.le_of_ble_eq_true rfl, Nat.le_of_ble_eq_true rfl⟩) hA hQ_10 (fun H_13 locs_13 hO_13 => ?_)
          clear hQ_10
          refine lv_goto (tgt := 14) hx hb dX9_reads_53 (by decide) ?_
          exact ih _  _ _ _ hO_13 (lv_sub hl [0] rfl) hf
def fX9_reads   (X : XM) : Option (Int32 × XM) := zl (xup X 22 3 0) (fun X_14 => zl (xup X_14 22 5 0) (fun X_16 => zv (fX9_readsOrder X_16) (fun X_18 => fX9_reads_14 fuel X_18)))
set_option maxHeartbeats 4000000 in
set_option maxRecDepth 100000 in
theorem mX9_reads (l : Launch) (D : va_G) (L : Nat → Nat) (ac : Nat → ClassId) (hL : LL L) (X : XM)  (r0 : Int32) (X0 : XM) (hf : fX9_reads  X = some (r0, X0)) : Ci l yX9_reads wsX9_reads ({ frames := 3, cells := 0, slots := 0, locals := 65 }) D L ac X [.ref (L 15)] r0 X0 := by
  refine Met.ofK (cc := cX9_reads) (maxL := 1) (ret := (some .int)) (lv := [(0, .ref (L 15))]) (by decide +kernel) rfl (Nat.le_of_ble_eq_true rfl) rfl ?_
  intro p e s m below meth c F hO ls hl
  obtain ⟨hx, hb, hr, hts, hown, hlocks, hml, hK, hN⟩ := id F
  have hA : ∀ q, fr L q → fr L q := fun q h => h
  unfold fX9_reads at hf
  refine lv_aload_n hx hb dX9_reads_0 rfl (lv_at hl 0 rfl) ?_
  refine lv_iconst (v := 0) hx hb dX9_reads_1 (by decide) ?_
  refine k_put (ty := .int) (k := 12) (r := 22) (k' := 3) hx hb tyX9 tyX9_ok nmX9 hts in_X9_reads_X9 hown hK  hL hA hO (by decide) rfl (by omega) (fun Y => rfl) (by simp [xup]) rfl (by decide) lk_X9_reads_f198 rfl (by decide +kernel) rfl rfl (Nat.le_of_ble_eq_true rfl) dX9_reads_2 (fun H_15 locs_15 hO_15 => ?_)
  replace hf := zl_some hf
  obtain ⟨X_14, hX_14, hf⟩ := hf
  have hQ_15 := zo_eq hX_14 hO_15
  clear hO_15 hO
  refine lv_aload_n hx hb dX9_reads_5 rfl (lv_at hl 0 rfl) ?_
  refine lv_iconst (v := 0) hx hb dX9_reads_6 (by decide) ?_
  refine k_put (ty := .int) (k := 15) (r := 22) (k' := 5) hx hb tyX9 tyX9_ok nmX9 hts in_X9_reads_X9 hown hK  hL hA hQ_15 (by decide) rfl (by omega) (fun Y => rfl) (by simp [xup]) rfl (by decide) lk_X9_reads_f208 rfl (by decide +kernel) rfl rfl (Nat.le_of_ble_eq_true rfl) dX9_reads_7 (fun H_17 locs_17 hO_17 => ?_)
  replace hf := zl_some hf
  obtain ⟨X_16, hX_16, hf⟩ := hf
  have hQ_17 := zo_eq hX_16 hO_17
  clear hO_17 hQ_15
  refine lv_aload_n hx hb dX9_reads_10 rfl (lv_at hl 0 rfl) ?_
  replace hf := zv_some hf
  obtain ⟨X_18, hc_18, hf⟩ := hf
  refine k_av (va_runV (As := []) (rest := []) ⟨hx, hb, hml, hown, hts⟩ (mX9_readsOrder l D L ac hL _  _ hc_18) (cwV 0 hts gX9_reads_X9_readsOrder rfl rfl rfl (by decide +kernel) ⟨Nat.le_of_ble_eq_true rfl, Nat.le_of_ble_eq_true rfl⟩) (k_pv (j := 15) hK hN hQ_17 (by decide) rfl rfl _) rfl rfl hl.1 rfl (lv_room (Nat.le_of_ble_eq_true rfl)) dX9_reads_11 ⟨Nat.le_of_ble_eq_true rfl, Nat.le_of_ble_eq_true rfl⟩) hA hQ_17 (fun H_19 locs_19 hO_19 => ?_)
  clear hQ_17
  exact wX9_reads_14 hL F  fuel _  _ _ _ hO_19 (lv_sub hl [0] rfl) hf
theorem in_X9_fault_X9 : ∀ w ∈ u_ws RX9 TX9 16, w ∈ wsX9_fault := by decide +kernel
theorem lk_X9_fault_f41 : Cond.fieldLink RX9 41 "PoisonPilesModel" "thrown" "I" ∈ wsX9_fault := by decide +kernel
def fX9_fault   (X : XM) : Option (Int32 × XM) := zl (xup X 22 0 0) (fun X_1 => zi (fX9_reads X_1) (fun r_4 X_3 => some (r_4, X_3)))
set_option maxHeartbeats 4000000 in
set_option maxRecDepth 100000 in
theorem mX9_fault (l : Launch) (D : va_G) (L : Nat → Nat) (ac : Nat → ClassId) (hL : LL L) (X : XM)  (r0 : Int32) (X0 : XM) (hf : fX9_fault  X = some (r0, X0)) : Ci l yX9_fault wsX9_fault ({ frames := 4, cells := 0, slots := 0, locals := 85 }) D L ac X [.ref (L 15)] r0 X0 := by
  refine Met.ofK (cc := cX9_fault) (maxL := 1) (ret := (some .int)) (lv := [(0, .ref (L 15))]) (by decide +kernel) rfl (Nat.le_of_ble_eq_true rfl) rfl ?_
  intro p e s m below meth c F hO ls hl
  obtain ⟨hx, hb, hr, hts, hown, hlocks, hml, hK, hN⟩ := id F
  have hA : ∀ q, fr L q → fr L q := fun q h => h
  unfold fX9_fault at hf
  refine lv_aload_n hx hb dX9_fault_0 rfl (lv_at hl 0 rfl) ?_
  refine lv_iconst (v := 0) hx hb dX9_fault_1 (by decide) ?_
  refine k_put (ty := .int) (k := 0) (r := 22) (k' := 0) hx hb tyX9 tyX9_ok nmX9 hts in_X9_fault_X9 hown hK  hL hA hO (by decide) rfl (by omega) (fun Y => rfl) (by simp [xup]) rfl (by decide) lk_X9_fault_f41 rfl (by decide +kernel) rfl rfl (Nat.le_of_ble_eq_true rfl) dX9_fault_2 (fun H_2 locs_2 hO_2 => ?_)
  replace hf := zl_some hf
  obtain ⟨X_1, hX_1, hf⟩ := hf
  have hQ_2 := zo_eq hX_1 hO_2
  clear hO_2 hO
  refine lv_aload_n hx hb dX9_fault_5 rfl (lv_at hl 0 rfl) ?_
  replace hf := zi_some hf
  obtain ⟨r_4, X_3, hc_3, hf⟩ := hf
  refine k_ai (va_runV (As := []) (rest := []) ⟨hx, hb, hml, hown, hts⟩ (mX9_reads l D L ac hL _  _ _ hc_3) (cwV 0 hts gX9_fault_X9_reads rfl rfl rfl (by decide +kernel) ⟨Nat.le_of_ble_eq_true rfl, Nat.le_of_ble_eq_true rfl⟩) (k_pv (j := 15) hK hN hQ_2 (by decide) rfl rfl _) rfl rfl hl.1 rfl (lv_room (Nat.le_of_ble_eq_true rfl)) dX9_fault_6 ⟨Nat.le_of_ble_eq_true rfl, Nat.le_of_ble_eq_true rfl⟩) hA hQ_2 (fun H_5 locs_5 hO_5 => ?_)
  clear hQ_2
  obtain ⟨rfl, rfl⟩ := Prod.mk.inj (Option.some.inj hf)
  exact e_i hx hb hr hK hN hO_5 hlocks dX9_fault_9
theorem in_X9_refuses_X9 : ∀ w ∈ u_ws RX9 TX9 16, w ∈ wsX9_refuses := by decide +kernel
theorem lk_X9_refuses_f38 : Cond.fieldLink RX9 38 "PoisonPilesModel" "orders" "[I" ∈ wsX9_refuses := by decide +kernel
def fX9_refuses  (a1 : Int32) (X : XM) : Option (Int32 × XM) := zd (a1 + 1) 168 (zl (X 32 (Int32.toNatClampNeg (a1 + 1))) (fun v_2 => zd (a1 + 2) 168 (zl (X 32 (Int32.toNatClampNeg (a1 + 2))) (fun v_5 => zd a1 168 (if (X 32 (Int32.toNatClampNeg a1)) = 43 then zd (a1 + 3) 168 (zi (fX9_refusesPile v_2 v_5 (X 32 (Int32.toNatClampNeg (a1 + 3))) X) (fun r_11 X_10 => some (r_11, X_10))) else (if (X 32 (Int32.toNatClampNeg a1)) = 45 then zi (fX9_refusesTake v_2 v_5 X) (fun r_15 X_14 => some (r_15, X_14)) else (if (X 32 (Int32.toNatClampNeg a1)) = 109 then zi (fX9_isOver X) (fun r_19 X_18 => if r_19 = 0 then some (0, X_18) else some ((-5), X_18)) else (if (X 32 (Int32.toNatClampNeg a1)) = 112 then zi (fX9_canPass X) (fun r_24 X_23 => if r_24 = 0 then some ((-5), X_23) else some (0, X_23)) else (zi (fX9_refusesPasses v_2 v_5 X) (fun r_28 X_27 => some (r_28, X_27)))))))))))
set_option maxHeartbeats 4000000 in
set_option maxRecDepth 100000 in
theorem mX9_refuses (l : Launch) (D : va_G) (L : Nat → Nat) (ac : Nat → ClassId) (hL : LL L) (X : XM) (a1 : Int32) (r0 : Int32) (X0 : XM) (hf : fX9_refuses a1 X = some (r0, X0)) : Ci l yX9_refuses wsX9_refuses ({ frames := 5, cells := 0, slots := 0, locals := 110 }) D L ac X [.ref (L 15), .int a1] r0 X0 := by
  refine Met.ofK (cc := cX9_refuses) (maxL := 4) (ret := (some .int)) (lv := [(0, .ref (L 15)), (1, .int a1)]) (by decide +kernel) rfl (Nat.le_of_ble_eq_true rfl) rfl ?_
  intro p e s m below meth c F hO ls hl
  obtain ⟨hx, hb, hr, hts, hown, hlocks, hml, hK, hN⟩ := id F
  have hA : ∀ q, fr L q → fr L q := fun q h => h
  unfold fX9_refuses at hf
  refine lv_aload_n hx hb dX9_refuses_0 rfl (lv_at hl 0 rfl) ?_
  refine k_get (k := 14) (v := .ref (L 25)) hx hb hts in_X9_refuses_X9 hown hK hO (by decide) rfl rfl (by decide) lk_X9_refuses_f38 rfl dX9_refuses_1 ?_
  refine lv_iload_n hx hb dX9_refuses_4 rfl (lv_at hl 1 rfl) ?_
  refine lv_iconst (v := 1) hx hb dX9_refuses_5 (by decide) ?_
  refine lv_iadd hx hb dX9_refuses_6 ?_
  replace hf := zd_some hf
  obtain ⟨hi_1, hf⟩ := hf
  refine k_iald hx hb hK hO (by decide) (fun _ => rfl) hi_1 dX9_refuses_7 ?_
  replace hf := zl_some hf
  obtain ⟨v_2, hv_2, hf⟩ := hf
  refine lv_tope hv_2 ?_
  refine lv_istore_n (lv' := [(2, .int v_2), (0, .ref (L 15)), (1, .int a1)]) hx hb dX9_refuses_8 rfl hl (by decide) rfl (fun ls_3 hl_3 => ?_)
  clear hl
  refine lv_aload_n hx hb dX9_refuses_9 rfl (lv_at hl_3 1 rfl) ?_
  refine k_get (k := 14) (v := .ref (L 25)) hx hb hts in_X9_refuses_X9 hown hK hO (by decide) rfl rfl (by decide) lk_X9_refuses_f38 rfl dX9_refuses_10 ?_
  refine lv_iload_n hx hb dX9_refuses_13 rfl (lv_at hl_3 2 rfl) ?_
  refine lv_iconst (v := 2) hx hb dX9_refuses_14 (by decide) ?_
  refine lv_iadd hx hb dX9_refuses_15 ?_
  replace hf := zd_some hf
  obtain ⟨hi_4, hf⟩ := hf
  refine k_iald hx hb hK hO (by decide) (fun _ => rfl) hi_4 dX9_refuses_16 ?_
  replace hf := zl_some hf
  obtain ⟨v_5, hv_5, hf⟩ := hf
  refine lv_tope hv_5 ?_
  refine lv_istore_n (lv' := [(3, .int v_5), (2, .int v_2), (0, .ref (L 15)), (1, .int a1)]) hx hb dX9_refuses_17 rfl hl_3 (by decide) rfl (fun ls_6 hl_6 => ?_)
  clear hl_3
  refine lv_aload_n hx hb dX9_refuses_18 rfl (lv_at hl_6 2 rfl) ?_
  refine k_get (k := 14) (v := .ref (L 25)) hx hb hts in_X9_refuses_X9 hown hK hO (by decide) rfl rfl (by decide) lk_X9_refuses_f38 rfl dX9_refuses_19 ?_
  refine lv_iload_n hx hb dX9_refuses_22 rfl (lv_at hl_6 3 rfl) ?_
  replace hf := zd_some hf
  obtain ⟨hi_7, hf⟩ := hf
  refine k_iald hx hb hK hO (by decide) (fun _ => rfl) hi_7 dX9_refuses_23 ?_
  by_cases c_8 : (X 32 (Int32.toNatClampNeg a1)) = 43
  · rw [if_pos c_8] at hf
    refine k_lkIn (tgt := 68) (off := 44) hx hb c_8 dX9_refuses_24 (by decide) (by decide +kernel) (by decide) ?_
    refine lv_aload_n hx hb dX9_refuses_68 rfl (lv_at hl_6 2 rfl) ?_
    refine lv_iload_n hx hb dX9_refuses_69 rfl (lv_at hl_6 1 rfl) ?_
    refine lv_iload_n hx hb dX9_refuses_70 rfl (lv_at hl_6 0 rfl) ?_
    refine lv_aload_n hx hb dX9_refuses_71 rfl (lv_at hl_6 2 rfl) ?_
    refine k_get (k := 14) (v := .ref (L 25)) hx hb hts in_X9_refuses_X9 hown hK hO (by decide) rfl rfl (by decide) lk_X9_refuses_f38 rfl dX9_refuses_72 ?_
    refine lv_iload_n hx hb dX9_refuses_75 rfl (lv_at hl_6 3 rfl) ?_
    refine lv_iconst (v := 3) hx hb dX9_refuses_76 (by decide) ?_
    refine lv_iadd hx hb dX9_refuses_77 ?_
    replace hf := zd_some hf
    obtain ⟨hi_9, hf⟩ := hf
    refine k_iald hx hb hK hO (by decide) (fun _ => rfl) hi_9 dX9_refuses_78 ?_
    replace hf := zi_some hf
    obtain ⟨r_11, X_10, hc_10, hf⟩ := hf
    refine k_ai (va_runV (As := [.int v_2, .int v_5, .int (X 32 (Int32.toNatClampNeg (a1 + 3)))]) (rest := []) ⟨hx, hb, hml, hown, hts⟩ (mX9_refusesPile l D L ac hL _ v_2 v_5 (X 32 (Int32.toNatClampNeg (a1 + 3))) _ _ hc_10) (cwV 3 hts gX9_refuses_X9_refusesPile rfl rfl rfl (by decide +kernel) ⟨Nat.le_of_ble_eq_true rfl, Nat.le_of_ble_eq_true rfl⟩) (k_pv (j := 15) hK hN hO (by decide) rfl rfl _) rfl rfl hl_6.1 rfl (lv_room (Nat.le_of_ble_eq_true rfl)) dX9_refuses_79 ⟨Nat.le_of_ble_eq_true rfl, Nat.le_of_ble_eq_true rfl⟩) hA hO (fun H_12 locs_12 hO_12 => ?_)
    clear hO
    obtain ⟨rfl, rfl⟩ := Prod.mk.inj (Option.some.inj hf)
    exact e_i hx hb hr hK hN hO_12 hlocks dX9_refuses_82
  · rw [if_neg c_8] at hf
    by_cases c_13 : (X 32 (Int32.toNatClampNeg a1)) = 45
    · rw [if_pos c_13] at hf
      refine k_lkIn (tgt := 83) (off := 59) hx hb c_13 dX9_refuses_24 (by decide) (by decide +kernel) (by decide) ?_
      refine lv_aload_n hx hb dX9_refuses_83 rfl (lv_at hl_6 2 rfl) ?_
      refine lv_iload_n hx hb dX9_refuses_84 rfl (lv_at hl_6 1 rfl) ?_
      refine lv_iload_n hx hb dX9_refuses_85 rfl (lv_at hl_6 0 rfl) ?_
      replace hf := zi_some hf
      obtain ⟨r_15, X_14, hc_14, hf⟩ := hf
      refine k_ai (va_runV (As := [.int v_2, .int v_5]) (rest := []) ⟨hx, hb, hml, hown, hts⟩ (mX9_refusesTake l D L ac hL _ v_2 v_5 _ _ hc_14) (cwV 2 hts gX9_refuses_X9_refusesTake rfl rfl rfl (by decide +kernel) ⟨Nat.le_of_ble_eq_true rfl, Nat.le_of_ble_eq_true rfl⟩) (k_pv (j := 15) hK hN hO (by decide) rfl rfl _) rfl rfl hl_6.1 rfl (lv_room (Nat.le_of_ble_eq_true rfl)) dX9_refuses_86 ⟨Nat.le_of_ble_eq_true rfl, Nat.le_of_ble_eq_true rfl⟩) hA hO (fun H_16 locs_16 hO_16 => ?_)
      clear hO
      obtain ⟨rfl, rfl⟩ := Prod.mk.inj (Option.some.inj hf)
      exact e_i hx hb hr hK hN hO_16 hlocks dX9_refuses_89
    · rw [if_neg c_13] at hf
      by_cases c_17 : (X 32 (Int32.toNatClampNeg a1)) = 109
      · rw [if_pos c_17] at hf
        refine k_lkIn (tgt := 104) (off := 80) hx hb c_17 dX9_refuses_24 (by decide) (by decide +kernel) (by decide) ?_
        refine lv_aload_n hx hb dX9_refuses_104 rfl (lv_at hl_6 2 rfl) ?_
        replace hf := zi_some hf
        obtain ⟨r_19, X_18, hc_18, hf⟩ := hf
        refine k_ai (va_runV (As := []) (rest := []) ⟨hx, hb, hml, hown, hts⟩ (mX9_isOver l D L ac hL _  _ _ hc_18) (cwV 0 hts gX9_refuses_X9_isOver rfl rfl rfl (by decide +kernel) ⟨Nat.le_of_ble_eq_true rfl, Nat.le_of_ble_eq_true rfl⟩) (k_pv (j := 15) hK hN hO (by decide) rfl rfl _) rfl rfl hl_6.1 rfl (lv_room (Nat.le_of_ble_eq_true rfl)) dX9_refuses_105 ⟨Nat.le_of_ble_eq_true rfl, Nat.le_of_ble_eq_true rfl⟩) hA hO (fun H_20 locs_20 hO_20 => ?_)
        clear hO
        refine lv_if_eq (tgt := 116) hx hb dX9_refuses_108 (by decide) (fun c_21 => ?_) (fun c_21 => ?_)
        · rw [if_pos c_21] at hf
          subst c_21
          refine lv_iconst (v := 0) hx hb dX9_refuses_116 (by decide) ?_
          obtain ⟨rfl, rfl⟩ := Prod.mk.inj (Option.some.inj hf)
          exact e_i hx hb hr hK hN hO_20 hlocks dX9_refuses_117
        · rw [if_neg c_21] at hf
          refine lv_bipush (v := (-5)) hx hb dX9_refuses_111 (by decide) ?_
          refine lv_goto (tgt := 117) hx hb dX9_refuses_113 (by decide) ?_
          obtain ⟨rfl, rfl⟩ := Prod.mk.inj (Option.some.inj hf)
          exact e_i hx hb hr hK hN hO_20 hlocks dX9_refuses_117
      · rw [if_neg c_17] at hf
        by_cases c_22 : (X 32 (Int32.toNatClampNeg a1)) = 112
        · rw [if_pos c_22] at hf
          refine k_lkIn (tgt := 90) (off := 66) hx hb c_22 dX9_refuses_24 (by decide) (by decide +kernel) (by decide) ?_
          refine lv_aload_n hx hb dX9_refuses_90 rfl (lv_at hl_6 2 rfl) ?_
          replace hf := zi_some hf
          obtain ⟨r_24, X_23, hc_23, hf⟩ := hf
          refine k_ai (va_runV (As := []) (rest := []) ⟨hx, hb, hml, hown, hts⟩ (mX9_canPass l D L ac hL _  _ _ hc_23) (cwV 0 hts gX9_refuses_X9_canPass rfl rfl rfl (by decide +kernel) ⟨Nat.le_of_ble_eq_true rfl, Nat.le_of_ble_eq_true rfl⟩) (k_pv (j := 15) hK hN hO (by decide) rfl rfl _) rfl rfl hl_6.1 rfl (lv_room (Nat.le_of_ble_eq_true rfl)) dX9_refuses_91 ⟨Nat.le_of_ble_eq_true rfl, Nat.le_of_ble_eq_true rfl⟩) hA hO (fun H_25 locs_25 hO_25 => ?_)
          clear hO
          refine lv_if_eq (tgt := 101) hx hb dX9_refuses_94 (by decide) (fun c_26 => ?_) (fun c_26 => ?_)
          · rw [if_pos c_26] at hf
            subst c_26
            refine lv_bipush (v := (-5)) hx hb dX9_refuses_101 (by decide) ?_
            obtain ⟨rfl, rfl⟩ := Prod.mk.inj (Option.some.inj hf)
            exact e_i hx hb hr hK hN hO_25 hlocks dX9_refuses_103
          · rw [if_neg c_26] at hf
            refine lv_iconst (v := 0) hx hb dX9_refuses_97 (by decide) ?_
            refine lv_goto (tgt := 103) hx hb dX9_refuses_98 (by decide) ?_
            obtain ⟨rfl, rfl⟩ := Prod.mk.inj (Option.some.inj hf)
            exact e_i hx hb hr hK hN hO_25 hlocks dX9_refuses_103
        · rw [if_neg c_22] at hf
          refine lv_lookup (tgt := 118) (off := 94) hx hb dX9_refuses_24 (by decide +kernel) (lk_out4 c_8 c_13 c_17 c_22) (by decide) ?_
          refine lv_iload_n hx hb dX9_refuses_118 rfl (lv_at hl_6 1 rfl) ?_
          refine lv_iload_n hx hb dX9_refuses_119 rfl (lv_at hl_6 0 rfl) ?_
          replace hf := zi_some hf
          obtain ⟨r_28, X_27, hc_27, hf⟩ := hf
          refine k_ai (va_runS (As := [.int v_2, .int v_5]) (rest := []) ⟨hx, hb, hml, hown, hts⟩ (mX9_refusesPasses l D L ac hL _ v_2 v_5 _ _ hc_27) (va_cwS 2 hts gX9_refuses_X9_refusesPasses rfl rfl rfl (by decide +kernel) ⟨Nat.le_of_ble_eq_true rfl, Nat.le_of_ble_eq_true rfl⟩) (k_ps hK hN hO _) rfl rfl hl_6.1 rfl (lv_room (Nat.le_of_ble_eq_true rfl)) dX9_refuses_120 ⟨Nat.le_of_ble_eq_true rfl, Nat.le_of_ble_eq_true rfl⟩) hA hO (fun H_29 locs_29 hO_29 => ?_)
          clear hO
          obtain ⟨rfl, rfl⟩ := Prod.mk.inj (Option.some.inj hf)
          exact e_i hx hb hr hK hN hO_29 hlocks dX9_refuses_123
theorem in_X9_carries_X9 : ∀ w ∈ u_ws RX9 TX9 16, w ∈ wsX9_carries := by decide +kernel
theorem lk_X9_carries_f38 : Cond.fieldLink RX9 38 "PoisonPilesModel" "orders" "[I" ∈ wsX9_carries := by decide +kernel
def fX9_carries  (a1 : Int32) (X : XM) : Option XM := zd (a1 + 1) 168 (zl (X 32 (Int32.toNatClampNeg (a1 + 1))) (fun v_2 => zd (a1 + 2) 168 (zl (X 32 (Int32.toNatClampNeg (a1 + 2))) (fun v_5 => zd a1 168 (if (X 32 (Int32.toNatClampNeg a1)) = 43 then zd (a1 + 3) 168 (zi (fX9_comes v_2 v_5 (X 32 (Int32.toNatClampNeg (a1 + 3))) X) (fun r_11 X_10 => some X_10)) else (if (X 32 (Int32.toNatClampNeg a1)) = 45 then zv (fX9_does (((5 * v_2) + v_5) - 1) X) (fun X_14 => some X_14) else (if (X 32 (Int32.toNatClampNeg a1)) = 109 then zi (fX9_plays 1 X) (fun r_18 X_17 => some X_17) else (if (X 32 (Int32.toNatClampNeg a1)) = 112 then zv (fX9_does 20 X) (fun X_21 => some X_21) else (zv (fX9_gives v_2 v_5 X) (fun X_23 => some X_23))))))))))
set_option maxHeartbeats 4000000 in
set_option maxRecDepth 100000 in
theorem mX9_carries (l : Launch) (D : va_G) (L : Nat → Nat) (ac : Nat → ClassId) (hL : LL L) (X : XM) (a1 : Int32) (X0 : XM) (hf : fX9_carries a1 X = some X0) : Cv l yX9_carries wsX9_carries ({ frames := 8, cells := 0, slots := 0, locals := 182 }) D L ac X [.ref (L 15), .int a1] X0 := by
  refine Met.ofK (cc := cX9_carries) (maxL := 4) (ret := none) (lv := [(0, .ref (L 15)), (1, .int a1)]) (by decide +kernel) rfl (Nat.le_of_ble_eq_true rfl) rfl ?_
  intro p e s m below meth c F hO ls hl
  obtain ⟨hx, hb, hr, hts, hown, hlocks, hml, hK, hN⟩ := id F
  have hA : ∀ q, fr L q → fr L q := fun q h => h
  unfold fX9_carries at hf
  refine lv_aload_n hx hb dX9_carries_0 rfl (lv_at hl 0 rfl) ?_
  refine k_get (k := 14) (v := .ref (L 25)) hx hb hts in_X9_carries_X9 hown hK hO (by decide) rfl rfl (by decide) lk_X9_carries_f38 rfl dX9_carries_1 ?_
  refine lv_iload_n hx hb dX9_carries_4 rfl (lv_at hl 1 rfl) ?_
  refine lv_iconst (v := 1) hx hb dX9_carries_5 (by decide) ?_
  refine lv_iadd hx hb dX9_carries_6 ?_
  replace hf := zd_some hf
  obtain ⟨hi_1, hf⟩ := hf
  refine k_iald hx hb hK hO (by decide) (fun _ => rfl) hi_1 dX9_carries_7 ?_
  replace hf := zl_some hf
  obtain ⟨v_2, hv_2, hf⟩ := hf
  refine lv_tope hv_2 ?_
  refine lv_istore_n (lv' := [(2, .int v_2), (0, .ref (L 15)), (1, .int a1)]) hx hb dX9_carries_8 rfl hl (by decide) rfl (fun ls_3 hl_3 => ?_)
  clear hl
  refine lv_aload_n hx hb dX9_carries_9 rfl (lv_at hl_3 1 rfl) ?_
  refine k_get (k := 14) (v := .ref (L 25)) hx hb hts in_X9_carries_X9 hown hK hO (by decide) rfl rfl (by decide) lk_X9_carries_f38 rfl dX9_carries_10 ?_
  refine lv_iload_n hx hb dX9_carries_13 rfl (lv_at hl_3 2 rfl) ?_
  refine lv_iconst (v := 2) hx hb dX9_carries_14 (by decide) ?_
  refine lv_iadd hx hb dX9_carries_15 ?_
  replace hf := zd_some hf
  obtain ⟨hi_4, hf⟩ := hf
  refine k_iald hx hb hK hO (by decide) (fun _ => rfl) hi_4 dX9_carries_16 ?_
  replace hf := zl_some hf
  obtain ⟨v_5, hv_5, hf⟩ := hf
  refine lv_tope hv_5 ?_
  refine lv_istore_n (lv' := [(3, .int v_5), (2, .int v_2), (0, .ref (L 15)), (1, .int a1)]) hx hb dX9_carries_17 rfl hl_3 (by decide) rfl (fun ls_6 hl_6 => ?_)
  clear hl_3
  refine lv_aload_n hx hb dX9_carries_18 rfl (lv_at hl_6 2 rfl) ?_
  refine k_get (k := 14) (v := .ref (L 25)) hx hb hts in_X9_carries_X9 hown hK hO (by decide) rfl rfl (by decide) lk_X9_carries_f38 rfl dX9_carries_19 ?_
  refine lv_iload_n hx hb dX9_carries_22 rfl (lv_at hl_6 3 rfl) ?_
  replace hf := zd_some hf
  obtain ⟨hi_7, hf⟩ := hf
  refine k_iald hx hb hK hO (by decide) (fun _ => rfl) hi_7 dX9_carries_23 ?_
  by_cases c_8 : (X 32 (Int32.toNatClampNeg a1)) = 43
  · rw [if_pos c_8] at hf
    refine k_lkIn (tgt := 68) (off := 44) hx hb c_8 dX9_carries_24 (by decide) (by decide +kernel) (by decide) ?_
    refine lv_aload_n hx hb dX9_carries_68 rfl (lv_at hl_6 2 rfl) ?_
    refine lv_iload_n hx hb dX9_carries_69 rfl (lv_at hl_6 1 rfl) ?_
    refine lv_iload_n hx hb dX9_carries_70 rfl (lv_at hl_6 0 rfl) ?_
    refine lv_aload_n hx hb dX9_carries_71 rfl (lv_at hl_6 2 rfl) ?_
    refine k_get (k := 14) (v := .ref (L 25)) hx hb hts in_X9_carries_X9 hown hK hO (by decide) rfl rfl (by decide) lk_X9_carries_f38 rfl dX9_carries_72 ?_
    refine lv_iload_n hx hb dX9_carries_75 rfl (lv_at hl_6 3 rfl) ?_
    refine lv_iconst (v := 3) hx hb dX9_carries_76 (by decide) ?_
    refine lv_iadd hx hb dX9_carries_77 ?_
    replace hf := zd_some hf
    obtain ⟨hi_9, hf⟩ := hf
    refine k_iald hx hb hK hO (by decide) (fun _ => rfl) hi_9 dX9_carries_78 ?_
    replace hf := zi_some hf
    obtain ⟨r_11, X_10, hc_10, hf⟩ := hf
    refine k_ai (va_runV (As := [.int v_2, .int v_5, .int (X 32 (Int32.toNatClampNeg (a1 + 3)))]) (rest := []) ⟨hx, hb, hml, hown, hts⟩ (mX9_comes l D L ac hL _ v_2 v_5 (X 32 (Int32.toNatClampNeg (a1 + 3))) _ _ hc_10) (cwV 3 hts gX9_carries_X9_comes rfl rfl rfl (by decide +kernel) ⟨Nat.le_of_ble_eq_true rfl, Nat.le_of_ble_eq_true rfl⟩) (k_pv (j := 15) hK hN hO (by decide) rfl rfl _) rfl rfl hl_6.1 rfl (lv_room (Nat.le_of_ble_eq_true rfl)) dX9_carries_79 ⟨Nat.le_of_ble_eq_true rfl, Nat.le_of_ble_eq_true rfl⟩) hA hO (fun H_12 locs_12 hO_12 => ?_)
    clear hO
    refine lv_pop hx hb dX9_carries_82 rfl ?_
    refine lv_goto (tgt := 124) hx hb dX9_carries_83 (by decide) ?_
    obtain rfl := Option.some.inj hf
    exact e_v hx hb hr hK hN hO_12 hlocks dX9_carries_124
  · rw [if_neg c_8] at hf
    by_cases c_13 : (X 32 (Int32.toNatClampNeg a1)) = 45
    · rw [if_pos c_13] at hf
      refine k_lkIn (tgt := 86) (off := 62) hx hb c_13 dX9_carries_24 (by decide) (by decide +kernel) (by decide) ?_
      refine lv_aload_n hx hb dX9_carries_86 rfl (lv_at hl_6 2 rfl) ?_
      refine lv_iconst (v := 5) hx hb dX9_carries_87 (by decide) ?_
      refine lv_iload_n hx hb dX9_carries_88 rfl (lv_at hl_6 1 rfl) ?_
      refine lv_imul hx hb dX9_carries_89 ?_
      refine lv_iload_n hx hb dX9_carries_90 rfl (lv_at hl_6 0 rfl) ?_
      refine lv_iadd hx hb dX9_carries_91 ?_
      refine lv_iconst (v := 1) hx hb dX9_carries_92 (by decide) ?_
      refine lv_isub hx hb dX9_carries_93 ?_
      replace hf := zv_some hf
      obtain ⟨X_14, hc_14, hf⟩ := hf
      refine k_av (va_runV (As := [.int (((5 * v_2) + v_5) - 1)]) (rest := []) ⟨hx, hb, hml, hown, hts⟩ (mX9_does l D L ac hL _ (((5 * v_2) + v_5) - 1) _ hc_14) (cwV 1 hts gX9_carries_X9_does rfl rfl rfl (by decide +kernel) ⟨Nat.le_of_ble_eq_true rfl, Nat.le_of_ble_eq_true rfl⟩) (k_pv (j := 15) hK hN hO (by decide) rfl rfl _) rfl rfl hl_6.1 rfl (lv_room (Nat.le_of_ble_eq_true rfl)) dX9_carries_94 ⟨Nat.le_of_ble_eq_true rfl, Nat.le_of_ble_eq_true rfl⟩) hA hO (fun H_15 locs_15 hO_15 => ?_)
      clear hO
      refine lv_goto (tgt := 124) hx hb dX9_carries_97 (by decide) ?_
      obtain rfl := Option.some.inj hf
      exact e_v hx hb hr hK hN hO_15 hlocks dX9_carries_124
    · rw [if_neg c_13] at hf
      by_cases c_16 : (X 32 (Int32.toNatClampNeg a1)) = 109
      · rw [if_pos c_16] at hf
        refine k_lkIn (tgt := 109) (off := 85) hx hb c_16 dX9_carries_24 (by decide) (by decide +kernel) (by decide) ?_
        refine lv_aload_n hx hb dX9_carries_109 rfl (lv_at hl_6 2 rfl) ?_
        refine lv_iconst (v := 1) hx hb dX9_carries_110 (by decide) ?_
        replace hf := zi_some hf
        obtain ⟨r_18, X_17, hc_17, hf⟩ := hf
        refine k_ai (va_runV (As := [.int 1]) (rest := []) ⟨hx, hb, hml, hown, hts⟩ (mX9_plays l D L ac hL _ 1 _ _ hc_17) (cwV 1 hts gX9_carries_X9_plays rfl rfl rfl (by decide +kernel) ⟨Nat.le_of_ble_eq_true rfl, Nat.le_of_ble_eq_true rfl⟩) (k_pv (j := 15) hK hN hO (by decide) rfl rfl _) rfl rfl hl_6.1 rfl (lv_room (Nat.le_of_ble_eq_true rfl)) dX9_carries_111 ⟨Nat.le_of_ble_eq_true rfl, Nat.le_of_ble_eq_true rfl⟩) hA hO (fun H_19 locs_19 hO_19 => ?_)
        clear hO
        refine lv_pop hx hb dX9_carries_114 rfl ?_
        refine lv_goto (tgt := 124) hx hb dX9_carries_115 (by decide) ?_
        obtain rfl := Option.some.inj hf
        exact e_v hx hb hr hK hN hO_19 hlocks dX9_carries_124
      · rw [if_neg c_16] at hf
        by_cases c_20 : (X 32 (Int32.toNatClampNeg a1)) = 112
        · rw [if_pos c_20] at hf
          refine k_lkIn (tgt := 100) (off := 76) hx hb c_20 dX9_carries_24 (by decide) (by decide +kernel) (by decide) ?_
          refine lv_aload_n hx hb dX9_carries_100 rfl (lv_at hl_6 2 rfl) ?_
          refine lv_bipush (v := 20) hx hb dX9_carries_101 (by decide) ?_
          replace hf := zv_some hf
          obtain ⟨X_21, hc_21, hf⟩ := hf
          refine k_av (va_runV (As := [.int 20]) (rest := []) ⟨hx, hb, hml, hown, hts⟩ (mX9_does l D L ac hL _ 20 _ hc_21) (cwV 1 hts gX9_carries_X9_does rfl rfl rfl (by decide +kernel) ⟨Nat.le_of_ble_eq_true rfl, Nat.le_of_ble_eq_true rfl⟩) (k_pv (j := 15) hK hN hO (by decide) rfl rfl _) rfl rfl hl_6.1 rfl (lv_room (Nat.le_of_ble_eq_true rfl)) dX9_carries_103 ⟨Nat.le_of_ble_eq_true rfl, Nat.le_of_ble_eq_true rfl⟩) hA hO (fun H_22 locs_22 hO_22 => ?_)
          clear hO
          refine lv_goto (tgt := 124) hx hb dX9_carries_106 (by decide) ?_
          obtain rfl := Option.some.inj hf
          exact e_v hx hb hr hK hN hO_22 hlocks dX9_carries_124
        · rw [if_neg c_20] at hf
          refine lv_lookup (tgt := 118) (off := 94) hx hb dX9_carries_24 (by decide +kernel) (lk_out4 c_8 c_13 c_16 c_20) (by decide) ?_
          refine lv_aload_n hx hb dX9_carries_118 rfl (lv_at hl_6 2 rfl) ?_
          refine lv_iload_n hx hb dX9_carries_119 rfl (lv_at hl_6 1 rfl) ?_
          refine lv_iload_n hx hb dX9_carries_120 rfl (lv_at hl_6 0 rfl) ?_
          replace hf := zv_some hf
          obtain ⟨X_23, hc_23, hf⟩ := hf
          refine k_av (va_runV (As := [.int v_2, .int v_5]) (rest := []) ⟨hx, hb, hml, hown, hts⟩ (mX9_gives l D L ac hL _ v_2 v_5 _ hc_23) (cwV 2 hts gX9_carries_X9_gives rfl rfl rfl (by decide +kernel) ⟨Nat.le_of_ble_eq_true rfl, Nat.le_of_ble_eq_true rfl⟩) (k_pv (j := 15) hK hN hO (by decide) rfl rfl _) rfl rfl hl_6.1 rfl (lv_room (Nat.le_of_ble_eq_true rfl)) dX9_carries_121 ⟨Nat.le_of_ble_eq_true rfl, Nat.le_of_ble_eq_true rfl⟩) hA hO (fun H_24 locs_24 hO_24 => ?_)
          clear hO
          obtain rfl := Option.some.inj hf
          exact e_v hx hb hr hK hN hO_24 hlocks dX9_carries_124
theorem in_X9_carryOut_X9 : ∀ w ∈ u_ws RX9 TX9 16, w ∈ wsX9_carryOut := by decide +kernel
theorem lk_X9_carryOut_f176 : Cond.fieldLink RX9 176 "PoisonPilesModel" "length" "I" ∈ wsX9_carryOut := by decide +kernel
theorem lk_X9_carryOut_f208 : Cond.fieldLink RX9 208 "PoisonPilesModel" "orderMany" "I" ∈ wsX9_carryOut := by decide +kernel
theorem lk_X9_carryOut_f41 : Cond.fieldLink RX9 41 "PoisonPilesModel" "thrown" "I" ∈ wsX9_carryOut := by decide +kernel
def fX9_carryOut_28   : Nat → Int32 → XM → Option (Int32 × XM)
  | 0, _, _ => none
  | n + 1, x1, X => if (X 22 5) ≤ x1 then some (X 22 5, X) else zi (fX9_refuses (4 * x1) X) (fun r_3 X_2 => if r_3 = 0 then zv (fX9_carries (4 * x1) X_2) (fun X_6 => fX9_carryOut_28 n (x1 + 1) X_6) else some (x1, X_2))
set_option maxHeartbeats 4000000 in
set_option maxRecDepth 100000 in
theorem wX9_carryOut_28 {p : Program} {l : Launch} {e : Env} {s : State} {m : MethodId} {args : Array Value} {below : List Frame} {meth : Method} {c : Code} {D : va_G} {L : Nat → Nat} {ac : Nat → ClassId} {r0 : Int32} {X0 : XM} (hL : LL L) (F : Fx p s m args meth c cX9_carryOut 2 (some .int) wsX9_carryOut yX9_carryOut.cls D ac) : ∀ (n : Nat) (x1 : Int32) (X : XM) (H : Heap) (locs : List Loc) (ls : Array Slot), Oh D L ac X (fr L) s.heap H locs → lv_has ls 2 [(0, .ref (L 15)), (1, .int x1)] → fX9_carryOut_28 n x1 X = some (r0, X0) → W p l e (headSpec wsX9_carryOut ({ frames := 9, cells := 0, slots := 0, locals := 205 })).room s m args below meth c H locs 0 0 (MQ below (va_Qi (fun (r : Int32) (Y : XM) => r = r0 ∧ Y = X0) (fun (Y : XM) t => St D L ac Y t) (fr L)) args s 0 0 (fr L)) (F0 m 28 ls []) := by
  obtain ⟨hx, hb, hr, hts, hown, hlocks, hml, hK, hN⟩ := id F
  have hA : ∀ q, fr L q → fr L q := fun q h => h
  intro n
  induction n with
  | zero => intro x1 X H locs ls hO hl hf; simp [fX9_carryOut_28] at hf
  | succ n ih =>
    intro x1 X H locs ls hO hl hf
    rw [fX9_carryOut_28] at hf
    refine lv_iload_n hx hb dX9_carryOut_28 rfl (lv_at hl 1 rfl) ?_
    refine lv_aload_n hx hb dX9_carryOut_29 rfl (lv_at hl 0 rfl) ?_
    refine k_get (k := 15) (v := .int (X 22 5)) hx hb hts in_X9_carryOut_X9 hown hK hO (by decide) rfl rfl (by decide) lk_X9_carryOut_f208 rfl dX9_carryOut_30 ?_
    refine lv_icmp_ge (tgt := 61) hx hb dX9_carryOut_33 (by decide) (fun c_1 => ?_) (fun c_1 => ?_)
    · rw [if_pos c_1] at hf
      refine lv_aload_n hx hb dX9_carryOut_61 rfl (lv_at hl 0 rfl) ?_
      refine k_get (k := 15) (v := .int (X 22 5)) hx hb hts in_X9_carryOut_X9 hown hK hO (by decide) rfl rfl (by decide) lk_X9_carryOut_f208 rfl dX9_carryOut_62 ?_
      obtain ⟨rfl, rfl⟩ := Prod.mk.inj (Option.some.inj hf)
      exact e_i hx hb hr hK hN hO hlocks dX9_carryOut_65
    · rw [if_neg c_1] at hf
      refine lv_aload_n hx hb dX9_carryOut_36 rfl (lv_at hl 0 rfl) ?_
      refine lv_iconst (v := 4) hx hb dX9_carryOut_37 (by decide) ?_
      refine lv_iload_n hx hb dX9_carryOut_38 rfl (lv_at hl 1 rfl) ?_
      refine lv_imul hx hb dX9_carryOut_39 ?_
      replace hf := zi_some hf
      obtain ⟨r_3, X_2, hc_2, hf⟩ := hf
      refine k_ai (va_runV (As := [.int (4 * x1)]) (rest := []) ⟨hx, hb, hml, hown, hts⟩ (mX9_refuses l D L ac hL _ (4 * x1) _ _ hc_2) (cwV 1 hts gX9_carryOut_X9_refuses rfl rfl rfl (by decide +kernel) ⟨Nat.le_of_ble_eq_true rfl, Nat.le_of_ble_eq_true rfl⟩) (k_pv (j := 15) hK hN hO (by decide) rfl rfl _) rfl rfl hl.1 rfl (lv_room (Nat.le_of_ble_eq_true rfl)) dX9_carryOut_40 ⟨Nat.le_of_ble_eq_true rfl, Nat.le_of_ble_eq_true rfl⟩) hA hO (fun H_4 locs_4 hO_4 => ?_)
      clear hO
      refine lv_if_eq (tgt := 48) hx hb dX9_carryOut_43 (by decide) (fun c_5 => ?_) (fun c_5 => ?_)
      · rw [if_pos c_5] at hf
        subst c_5
        refine lv_aload_n hx hb dX9_carryOut_48 rfl (lv_at hl 0 rfl) ?_
        refine lv_iconst (v := 4) hx hb dX9_carryOut_49 (by decide) ?_
        refine lv_iload_n hx hb dX9_carryOut_50 rfl (lv_at hl 1 rfl) ?_
        refine lv_imul hx hb dX9_carryOut_51 ?_
        replace hf := zv_some hf
        obtain ⟨X_6, hc_6, hf⟩ := hf
        refine k_av (va_runV (As := [.int (4 * x1)]) (rest := []) ⟨hx, hb, hml, hown, hts⟩ (mX9_carries l D L ac hL _ (4 * x1) _ hc_6) (cwV 1 hts gX9_carryOut_X9_carries rfl rfl rfl (by decide +kernel) ⟨Nat.le_of_ble_eq_true rfl, Nat.le_of_ble_eq_true rfl⟩) (k_pv (j := 15) hK hN hO_4 (by decide) rfl rfl _) rfl rfl hl.1 rfl (lv_room (Nat.le_of_ble_eq_true rfl)) dX9_carryOut_52 ⟨Nat.le_of_ble_eq_true rfl, Nat.le_of_ble_eq_true rfl⟩) hA hO_4 (fun H_7 locs_7 hO_7 => ?_)
        clear hO_4
        refine lv_iinc (v := x1 + 1) (lv' := [(1, .int (x1 + 1)), (0, .ref (L 15))]) hx hb dX9_carryOut_55 hl (k := 1) rfl rfl (by decide) rfl (fun ls_8 hl_8 => ?_)
        clear hl
        refine lv_goto (tgt := 28) hx hb dX9_carryOut_58 (by decide) ?_
        exact ih _ _  _ _ _ hO_7 (lv_sub hl_8 [1, 0] rfl) hf
      · rw [if_neg c_5] at hf
        refine lv_iload_n hx hb dX9_carryOut_46 rfl (lv_at hl 1 rfl) ?_
        obtain ⟨rfl, rfl⟩ := Prod.mk.inj (Option.some.inj hf)
        exact e_i hx hb hr hK hN hO_4 hlocks dX9_carryOut_47
def fX9_carryOut   (X : XM) : Option (Int32 × XM) := zl (xup X 22 0 0) (fun X_9 => zi (fX9_reads X_9) (fun r_12 X_11 => if r_12 = (-6) then zv (fX9_records X_11) (fun X_15 => zl (xup X_15 22 2 0) (fun X_17 => fX9_carryOut_28 fuel 0 X_17)) else some ((-3), X_11)))
set_option maxHeartbeats 4000000 in
set_option maxRecDepth 100000 in
theorem mX9_carryOut (l : Launch) (D : va_G) (L : Nat → Nat) (ac : Nat → ClassId) (hL : LL L) (X : XM)  (r0 : Int32) (X0 : XM) (hf : fX9_carryOut  X = some (r0, X0)) : Ci l yX9_carryOut wsX9_carryOut ({ frames := 9, cells := 0, slots := 0, locals := 205 }) D L ac X [.ref (L 15)] r0 X0 := by
  refine Met.ofK (cc := cX9_carryOut) (maxL := 2) (ret := (some .int)) (lv := [(0, .ref (L 15))]) (by decide +kernel) rfl (Nat.le_of_ble_eq_true rfl) rfl ?_
  intro p e s m below meth c F hO ls hl
  obtain ⟨hx, hb, hr, hts, hown, hlocks, hml, hK, hN⟩ := id F
  have hA : ∀ q, fr L q → fr L q := fun q h => h
  unfold fX9_carryOut at hf
  refine lv_aload_n hx hb dX9_carryOut_0 rfl (lv_at hl 0 rfl) ?_
  refine lv_iconst (v := 0) hx hb dX9_carryOut_1 (by decide) ?_
  refine k_put (ty := .int) (k := 0) (r := 22) (k' := 0) hx hb tyX9 tyX9_ok nmX9 hts in_X9_carryOut_X9 hown hK  hL hA hO (by decide) rfl (by omega) (fun Y => rfl) (by simp [xup]) rfl (by decide) lk_X9_carryOut_f41 rfl (by decide +kernel) rfl rfl (Nat.le_of_ble_eq_true rfl) dX9_carryOut_2 (fun H_10 locs_10 hO_10 => ?_)
  replace hf := zl_some hf
  obtain ⟨X_9, hX_9, hf⟩ := hf
  have hQ_10 := zo_eq hX_9 hO_10
  clear hO_10 hO
  refine lv_aload_n hx hb dX9_carryOut_5 rfl (lv_at hl 0 rfl) ?_
  replace hf := zi_some hf
  obtain ⟨r_12, X_11, hc_11, hf⟩ := hf
  refine k_ai (va_runV (As := []) (rest := []) ⟨hx, hb, hml, hown, hts⟩ (mX9_reads l D L ac hL _  _ _ hc_11) (cwV 0 hts gX9_carryOut_X9_reads rfl rfl rfl (by decide +kernel) ⟨Nat.le_of_ble_eq_true rfl, Nat.le_of_ble_eq_true rfl⟩) (k_pv (j := 15) hK hN hQ_10 (by decide) rfl rfl _) rfl rfl hl.1 rfl (lv_room (Nat.le_of_ble_eq_true rfl)) dX9_carryOut_6 ⟨Nat.le_of_ble_eq_true rfl, Nat.le_of_ble_eq_true rfl⟩) hA hQ_10 (fun H_13 locs_13 hO_13 => ?_)
  clear hQ_10
  refine lv_bipush (v := (-6)) hx hb dX9_carryOut_9 (by decide) ?_
  refine lv_icmp_eq (tgt := 17) hx hb dX9_carryOut_11 (by decide) (fun c_14 => ?_) (fun c_14 => ?_)
  · rw [if_pos c_14] at hf
    subst c_14
    refine lv_aload_n hx hb dX9_carryOut_17 rfl (lv_at hl 0 rfl) ?_
    replace hf := zv_some hf
    obtain ⟨X_15, hc_15, hf⟩ := hf
    refine k_av (va_runV (As := []) (rest := []) ⟨hx, hb, hml, hown, hts⟩ (mX9_records l D L ac hL _  _ hc_15) (cwV 0 hts gX9_carryOut_X9_records rfl rfl rfl (by decide +kernel) ⟨Nat.le_of_ble_eq_true rfl, Nat.le_of_ble_eq_true rfl⟩) (k_pv (j := 15) hK hN hO_13 (by decide) rfl rfl _) rfl rfl hl.1 rfl (lv_room (Nat.le_of_ble_eq_true rfl)) dX9_carryOut_18 ⟨Nat.le_of_ble_eq_true rfl, Nat.le_of_ble_eq_true rfl⟩) hA hO_13 (fun H_16 locs_16 hO_16 => ?_)
    clear hO_13
    refine lv_aload_n hx hb dX9_carryOut_21 rfl (lv_at hl 0 rfl) ?_
    refine lv_iconst (v := 0) hx hb dX9_carryOut_22 (by decide) ?_
    refine k_put (ty := .int) (k := 8) (r := 22) (k' := 2) hx hb tyX9 tyX9_ok nmX9 hts in_X9_carryOut_X9 hown hK  hL hA hO_16 (by decide) rfl (by omega) (fun Y => rfl) (by simp [xup]) rfl (by decide) lk_X9_carryOut_f176 rfl (by decide +kernel) rfl rfl (Nat.le_of_ble_eq_true rfl) dX9_carryOut_23 (fun H_18 locs_18 hO_18 => ?_)
    replace hf := zl_some hf
    obtain ⟨X_17, hX_17, hf⟩ := hf
    have hQ_18 := zo_eq hX_17 hO_18
    clear hO_18 hO_16
    refine lv_iconst (v := 0) hx hb dX9_carryOut_26 (by decide) ?_
    refine lv_istore_n (lv' := [(1, .int 0), (0, .ref (L 15))]) hx hb dX9_carryOut_27 rfl hl (by decide) rfl (fun ls_19 hl_19 => ?_)
    clear hl
    exact wX9_carryOut_28 hL F  fuel _ _  _ _ _ hQ_18 (lv_sub hl_19 [1, 0] rfl) hf
  · rw [if_neg c_14] at hf
    refine lv_bipush (v := (-3)) hx hb dX9_carryOut_14 (by decide) ?_
    obtain ⟨rfl, rfl⟩ := Prod.mk.inj (Option.some.inj hf)
    exact e_i hx hb hr hK hN hO_13 hlocks dX9_carryOut_16
theorem in_X9_undo_X9 : ∀ w ∈ u_ws RX9 TX9 16, w ∈ wsX9_undo := by decide +kernel
theorem lk_X9_undo_f16 : Cond.fieldLink RX9 16 "PoisonPilesModel" "undos" "[I" ∈ wsX9_undo := by decide +kernel
theorem lk_X9_undo_f41 : Cond.fieldLink RX9 41 "PoisonPilesModel" "thrown" "I" ∈ wsX9_undo := by decide +kernel
theorem lk_X9_undo_f49 : Cond.fieldLink RX9 49 "PoisonPilesModel" "undoMany" "I" ∈ wsX9_undo := by decide +kernel
theorem lk_X9_undo_f7 : Cond.fieldLink RX9 7 "PoisonPilesModel" "s" "[I" ∈ wsX9_undo := by decide +kernel
def fX9_undo_27   : Nat → Int32 → XM → Option (Int32 × XM)
  | 0, _, _ => none
  | n + 1, x1, X => if 27 ≤ x1 then some (X 22 1, X) else zd ((27 * (X 22 1)) + x1) 162 (zd x1 27 (zl (xup X 23 (Int32.toNatClampNeg x1) (X 25 (Int32.toNatClampNeg ((27 * (X 22 1)) + x1)))) (fun X_4 => fX9_undo_27 n (x1 + 1) X_4)))
set_option maxHeartbeats 4000000 in
set_option maxRecDepth 100000 in
theorem wX9_undo_27 {p : Program} {l : Launch} {e : Env} {s : State} {m : MethodId} {args : Array Value} {below : List Frame} {meth : Method} {c : Code} {D : va_G} {L : Nat → Nat} {ac : Nat → ClassId} {r0 : Int32} {X0 : XM} (hL : LL L) (F : Fx p s m args meth c cX9_undo 2 (some .int) wsX9_undo yX9_undo.cls D ac) : ∀ (n : Nat) (x1 : Int32) (X : XM) (H : Heap) (locs : List Loc) (ls : Array Slot), Oh D L ac X (fr L) s.heap H locs → lv_has ls 2 [(0, .ref (L 15)), (1, .int x1)] → fX9_undo_27 n x1 X = some (r0, X0) → W p l e (headSpec wsX9_undo ({ frames := 0, cells := 0, slots := 0, locals := 0 })).room s m args below meth c H locs 0 0 (MQ below (va_Qi (fun (r : Int32) (Y : XM) => r = r0 ∧ Y = X0) (fun (Y : XM) t => St D L ac Y t) (fr L)) args s 0 0 (fr L)) (F0 m 27 ls []) := by
  obtain ⟨hx, hb, hr, hts, hown, hlocks, hml, hK, hN⟩ := id F
  have hA : ∀ q, fr L q → fr L q := fun q h => h
  intro n
  induction n with
  | zero => intro x1 X H locs ls hO hl hf; simp [fX9_undo_27] at hf
  | succ n ih =>
    intro x1 X H locs ls hO hl hf
    rw [fX9_undo_27] at hf
    refine lv_iload_n hx hb dX9_undo_27 rfl (lv_at hl 1 rfl) ?_
    refine lv_bipush (v := 27) hx hb dX9_undo_28 (by decide) ?_
    refine lv_icmp_ge (tgt := 59) hx hb dX9_undo_30 (by decide) (fun c_1 => ?_) (fun c_1 => ?_)
    · rw [if_pos c_1] at hf
      refine lv_aload_n hx hb dX9_undo_59 rfl (lv_at hl 0 rfl) ?_
      refine k_get (k := 4) (v := .int (X 22 1)) hx hb hts in_X9_undo_X9 hown hK hO (by decide) rfl rfl (by decide) lk_X9_undo_f49 rfl dX9_undo_60 ?_
      obtain ⟨rfl, rfl⟩ := Prod.mk.inj (Option.some.inj hf)
      exact e_i hx hb hr hK hN hO hlocks dX9_undo_63
    · rw [if_neg c_1] at hf
      refine lv_aload_n hx hb dX9_undo_33 rfl (lv_at hl 0 rfl) ?_
      refine k_get (k := 1) (v := .ref (L 16)) hx hb hts in_X9_undo_X9 hown hK hO (by decide) rfl rfl (by decide) lk_X9_undo_f7 rfl dX9_undo_34 ?_
      refine lv_iload_n hx hb dX9_undo_37 rfl (lv_at hl 1 rfl) ?_
      refine lv_aload_n hx hb dX9_undo_38 rfl (lv_at hl 0 rfl) ?_
      refine k_get (k := 3) (v := .ref (L 18)) hx hb hts in_X9_undo_X9 hown hK hO (by decide) rfl rfl (by decide) lk_X9_undo_f16 rfl dX9_undo_39 ?_
      refine lv_bipush (v := 27) hx hb dX9_undo_42 (by decide) ?_
      refine lv_aload_n hx hb dX9_undo_44 rfl (lv_at hl 0 rfl) ?_
      refine k_get (k := 4) (v := .int (X 22 1)) hx hb hts in_X9_undo_X9 hown hK hO (by decide) rfl rfl (by decide) lk_X9_undo_f49 rfl dX9_undo_45 ?_
      refine lv_imul hx hb dX9_undo_48 ?_
      refine lv_iload_n hx hb dX9_undo_49 rfl (lv_at hl 1 rfl) ?_
      refine lv_iadd hx hb dX9_undo_50 ?_
      replace hf := zd_some hf
      obtain ⟨hi_2, hf⟩ := hf
      refine k_iald hx hb hK hO (by decide) (fun _ => rfl) hi_2 dX9_undo_51 ?_
      replace hf := zd_some hf
      obtain ⟨hi_3, hf⟩ := hf
      refine k_iast hx hb hK hL hA hO (by decide) (by decide) rfl (fun _ => rfl) hi_3 dX9_undo_52 (fun H_5 locs_5 hO_5 => ?_)
      replace hf := zl_some hf
      obtain ⟨X_4, hX_4, hf⟩ := hf
      have hQ_5 := zo_eq hX_4 hO_5
      clear hO_5 hO
      refine lv_iinc (v := x1 + 1) (lv' := [(1, .int (x1 + 1)), (0, .ref (L 15))]) hx hb dX9_undo_53 hl (k := 1) rfl rfl (by decide) rfl (fun ls_6 hl_6 => ?_)
      clear hl
      refine lv_goto (tgt := 27) hx hb dX9_undo_56 (by decide) ?_
      exact ih _ _  _ _ _ hQ_5 (lv_sub hl_6 [1, 0] rfl) hf
def fX9_undo   (X : XM) : Option (Int32 × XM) := zl (xup X 22 0 0) (fun X_7 => if (X_7 22 1) = 0 then some ((-5), X_7) else zl (xup X_7 22 1 ((X_7 22 1) - 1)) (fun X_10 => fX9_undo_27 fuel 0 X_10))
set_option maxHeartbeats 4000000 in
set_option maxRecDepth 100000 in
theorem mX9_undo (l : Launch) (D : va_G) (L : Nat → Nat) (ac : Nat → ClassId) (hL : LL L) (X : XM)  (r0 : Int32) (X0 : XM) (hf : fX9_undo  X = some (r0, X0)) : Ci l yX9_undo wsX9_undo ({ frames := 0, cells := 0, slots := 0, locals := 0 }) D L ac X [.ref (L 15)] r0 X0 := by
  refine Met.ofK (cc := cX9_undo) (maxL := 2) (ret := (some .int)) (lv := [(0, .ref (L 15))]) (by decide +kernel) rfl (Nat.le_of_ble_eq_true rfl) rfl ?_
  intro p e s m below meth c F hO ls hl
  obtain ⟨hx, hb, hr, hts, hown, hlocks, hml, hK, hN⟩ := id F
  have hA : ∀ q, fr L q → fr L q := fun q h => h
  unfold fX9_undo at hf
  refine lv_aload_n hx hb dX9_undo_0 rfl (lv_at hl 0 rfl) ?_
  refine lv_iconst (v := 0) hx hb dX9_undo_1 (by decide) ?_
  refine k_put (ty := .int) (k := 0) (r := 22) (k' := 0) hx hb tyX9 tyX9_ok nmX9 hts in_X9_undo_X9 hown hK  hL hA hO (by decide) rfl (by omega) (fun Y => rfl) (by simp [xup]) rfl (by decide) lk_X9_undo_f41 rfl (by decide +kernel) rfl rfl (Nat.le_of_ble_eq_true rfl) dX9_undo_2 (fun H_8 locs_8 hO_8 => ?_)
  replace hf := zl_some hf
  obtain ⟨X_7, hX_7, hf⟩ := hf
  have hQ_8 := zo_eq hX_7 hO_8
  clear hO_8 hO
  refine lv_aload_n hx hb dX9_undo_5 rfl (lv_at hl 0 rfl) ?_
  refine k_get (k := 4) (v := .int (X_7 22 1)) hx hb hts in_X9_undo_X9 hown hK hQ_8 (by decide) rfl rfl (by decide) lk_X9_undo_f49 rfl dX9_undo_6 ?_
  refine lv_if_ne (tgt := 15) hx hb dX9_undo_9 (by decide) (fun c_9 => ?_) (fun c_9 => ?_)
  · rw [if_neg c_9] at hf
    refine lv_aload_n hx hb dX9_undo_15 rfl (lv_at hl 0 rfl) ?_
    refine lv_dup hx hb dX9_undo_16 rfl ?_
    refine k_get (k := 4) (v := .int (X_7 22 1)) hx hb hts in_X9_undo_X9 hown hK hQ_8 (by decide) rfl rfl (by decide) lk_X9_undo_f49 rfl dX9_undo_17 ?_
    refine lv_iconst (v := 1) hx hb dX9_undo_20 (by decide) ?_
    refine lv_isub hx hb dX9_undo_21 ?_
    refine k_put (ty := .int) (k := 4) (r := 22) (k' := 1) hx hb tyX9 tyX9_ok nmX9 hts in_X9_undo_X9 hown hK  hL hA hQ_8 (by decide) rfl (by omega) (fun Y => rfl) (by simp [xup]) rfl (by decide) lk_X9_undo_f49 rfl (by decide +kernel) rfl rfl (Nat.le_of_ble_eq_true rfl) dX9_undo_22 (fun H_11 locs_11 hO_11 => ?_)
    replace hf := zl_some hf
    obtain ⟨X_10, hX_10, hf⟩ := hf
    have hQ_11 := zo_eq hX_10 hO_11
    clear hO_11 hQ_8
    refine lv_iconst (v := 0) hx hb dX9_undo_25 (by decide) ?_
    refine lv_istore_n (lv' := [(1, .int 0), (0, .ref (L 15))]) hx hb dX9_undo_26 rfl hl (by decide) rfl (fun ls_12 hl_12 => ?_)
    clear hl
    exact wX9_undo_27 hL F  fuel _ _  _ _ _ hQ_11 (lv_sub hl_12 [1, 0] rfl) hf
  · rw [if_pos c_9] at hf
    refine lv_bipush (v := (-5)) hx hb dX9_undo_12 (by decide) ?_
    obtain ⟨rfl, rfl⟩ := Prod.mk.inj (Option.some.inj hf)
    exact e_i hx hb hr hK hN hQ_8 hlocks dX9_undo_14
theorem in_X9_save_X9 : ∀ w ∈ u_ws RX9 TX9 16, w ∈ wsX9_save := by decide +kernel
theorem lk_X9_save_f19 : Cond.fieldLink RX9 19 "PoisonPilesModel" "slots" "[I" ∈ wsX9_save := by decide +kernel
theorem lk_X9_save_f22 : Cond.fieldLink RX9 22 "PoisonPilesModel" "hasSlot" "[Z" ∈ wsX9_save := by decide +kernel
theorem lk_X9_save_f41 : Cond.fieldLink RX9 41 "PoisonPilesModel" "thrown" "I" ∈ wsX9_save := by decide +kernel
theorem lk_X9_save_f7 : Cond.fieldLink RX9 7 "PoisonPilesModel" "s" "[I" ∈ wsX9_save := by decide +kernel
def fX9_save_19   : Nat → Int32 → Int32 → XM → Option (Int32 × XM)
  | 0, _, _, _ => none
  | n + 1, x1, x2, X => if 27 ≤ x2 then zd x1 2 (zl (xup X 27 (Int32.toNatClampNeg x1) (1 &&& 1)) (fun X_3 => zi (fX9_tokens X_3) (fun r_6 X_5 => some (r_6, X_5)))) else zd x2 27 (zd ((27 * x1) + x2) 54 (zl (xup X 26 (Int32.toNatClampNeg ((27 * x1) + x2)) (X 23 (Int32.toNatClampNeg x2))) (fun X_10 => fX9_save_19 n x1 (x2 + 1) X_10)))
set_option maxHeartbeats 4000000 in
set_option maxRecDepth 100000 in
theorem wX9_save_19 {p : Program} {l : Launch} {e : Env} {s : State} {m : MethodId} {args : Array Value} {below : List Frame} {meth : Method} {c : Code} {D : va_G} {L : Nat → Nat} {ac : Nat → ClassId} {r0 : Int32} {X0 : XM} (hL : LL L) (F : Fx p s m args meth c cX9_save 3 (some .int) wsX9_save yX9_save.cls D ac) : ∀ (n : Nat) (x1 : Int32) (x2 : Int32) (X : XM) (H : Heap) (locs : List Loc) (ls : Array Slot), Oh D L ac X (fr L) s.heap H locs → lv_has ls 3 [(0, .ref (L 15)), (1, .int x1), (2, .int x2)] → fX9_save_19 n x1 x2 X = some (r0, X0) → W p l e (headSpec wsX9_save ({ frames := 2, cells := 0, slots := 0, locals := 44 })).room s m args below meth c H locs 0 0 (MQ below (va_Qi (fun (r : Int32) (Y : XM) => r = r0 ∧ Y = X0) (fun (Y : XM) t => St D L ac Y t) (fr L)) args s 0 0 (fr L)) (F0 m 19 ls []) := by
  obtain ⟨hx, hb, hr, hts, hown, hlocks, hml, hK, hN⟩ := id F
  have hA : ∀ q, fr L q → fr L q := fun q h => h
  intro n
  induction n with
  | zero => intro x1 x2 X H locs ls hO hl hf; simp [fX9_save_19] at hf
  | succ n ih =>
    intro x1 x2 X H locs ls hO hl hf
    rw [fX9_save_19] at hf
    refine lv_iload_n hx hb dX9_save_19 rfl (lv_at hl 2 rfl) ?_
    refine lv_bipush (v := 27) hx hb dX9_save_20 (by decide) ?_
    refine lv_icmp_ge (tgt := 48) hx hb dX9_save_22 (by decide) (fun c_1 => ?_) (fun c_1 => ?_)
    · rw [if_pos c_1] at hf
      refine lv_aload_n hx hb dX9_save_48 rfl (lv_at hl 0 rfl) ?_
      refine k_get (k := 6) (v := .ref (L 20)) hx hb hts in_X9_save_X9 hown hK hO (by decide) rfl rfl (by decide) lk_X9_save_f22 rfl dX9_save_49 ?_
      refine lv_iload_n hx hb dX9_save_52 rfl (lv_at hl 1 rfl) ?_
      refine lv_iconst (v := 1) hx hb dX9_save_53 (by decide) ?_
      replace hf := zd_some hf
      obtain ⟨hi_2, hf⟩ := hf
      refine k_zast hx hb hK hL hA hO (by decide) (by decide) rfl (fun _ => rfl) hi_2 dX9_save_54 (fun H_4 locs_4 hO_4 => ?_)
      replace hf := zl_some hf
      obtain ⟨X_3, hX_3, hf⟩ := hf
      have hQ_4 := zo_eq hX_3 hO_4
      clear hO_4 hO
      refine lv_aload_n hx hb dX9_save_55 rfl (lv_at hl 0 rfl) ?_
      replace hf := zi_some hf
      obtain ⟨r_6, X_5, hc_5, hf⟩ := hf
      refine k_ai (va_runV (As := []) (rest := []) ⟨hx, hb, hml, hown, hts⟩ (mX9_tokens l D L ac hL _  _ _ hc_5) (cwV 0 hts gX9_save_X9_tokens rfl rfl rfl (by decide +kernel) ⟨Nat.le_of_ble_eq_true rfl, Nat.le_of_ble_eq_true rfl⟩) (k_pv (j := 15) hK hN hQ_4 (by decide) rfl rfl _) rfl rfl hl.1 rfl (lv_room (Nat.le_of_ble_eq_true rfl)) dX9_save_56 ⟨Nat.le_of_ble_eq_true rfl, Nat.le_of_ble_eq_true rfl⟩) hA hQ_4 (fun H_7 locs_7 hO_7 => ?_)
      clear hQ_4
      obtain ⟨rfl, rfl⟩ := Prod.mk.inj (Option.some.inj hf)
      exact e_i hx hb hr hK hN hO_7 hlocks dX9_save_59
    · rw [if_neg c_1] at hf
      refine lv_aload_n hx hb dX9_save_25 rfl (lv_at hl 0 rfl) ?_
      refine k_get (k := 5) (v := .ref (L 19)) hx hb hts in_X9_save_X9 hown hK hO (by decide) rfl rfl (by decide) lk_X9_save_f19 rfl dX9_save_26 ?_
      refine lv_bipush (v := 27) hx hb dX9_save_29 (by decide) ?_
      refine lv_iload_n hx hb dX9_save_31 rfl (lv_at hl 1 rfl) ?_
      refine lv_imul hx hb dX9_save_32 ?_
      refine lv_iload_n hx hb dX9_save_33 rfl (lv_at hl 2 rfl) ?_
      refine lv_iadd hx hb dX9_save_34 ?_
      refine lv_aload_n hx hb dX9_save_35 rfl (lv_at hl 0 rfl) ?_
      refine k_get (k := 1) (v := .ref (L 16)) hx hb hts in_X9_save_X9 hown hK hO (by decide) rfl rfl (by decide) lk_X9_save_f7 rfl dX9_save_36 ?_
      refine lv_iload_n hx hb dX9_save_39 rfl (lv_at hl 2 rfl) ?_
      replace hf := zd_some hf
      obtain ⟨hi_8, hf⟩ := hf
      refine k_iald hx hb hK hO (by decide) (fun _ => rfl) hi_8 dX9_save_40 ?_
      replace hf := zd_some hf
      obtain ⟨hi_9, hf⟩ := hf
      refine k_iast hx hb hK hL hA hO (by decide) (by decide) rfl (fun _ => rfl) hi_9 dX9_save_41 (fun H_11 locs_11 hO_11 => ?_)
      replace hf := zl_some hf
      obtain ⟨X_10, hX_10, hf⟩ := hf
      have hQ_11 := zo_eq hX_10 hO_11
      clear hO_11 hO
      refine lv_iinc (v := x2 + 1) (lv' := [(2, .int (x2 + 1)), (0, .ref (L 15)), (1, .int x1)]) hx hb dX9_save_42 hl (k := 2) rfl rfl (by decide) rfl (fun ls_12 hl_12 => ?_)
      clear hl
      refine lv_goto (tgt := 19) hx hb dX9_save_45 (by decide) ?_
      exact ih _ _ _  _ _ _ hQ_11 (lv_sub hl_12 [1, 2, 0] rfl) hf
def fX9_save  (a1 : Int32) (X : XM) : Option (Int32 × XM) := zl (xup X 22 0 0) (fun X_13 => zi (fX9_in a1 0 1 X_13) (fun r_16 X_15 => if r_16 = 0 then some ((-2), X_15) else fX9_save_19 fuel a1 0 X_15))
set_option maxHeartbeats 4000000 in
set_option maxRecDepth 100000 in
theorem mX9_save (l : Launch) (D : va_G) (L : Nat → Nat) (ac : Nat → ClassId) (hL : LL L) (X : XM) (a1 : Int32) (r0 : Int32) (X0 : XM) (hf : fX9_save a1 X = some (r0, X0)) : Ci l yX9_save wsX9_save ({ frames := 2, cells := 0, slots := 0, locals := 44 }) D L ac X [.ref (L 15), .int a1] r0 X0 := by
  refine Met.ofK (cc := cX9_save) (maxL := 3) (ret := (some .int)) (lv := [(0, .ref (L 15)), (1, .int a1)]) (by decide +kernel) rfl (Nat.le_of_ble_eq_true rfl) rfl ?_
  intro p e s m below meth c F hO ls hl
  obtain ⟨hx, hb, hr, hts, hown, hlocks, hml, hK, hN⟩ := id F
  have hA : ∀ q, fr L q → fr L q := fun q h => h
  unfold fX9_save at hf
  refine lv_aload_n hx hb dX9_save_0 rfl (lv_at hl 0 rfl) ?_
  refine lv_iconst (v := 0) hx hb dX9_save_1 (by decide) ?_
  refine k_put (ty := .int) (k := 0) (r := 22) (k' := 0) hx hb tyX9 tyX9_ok nmX9 hts in_X9_save_X9 hown hK  hL hA hO (by decide) rfl (by omega) (fun Y => rfl) (by simp [xup]) rfl (by decide) lk_X9_save_f41 rfl (by decide +kernel) rfl rfl (Nat.le_of_ble_eq_true rfl) dX9_save_2 (fun H_14 locs_14 hO_14 => ?_)
  replace hf := zl_some hf
  obtain ⟨X_13, hX_13, hf⟩ := hf
  have hQ_14 := zo_eq hX_13 hO_14
  clear hO_14 hO
  refine lv_iload_n hx hb dX9_save_5 rfl (lv_at hl 1 rfl) ?_
  refine lv_iconst (v := 0) hx hb dX9_save_6 (by decide) ?_
  refine lv_iconst (v := 1) hx hb dX9_save_7 (by decide) ?_
  replace hf := zi_some hf
  obtain ⟨r_16, X_15, hc_15, hf⟩ := hf
  refine k_ai (va_runS (As := [.int a1, .int 0, .int 1]) (rest := []) ⟨hx, hb, hml, hown, hts⟩ (mX9_in l D L ac hL _ a1 0 1 _ _ hc_15) (va_cwS 3 hts gX9_save_X9_in rfl rfl rfl (by decide +kernel) ⟨Nat.le_of_ble_eq_true rfl, Nat.le_of_ble_eq_true rfl⟩) (k_ps hK hN hQ_14 _) rfl rfl hl.1 rfl (lv_room (Nat.le_of_ble_eq_true rfl)) dX9_save_8 ⟨Nat.le_of_ble_eq_true rfl, Nat.le_of_ble_eq_true rfl⟩) hA hQ_14 (fun H_17 locs_17 hO_17 => ?_)
  clear hQ_14
  refine lv_if_ne (tgt := 17) hx hb dX9_save_11 (by decide) (fun c_18 => ?_) (fun c_18 => ?_)
  · rw [if_neg c_18] at hf
    refine lv_iconst (v := 0) hx hb dX9_save_17 (by decide) ?_
    refine lv_istore_n (lv' := [(2, .int 0), (0, .ref (L 15)), (1, .int a1)]) hx hb dX9_save_18 rfl hl (by decide) rfl (fun ls_19 hl_19 => ?_)
    clear hl
    exact wX9_save_19 hL F  fuel _ _ _  _ _ _ hO_17 (lv_sub hl_19 [1, 2, 0] rfl) hf
  · rw [if_pos c_18] at hf
    subst c_18
    refine lv_bipush (v := (-2)) hx hb dX9_save_14 (by decide) ?_
    obtain ⟨rfl, rfl⟩ := Prod.mk.inj (Option.some.inj hf)
    exact e_i hx hb hr hK hN hO_17 hlocks dX9_save_16
theorem in_X9_restore_X9 : ∀ w ∈ u_ws RX9 TX9 16, w ∈ wsX9_restore := by decide +kernel
theorem lk_X9_restore_f19 : Cond.fieldLink RX9 19 "PoisonPilesModel" "slots" "[I" ∈ wsX9_restore := by decide +kernel
theorem lk_X9_restore_f22 : Cond.fieldLink RX9 22 "PoisonPilesModel" "hasSlot" "[Z" ∈ wsX9_restore := by decide +kernel
theorem lk_X9_restore_f41 : Cond.fieldLink RX9 41 "PoisonPilesModel" "thrown" "I" ∈ wsX9_restore := by decide +kernel
theorem lk_X9_restore_f7 : Cond.fieldLink RX9 7 "PoisonPilesModel" "s" "[I" ∈ wsX9_restore := by decide +kernel
def fX9_restore_35   : Nat → Int32 → Int32 → XM → Option (Int32 × XM)
  | 0, _, _, _ => none
  | n + 1, x1, x2, X => if 27 ≤ x2 then zi (fX9_tokens X) (fun r_3 X_2 => some (r_3, X_2)) else zd ((27 * x1) + x2) 54 (zd x2 27 (zl (xup X 23 (Int32.toNatClampNeg x2) (X 26 (Int32.toNatClampNeg ((27 * x1) + x2)))) (fun X_7 => fX9_restore_35 n x1 (x2 + 1) X_7)))
set_option maxHeartbeats 4000000 in
set_option maxRecDepth 100000 in
theorem wX9_restore_35 {p : Program} {l : Launch} {e : Env} {s : State} {m : MethodId} {args : Array Value} {below : List Frame} {meth : Method} {c : Code} {D : va_G} {L : Nat → Nat} {ac : Nat → ClassId} {r0 : Int32} {X0 : XM} (hL : LL L) (F : Fx p s m args meth c cX9_restore 3 (some .int) wsX9_restore yX9_restore.cls D ac) : ∀ (n : Nat) (x1 : Int32) (x2 : Int32) (X : XM) (H : Heap) (locs : List Loc) (ls : Array Slot), Oh D L ac X (fr L) s.heap H locs → lv_has ls 3 [(0, .ref (L 15)), (1, .int x1), (2, .int x2)] → fX9_restore_35 n x1 x2 X = some (r0, X0) → W p l e (headSpec wsX9_restore ({ frames := 2, cells := 0, slots := 0, locals := 44 })).room s m args below meth c H locs 0 0 (MQ below (va_Qi (fun (r : Int32) (Y : XM) => r = r0 ∧ Y = X0) (fun (Y : XM) t => St D L ac Y t) (fr L)) args s 0 0 (fr L)) (F0 m 35 ls []) := by
  obtain ⟨hx, hb, hr, hts, hown, hlocks, hml, hK, hN⟩ := id F
  have hA : ∀ q, fr L q → fr L q := fun q h => h
  intro n
  induction n with
  | zero => intro x1 x2 X H locs ls hO hl hf; simp [fX9_restore_35] at hf
  | succ n ih =>
    intro x1 x2 X H locs ls hO hl hf
    rw [fX9_restore_35] at hf
    refine lv_iload_n hx hb dX9_restore_35 rfl (lv_at hl 2 rfl) ?_
    refine lv_bipush (v := 27) hx hb dX9_restore_36 (by decide) ?_
    refine lv_icmp_ge (tgt := 64) hx hb dX9_restore_38 (by decide) (fun c_1 => ?_) (fun c_1 => ?_)
    · rw [if_pos c_1] at hf
      refine lv_aload_n hx hb dX9_restore_64 rfl (lv_at hl 0 rfl) ?_
      replace hf := zi_some hf
      obtain ⟨r_3, X_2, hc_2, hf⟩ := hf
      refine k_ai (va_runV (As := []) (rest := []) ⟨hx, hb, hml, hown, hts⟩ (mX9_tokens l D L ac hL _  _ _ hc_2) (cwV 0 hts gX9_restore_X9_tokens rfl rfl rfl (by decide +kernel) ⟨Nat.le_of_ble_eq_true rfl, Nat.le_of_ble_eq_true rfl⟩) (k_pv (j := 15) hK hN hO (by decide) rfl rfl _) rfl rfl hl.1 rfl (lv_room (Nat.le_of_ble_eq_true rfl)) dX9_restore_65 ⟨Nat.le_of_ble_eq_true rfl, Nat.le_of_ble_eq_true rfl⟩) hA hO (fun H_4 locs_4 hO_4 => ?_)
      clear hO
      obtain ⟨rfl, rfl⟩ := Prod.mk.inj (Option.some.inj hf)
      exact e_i hx hb hr hK hN hO_4 hlocks dX9_restore_68
    · rw [if_neg c_1] at hf
      refine lv_aload_n hx hb dX9_restore_41 rfl (lv_at hl 0 rfl) ?_
      refine k_get (k := 1) (v := .ref (L 16)) hx hb hts in_X9_restore_X9 hown hK hO (by decide) rfl rfl (by decide) lk_X9_restore_f7 rfl dX9_restore_42 ?_
      refine lv_iload_n hx hb dX9_restore_45 rfl (lv_at hl 2 rfl) ?_
      refine lv_aload_n hx hb dX9_restore_46 rfl (lv_at hl 0 rfl) ?_
      refine k_get (k := 5) (v := .ref (L 19)) hx hb hts in_X9_restore_X9 hown hK hO (by decide) rfl rfl (by decide) lk_X9_restore_f19 rfl dX9_restore_47 ?_
      refine lv_bipush (v := 27) hx hb dX9_restore_50 (by decide) ?_
      refine lv_iload_n hx hb dX9_restore_52 rfl (lv_at hl 1 rfl) ?_
      refine lv_imul hx hb dX9_restore_53 ?_
      refine lv_iload_n hx hb dX9_restore_54 rfl (lv_at hl 2 rfl) ?_
      refine lv_iadd hx hb dX9_restore_55 ?_
      replace hf := zd_some hf
      obtain ⟨hi_5, hf⟩ := hf
      refine k_iald hx hb hK hO (by decide) (fun _ => rfl) hi_5 dX9_restore_56 ?_
      replace hf := zd_some hf
      obtain ⟨hi_6, hf⟩ := hf
      refine k_iast hx hb hK hL hA hO (by decide) (by decide) rfl (fun _ => rfl) hi_6 dX9_restore_57 (fun H_8 locs_8 hO_8 => ?_)
      replace hf := zl_some hf
      obtain ⟨X_7, hX_7, hf⟩ := hf
      have hQ_8 := zo_eq hX_7 hO_8
      clear hO_8 hO
      refine lv_iinc (v := x2 + 1) (lv' := [(2, .int (x2 + 1)), (0, .ref (L 15)), (1, .int x1)]) hx hb dX9_restore_58 hl (k := 2) rfl rfl (by decide) rfl (fun ls_9 hl_9 => ?_)
      clear hl
      refine lv_goto (tgt := 35) hx hb dX9_restore_61 (by decide) ?_
      exact ih _ _ _  _ _ _ hQ_8 (lv_sub hl_9 [1, 2, 0] rfl) hf
def fX9_restore  (a1 : Int32) (X : XM) : Option (Int32 × XM) := zl (xup X 22 0 0) (fun X_10 => zi (fX9_in a1 0 1 X_10) (fun r_13 X_12 => if r_13 = 0 then some ((-2), X_12) else zd a1 2 (if (X_12 27 (Int32.toNatClampNeg a1)) = 0 then some ((-5), X_12) else zv (fX9_records X_12) (fun X_18 => fX9_restore_35 fuel a1 0 X_18))))
set_option maxHeartbeats 4000000 in
set_option maxRecDepth 100000 in
theorem mX9_restore (l : Launch) (D : va_G) (L : Nat → Nat) (ac : Nat → ClassId) (hL : LL L) (X : XM) (a1 : Int32) (r0 : Int32) (X0 : XM) (hf : fX9_restore a1 X = some (r0, X0)) : Ci l yX9_restore wsX9_restore ({ frames := 2, cells := 0, slots := 0, locals := 44 }) D L ac X [.ref (L 15), .int a1] r0 X0 := by
  refine Met.ofK (cc := cX9_restore) (maxL := 3) (ret := (some .int)) (lv := [(0, .ref (L 15)), (1, .int a1)]) (by decide +kernel) rfl (Nat.le_of_ble_eq_true rfl) rfl ?_
  intro p e s m below meth c F hO ls hl
  obtain ⟨hx, hb, hr, hts, hown, hlocks, hml, hK, hN⟩ := id F
  have hA : ∀ q, fr L q → fr L q := fun q h => h
  unfold fX9_restore at hf
  refine lv_aload_n hx hb dX9_restore_0 rfl (lv_at hl 0 rfl) ?_
  refine lv_iconst (v := 0) hx hb dX9_restore_1 (by decide) ?_
  refine k_put (ty := .int) (k := 0) (r := 22) (k' := 0) hx hb tyX9 tyX9_ok nmX9 hts in_X9_restore_X9 hown hK  hL hA hO (by decide) rfl (by omega) (fun Y => rfl) (by simp [xup]) rfl (by decide) lk_X9_restore_f41 rfl (by decide +kernel) rfl rfl (Nat.le_of_ble_eq_true rfl) dX9_restore_2 (fun H_11 locs_11 hO_11 => ?_)
  replace hf := zl_some hf
  obtain ⟨X_10, hX_10, hf⟩ := hf
  have hQ_11 := zo_eq hX_10 hO_11
  clear hO_11 hO
  refine lv_iload_n hx hb dX9_restore_5 rfl (lv_at hl 1 rfl) ?_
  refine lv_iconst (v := 0) hx hb dX9_restore_6 (by decide) ?_
  refine lv_iconst (v := 1) hx hb dX9_restore_7 (by decide) ?_
  replace hf := zi_some hf
  obtain ⟨r_13, X_12, hc_12, hf⟩ := hf
  refine k_ai (va_runS (As := [.int a1, .int 0, .int 1]) (rest := []) ⟨hx, hb, hml, hown, hts⟩ (mX9_in l D L ac hL _ a1 0 1 _ _ hc_12) (va_cwS 3 hts gX9_restore_X9_in rfl rfl rfl (by decide +kernel) ⟨Nat.le_of_ble_eq_true rfl, Nat.le_of_ble_eq_true rfl⟩) (k_ps hK hN hQ_11 _) rfl rfl hl.1 rfl (lv_room (Nat.le_of_ble_eq_true rfl)) dX9_restore_8 ⟨Nat.le_of_ble_eq_true rfl, Nat.le_of_ble_eq_true rfl⟩) hA hQ_11 (fun H_14 locs_14 hO_14 => ?_)
  clear hQ_11
  refine lv_if_ne (tgt := 17) hx hb dX9_restore_11 (by decide) (fun c_15 => ?_) (fun c_15 => ?_)
  · rw [if_neg c_15] at hf
    refine lv_aload_n hx hb dX9_restore_17 rfl (lv_at hl 0 rfl) ?_
    refine k_get (k := 6) (v := .ref (L 20)) hx hb hts in_X9_restore_X9 hown hK hO_14 (by decide) rfl rfl (by decide) lk_X9_restore_f22 rfl dX9_restore_18 ?_
    refine lv_iload_n hx hb dX9_restore_21 rfl (lv_at hl 1 rfl) ?_
    replace hf := zd_some hf
    obtain ⟨hi_16, hf⟩ := hf
    refine k_zald hx hb hK hO_14 (by decide) (fun _ => rfl) hi_16 dX9_restore_22 ?_
    refine lv_if_ne (tgt := 29) hx hb dX9_restore_23 (by decide) (fun c_17 => ?_) (fun c_17 => ?_)
    · rw [if_neg c_17] at hf
      refine lv_aload_n hx hb dX9_restore_29 rfl (lv_at hl 0 rfl) ?_
      replace hf := zv_some hf
      obtain ⟨X_18, hc_18, hf⟩ := hf
      refine k_av (va_runV (As := []) (rest := []) ⟨hx, hb, hml, hown, hts⟩ (mX9_records l D L ac hL _  _ hc_18) (cwV 0 hts gX9_restore_X9_records rfl rfl rfl (by decide +kernel) ⟨Nat.le_of_ble_eq_true rfl, Nat.le_of_ble_eq_true rfl⟩) (k_pv (j := 15) hK hN hO_14 (by decide) rfl rfl _) rfl rfl hl.1 rfl (lv_room (Nat.le_of_ble_eq_true rfl)) dX9_restore_30 ⟨Nat.le_of_ble_eq_true rfl, Nat.le_of_ble_eq_true rfl⟩) hA hO_14 (fun H_19 locs_19 hO_19 => ?_)
      clear hO_14
      refine lv_iconst (v := 0) hx hb dX9_restore_33 (by decide) ?_
      refine lv_istore_n (lv' := [(2, .int 0), (0, .ref (L 15)), (1, .int a1)]) hx hb dX9_restore_34 rfl hl (by decide) rfl (fun ls_20 hl_20 => ?_)
      clear hl
      exact wX9_restore_35 hL F  fuel _ _ _  _ _ _ hO_19 (lv_sub hl_20 [1, 2, 0] rfl) hf
    · rw [if_pos c_17] at hf
      refine lv_bipush (v := (-5)) hx hb dX9_restore_26 (by decide) ?_
      obtain ⟨rfl, rfl⟩ := Prod.mk.inj (Option.some.inj hf)
      exact e_i hx hb hr hK hN hO_14 hlocks dX9_restore_28
  · rw [if_pos c_15] at hf
    subst c_15
    refine lv_bipush (v := (-2)) hx hb dX9_restore_14 (by decide) ?_
    obtain ⟨rfl, rfl⟩ := Prod.mk.inj (Option.some.inj hf)
    exact e_i hx hb hr hK hN hO_14 hlocks dX9_restore_16
