def fX9_in  (a1 : Int32) (a2 : Int32) (a3 : Int32) (X : XM) : Option (Int32 × XM) := if a1 < a2 then some (0, X) else if a3 < a1 then some (0, X) else some (1, X)
set_option maxHeartbeats 4000000 in
set_option maxRecDepth 100000 in
theorem mX9_in (l : Launch) (D : va_G) (L : Nat → Nat) (ac : Nat → ClassId) (hL : LL L) (X : XM) (a1 : Int32) (a2 : Int32) (a3 : Int32) (r0 : Int32) (X0 : XM) (hf : fX9_in a1 a2 a3 X = some (r0, X0)) : Ci l yX9_in wsX9_in ({ frames := 0, cells := 0, slots := 0, locals := 0 }) D L ac X [.int a1, .int a2, .int a3] r0 X0 := by
  refine Met.ofK (cc := cX9_in) (maxL := 3) (ret := (some .boolean)) (lv := [(0, .int a1), (1, .int a2), (2, .int a3)]) (by decide +kernel) rfl (Nat.le_of_ble_eq_true rfl) rfl ?_
  intro p e s m below meth c F hO ls hl
  obtain ⟨hx, hb, hr, hts, hown, hlocks, hml, hK, hN⟩ := id F
  have hA : ∀ q, fr L q → fr L q := fun q h => h
  unfold fX9_in at hf
  refine lv_iload_n hx hb dX9_in_0 rfl (lv_at hl 0 rfl) ?_
  refine lv_iload_n hx hb dX9_in_1 rfl (lv_at hl 1 rfl) ?_
  refine lv_icmp_lt (tgt := 14) hx hb dX9_in_2 (by decide) (fun c_1 => ?_) (fun c_1 => ?_)
  · rw [if_pos c_1] at hf
    refine lv_iconst (v := 0) hx hb dX9_in_14 (by decide) ?_
    obtain ⟨rfl, rfl⟩ := Prod.mk.inj (Option.some.inj hf)
    exact e_n hx hb hr (bo_n (by decide)) hK hN hO hlocks dX9_in_15
  · rw [if_neg c_1] at hf
    refine lv_iload_n hx hb dX9_in_5 rfl (lv_at hl 0 rfl) ?_
    refine lv_iload_n hx hb dX9_in_6 rfl (lv_at hl 2 rfl) ?_
    refine lv_icmp_gt (tgt := 14) hx hb dX9_in_7 (by decide) (fun c_2 => ?_) (fun c_2 => ?_)
    · rw [if_pos c_2] at hf
      refine lv_iconst (v := 0) hx hb dX9_in_14 (by decide) ?_
      obtain ⟨rfl, rfl⟩ := Prod.mk.inj (Option.some.inj hf)
      exact e_n hx hb hr (bo_n (by decide)) hK hN hO hlocks dX9_in_15
    · rw [if_neg c_2] at hf
      refine lv_iconst (v := 1) hx hb dX9_in_10 (by decide) ?_
      refine lv_goto (tgt := 15) hx hb dX9_in_11 (by decide) ?_
      obtain ⟨rfl, rfl⟩ := Prod.mk.inj (Option.some.inj hf)
      exact e_n hx hb hr (bo_n (by decide)) hK hN hO hlocks dX9_in_15
theorem in_X9_of_X9 : ∀ w ∈ u_ws RX9 TX9 16, w ∈ wsX9_of := by decide +kernel
theorem lk_X9_of_f7 : Cond.fieldLink RX9 7 "PoisonPilesModel" "s" "[I" ∈ wsX9_of := by decide +kernel
def fX9_of  (a1 : Int32) (a2 : Int32) (X : XM) : Option (Int32 × XM) := zd ((11 + (4 * a1)) + a2) 27 (some (X 23 (Int32.toNatClampNeg ((11 + (4 * a1)) + a2)), X))
set_option maxHeartbeats 4000000 in
set_option maxRecDepth 100000 in
theorem mX9_of (l : Launch) (D : va_G) (L : Nat → Nat) (ac : Nat → ClassId) (hL : LL L) (X : XM) (a1 : Int32) (a2 : Int32) (r0 : Int32) (X0 : XM) (hf : fX9_of a1 a2 X = some (r0, X0)) : Ci l yX9_of wsX9_of ({ frames := 0, cells := 0, slots := 0, locals := 0 }) D L ac X [.ref (L 15), .int a1, .int a2] r0 X0 := by
  refine Met.ofK (cc := cX9_of) (maxL := 3) (ret := (some .int)) (lv := [(0, .ref (L 15)), (1, .int a1), (2, .int a2)]) (by decide +kernel) rfl (Nat.le_of_ble_eq_true rfl) rfl ?_
  intro p e s m below meth c F hO ls hl
  obtain ⟨hx, hb, hr, hts, hown, hlocks, hml, hK, hN⟩ := id F
  have hA : ∀ q, fr L q → fr L q := fun q h => h
  unfold fX9_of at hf
  refine lv_aload_n hx hb dX9_of_0 rfl (lv_at hl 0 rfl) ?_
  refine k_get (k := 1) (v := .ref (L 16)) hx hb hts in_X9_of_X9 hown hK hO (by decide) rfl rfl (by decide) lk_X9_of_f7 rfl dX9_of_1 ?_
  refine lv_bipush (v := 11) hx hb dX9_of_4 (by decide) ?_
  refine lv_iconst (v := 4) hx hb dX9_of_6 (by decide) ?_
  refine lv_iload_n hx hb dX9_of_7 rfl (lv_at hl 1 rfl) ?_
  refine lv_imul hx hb dX9_of_8 ?_
  refine lv_iadd hx hb dX9_of_9 ?_
  refine lv_iload_n hx hb dX9_of_10 rfl (lv_at hl 2 rfl) ?_
  refine lv_iadd hx hb dX9_of_11 ?_
  replace hf := zd_some hf
  obtain ⟨hi_1, hf⟩ := hf
  refine k_iald hx hb hK hO (by decide) (fun _ => rfl) hi_1 dX9_of_12 ?_
  obtain ⟨rfl, rfl⟩ := Prod.mk.inj (Option.some.inj hf)
  exact e_i hx hb hr hK hN hO hlocks dX9_of_13
theorem in_X9_lay_X9 : ∀ w ∈ u_ws RX9 TX9 16, w ∈ wsX9_lay := by decide +kernel
theorem lk_X9_lay_f7 : Cond.fieldLink RX9 7 "PoisonPilesModel" "s" "[I" ∈ wsX9_lay := by decide +kernel
def fX9_lay  (a1 : Int32) (a2 : Int32) (a3 : Int32) (X : XM) : Option XM := zd ((11 + (4 * a1)) + a2) 27 (zl (xup X 23 (Int32.toNatClampNeg ((11 + (4 * a1)) + a2)) a3) (fun X_2 => some X_2))
set_option maxHeartbeats 4000000 in
set_option maxRecDepth 100000 in
theorem mX9_lay (l : Launch) (D : va_G) (L : Nat → Nat) (ac : Nat → ClassId) (hL : LL L) (X : XM) (a1 : Int32) (a2 : Int32) (a3 : Int32) (X0 : XM) (hf : fX9_lay a1 a2 a3 X = some X0) : Cv l yX9_lay wsX9_lay ({ frames := 0, cells := 0, slots := 0, locals := 0 }) D L ac X [.ref (L 15), .int a1, .int a2, .int a3] X0 := by
  refine Met.ofK (cc := cX9_lay) (maxL := 4) (ret := none) (lv := [(0, .ref (L 15)), (1, .int a1), (2, .int a2), (3, .int a3)]) (by decide +kernel) rfl (Nat.le_of_ble_eq_true rfl) rfl ?_
  intro p e s m below meth c F hO ls hl
  obtain ⟨hx, hb, hr, hts, hown, hlocks, hml, hK, hN⟩ := id F
  have hA : ∀ q, fr L q → fr L q := fun q h => h
  unfold fX9_lay at hf
  refine lv_aload_n hx hb dX9_lay_0 rfl (lv_at hl 0 rfl) ?_
  refine k_get (k := 1) (v := .ref (L 16)) hx hb hts in_X9_lay_X9 hown hK hO (by decide) rfl rfl (by decide) lk_X9_lay_f7 rfl dX9_lay_1 ?_
  refine lv_bipush (v := 11) hx hb dX9_lay_4 (by decide) ?_
  refine lv_iconst (v := 4) hx hb dX9_lay_6 (by decide) ?_
  refine lv_iload_n hx hb dX9_lay_7 rfl (lv_at hl 1 rfl) ?_
  refine lv_imul hx hb dX9_lay_8 ?_
  refine lv_iadd hx hb dX9_lay_9 ?_
  refine lv_iload_n hx hb dX9_lay_10 rfl (lv_at hl 2 rfl) ?_
  refine lv_iadd hx hb dX9_lay_11 ?_
  refine lv_iload_n hx hb dX9_lay_12 rfl (lv_at hl 3 rfl) ?_
  replace hf := zd_some hf
  obtain ⟨hi_1, hf⟩ := hf
  refine k_iast hx hb hK hL hA hO (by decide) (by decide) rfl (fun _ => rfl) hi_1 dX9_lay_13 (fun H_3 locs_3 hO_3 => ?_)
  replace hf := zl_some hf
  obtain ⟨X_2, hX_2, hf⟩ := hf
  have hQ_3 := zo_eq hX_2 hO_3
  clear hO_3 hO
  obtain rfl := Option.some.inj hf
  exact e_v hx hb hr hK hN hQ_3 hlocks dX9_lay_14
theorem in_X9_isPile_X9 : ∀ w ∈ u_ws RX9 TX9 16, w ∈ wsX9_isPile := by decide +kernel
theorem lk_X9_isPile_f7 : Cond.fieldLink RX9 7 "PoisonPilesModel" "s" "[I" ∈ wsX9_isPile := by decide +kernel
def fX9_isPile  (a1 : Int32) (X : XM) : Option (Int32 × XM) := zi (fX9_in a1 0 ((X 23 2) - 1) X) (fun r_2 X_1 => zb r_2 (some (r_2, X_1)))
set_option maxHeartbeats 4000000 in
set_option maxRecDepth 100000 in
theorem mX9_isPile (l : Launch) (D : va_G) (L : Nat → Nat) (ac : Nat → ClassId) (hL : LL L) (X : XM) (a1 : Int32) (r0 : Int32) (X0 : XM) (hf : fX9_isPile a1 X = some (r0, X0)) : Ci l yX9_isPile wsX9_isPile ({ frames := 1, cells := 0, slots := 0, locals := 22 }) D L ac X [.ref (L 15), .int a1] r0 X0 := by
  refine Met.ofK (cc := cX9_isPile) (maxL := 2) (ret := (some .boolean)) (lv := [(0, .ref (L 15)), (1, .int a1)]) (by decide +kernel) rfl (Nat.le_of_ble_eq_true rfl) rfl ?_
  intro p e s m below meth c F hO ls hl
  obtain ⟨hx, hb, hr, hts, hown, hlocks, hml, hK, hN⟩ := id F
  have hA : ∀ q, fr L q → fr L q := fun q h => h
  unfold fX9_isPile at hf
  refine lv_iload_n hx hb dX9_isPile_0 rfl (lv_at hl 1 rfl) ?_
  refine lv_iconst (v := 0) hx hb dX9_isPile_1 (by decide) ?_
  refine lv_aload_n hx hb dX9_isPile_2 rfl (lv_at hl 0 rfl) ?_
  refine k_get (k := 1) (v := .ref (L 16)) hx hb hts in_X9_isPile_X9 hown hK hO (by decide) rfl rfl (by decide) lk_X9_isPile_f7 rfl dX9_isPile_3 ?_
  refine lv_iconst (v := 2) hx hb dX9_isPile_6 (by decide) ?_
  refine k_iald hx hb hK hO (by decide) (fun _ => rfl) (show vp_in 2 27 from by unfold vp_in; decide) dX9_isPile_7 ?_
  refine lv_tope (z := X 23 2) rfl ?_
  refine lv_iconst (v := 1) hx hb dX9_isPile_8 (by decide) ?_
  refine lv_isub hx hb dX9_isPile_9 ?_
  replace hf := zi_some hf
  obtain ⟨r_2, X_1, hc_1, hf⟩ := hf
  refine k_ai (va_runS (As := [.int a1, .int 0, .int ((X 23 2) - 1)]) (rest := []) ⟨hx, hb, hml, hown, hts⟩ (mX9_in l D L ac hL _ a1 0 ((X 23 2) - 1) _ _ hc_1) (va_cwS 3 hts gX9_isPile_X9_in rfl rfl rfl (by decide +kernel) ⟨Nat.le_of_ble_eq_true rfl, Nat.le_of_ble_eq_true rfl⟩) (k_ps hK hN hO _) rfl rfl hl.1 rfl (lv_room (Nat.le_of_ble_eq_true rfl)) dX9_isPile_10 ⟨Nat.le_of_ble_eq_true rfl, Nat.le_of_ble_eq_true rfl⟩) hA hO (fun H_3 locs_3 hO_3 => ?_)
  clear hO
  replace hf := zb_some hf
  obtain ⟨hb_4, hf⟩ := hf
  obtain ⟨rfl, rfl⟩ := Prod.mk.inj (Option.some.inj hf)
  exact e_n hx hb hr (bo_n hb_4) hK hN hO_3 hlocks dX9_isPile_13
theorem in_X9_isAllowed_X9 : ∀ w ∈ u_ws RX9 TX9 16, w ∈ wsX9_isAllowed := by decide +kernel
theorem lk_X9_isAllowed_f7 : Cond.fieldLink RX9 7 "PoisonPilesModel" "s" "[I" ∈ wsX9_isAllowed := by decide +kernel
def fX9_isAllowed  (a1 : Int32) (X : XM) : Option (Int32 × XM) := zi (fX9_in a1 1 5 X) (fun r_2 X_1 => if r_2 = 0 then some (0, X_1) else if ((o_shr (X_1 23 0) (a1 - 1)) &&& 1) = 1 then some (1, X_1) else some (0, X_1))
set_option maxHeartbeats 4000000 in
set_option maxRecDepth 100000 in
theorem mX9_isAllowed (l : Launch) (D : va_G) (L : Nat → Nat) (ac : Nat → ClassId) (hL : LL L) (X : XM) (a1 : Int32) (r0 : Int32) (X0 : XM) (hf : fX9_isAllowed a1 X = some (r0, X0)) : Ci l yX9_isAllowed wsX9_isAllowed ({ frames := 1, cells := 0, slots := 0, locals := 22 }) D L ac X [.ref (L 15), .int a1] r0 X0 := by
  refine Met.ofK (cc := cX9_isAllowed) (maxL := 2) (ret := (some .boolean)) (lv := [(0, .ref (L 15)), (1, .int a1)]) (by decide +kernel) rfl (Nat.le_of_ble_eq_true rfl) rfl ?_
  intro p e s m below meth c F hO ls hl
  obtain ⟨hx, hb, hr, hts, hown, hlocks, hml, hK, hN⟩ := id F
  have hA : ∀ q, fr L q → fr L q := fun q h => h
  unfold fX9_isAllowed at hf
  refine lv_iload_n hx hb dX9_isAllowed_0 rfl (lv_at hl 1 rfl) ?_
  refine lv_iconst (v := 1) hx hb dX9_isAllowed_1 (by decide) ?_
  refine lv_iconst (v := 5) hx hb dX9_isAllowed_2 (by decide) ?_
  replace hf := zi_some hf
  obtain ⟨r_2, X_1, hc_1, hf⟩ := hf
  refine k_ai (va_runS (As := [.int a1, .int 1, .int 5]) (rest := []) ⟨hx, hb, hml, hown, hts⟩ (mX9_in l D L ac hL _ a1 1 5 _ _ hc_1) (va_cwS 3 hts gX9_isAllowed_X9_in rfl rfl rfl (by decide +kernel) ⟨Nat.le_of_ble_eq_true rfl, Nat.le_of_ble_eq_true rfl⟩) (k_ps hK hN hO _) rfl rfl hl.1 rfl (lv_room (Nat.le_of_ble_eq_true rfl)) dX9_isAllowed_3 ⟨Nat.le_of_ble_eq_true rfl, Nat.le_of_ble_eq_true rfl⟩) hA hO (fun H_3 locs_3 hO_3 => ?_)
  clear hO
  refine lv_if_eq (tgt := 29) hx hb dX9_isAllowed_6 (by decide) (fun c_4 => ?_) (fun c_4 => ?_)
  · rw [if_pos c_4] at hf
    subst c_4
    refine lv_iconst (v := 0) hx hb dX9_isAllowed_29 (by decide) ?_
    obtain ⟨rfl, rfl⟩ := Prod.mk.inj (Option.some.inj hf)
    exact e_n hx hb hr (bo_n (by decide)) hK hN hO_3 hlocks dX9_isAllowed_30
  · rw [if_neg c_4] at hf
    refine lv_aload_n hx hb dX9_isAllowed_9 rfl (lv_at hl 0 rfl) ?_
    refine k_get (k := 1) (v := .ref (L 16)) hx hb hts in_X9_isAllowed_X9 hown hK hO_3 (by decide) rfl rfl (by decide) lk_X9_isAllowed_f7 rfl dX9_isAllowed_10 ?_
    refine lv_iconst (v := 0) hx hb dX9_isAllowed_13 (by decide) ?_
    refine k_iald hx hb hK hO_3 (by decide) (fun _ => rfl) (show vp_in 0 27 from by unfold vp_in; decide) dX9_isAllowed_14 ?_
    refine lv_tope (z := X_1 23 0) rfl ?_
    refine lv_iload_n hx hb dX9_isAllowed_15 rfl (lv_at hl 1 rfl) ?_
    refine lv_iconst (v := 1) hx hb dX9_isAllowed_16 (by decide) ?_
    refine lv_isub hx hb dX9_isAllowed_17 ?_
    refine lv_ishr hx hb dX9_isAllowed_18 ?_
    refine lv_iconst (v := 1) hx hb dX9_isAllowed_19 (by decide) ?_
    refine lv_iand hx hb dX9_isAllowed_20 ?_
    refine lv_iconst (v := 1) hx hb dX9_isAllowed_21 (by decide) ?_
    refine lv_icmp_ne (tgt := 29) hx hb dX9_isAllowed_22 (by decide) (fun c_5 => ?_) (fun c_5 => ?_)
    · rw [if_neg c_5] at hf
      refine lv_iconst (v := 0) hx hb dX9_isAllowed_29 (by decide) ?_
      obtain ⟨rfl, rfl⟩ := Prod.mk.inj (Option.some.inj hf)
      exact e_n hx hb hr (bo_n (by decide)) hK hN hO_3 hlocks dX9_isAllowed_30
    · rw [if_pos c_5] at hf
      refine lv_iconst (v := 1) hx hb dX9_isAllowed_25 (by decide) ?_
      refine lv_goto (tgt := 30) hx hb dX9_isAllowed_26 (by decide) ?_
      obtain ⟨rfl, rfl⟩ := Prod.mk.inj (Option.some.inj hf)
      exact e_n hx hb hr (bo_n (by decide)) hK hN hO_3 hlocks dX9_isAllowed_30
theorem in_X9_records_X9 : ∀ w ∈ u_ws RX9 TX9 16, w ∈ wsX9_records := by decide +kernel
theorem lk_X9_records_f16 : Cond.fieldLink RX9 16 "PoisonPilesModel" "undos" "[I" ∈ wsX9_records := by decide +kernel
theorem lk_X9_records_f49 : Cond.fieldLink RX9 49 "PoisonPilesModel" "undoMany" "I" ∈ wsX9_records := by decide +kernel
theorem lk_X9_records_f7 : Cond.fieldLink RX9 7 "PoisonPilesModel" "s" "[I" ∈ wsX9_records := by decide +kernel
def fX9_records_51   : Nat → Int32 → XM → Option XM
  | 0, _, _ => none
  | n + 1, x1, X => if 27 ≤ x1 then zl (xup X 22 1 ((X 22 1) + 1)) (fun X_2 => some X_2) else zd x1 27 (zd ((27 * (X 22 1)) + x1) 162 (zl (xup X 25 (Int32.toNatClampNeg ((27 * (X 22 1)) + x1)) (X 23 (Int32.toNatClampNeg x1))) (fun X_6 => fX9_records_51 n (x1 + 1) X_6)))
set_option maxHeartbeats 4000000 in
set_option maxRecDepth 100000 in
theorem wX9_records_51 {p : Program} {l : Launch} {e : Env} {s : State} {m : MethodId} {args : Array Value} {below : List Frame} {meth : Method} {c : Code} {D : va_G} {L : Nat → Nat} {ac : Nat → ClassId} {X0 : XM} (hL : LL L) (F : Fx p s m args meth c cX9_records 2 none wsX9_records yX9_records.cls D ac) : ∀ (n : Nat) (x1 : Int32) (X : XM) (H : Heap) (locs : List Loc) (ls : Array Slot), Oh D L ac X (fr L) s.heap H locs → lv_has ls 2 [(0, .ref (L 15)), (1, .int x1)] → fX9_records_51 n x1 X = some X0 → W p l e (headSpec wsX9_records ({ frames := 0, cells := 0, slots := 0, locals := 0 })).room s m args below meth c H locs 0 0 (MQ below (va_Qv (fun (Y : XM) => Y = X0) (fun (Y : XM) t => St D L ac Y t) (fr L)) args s 0 0 (fr L)) (F0 m 51 ls []) := by
  obtain ⟨hx, hb, hr, hts, hown, hlocks, hml, hK, hN⟩ := id F
  have hA : ∀ q, fr L q → fr L q := fun q h => h
  intro n
  induction n with
  | zero => intro x1 X H locs ls hO hl hf; simp [fX9_records_51] at hf
  | succ n ih =>
    intro x1 X H locs ls hO hl hf
    rw [fX9_records_51] at hf
    refine lv_iload_n hx hb dX9_records_51 rfl (lv_at hl 1 rfl) ?_
    refine lv_bipush (v := 27) hx hb dX9_records_52 (by decide) ?_
    refine lv_icmp_ge (tgt := 83) hx hb dX9_records_54 (by decide) (fun c_1 => ?_) (fun c_1 => ?_)
    · rw [if_pos c_1] at hf
      refine lv_aload_n hx hb dX9_records_83 rfl (lv_at hl 0 rfl) ?_
      refine lv_dup hx hb dX9_records_84 rfl ?_
      refine k_get (k := 4) (v := .int (X 22 1)) hx hb hts in_X9_records_X9 hown hK hO (by decide) rfl rfl (by decide) lk_X9_records_f49 rfl dX9_records_85 ?_
      refine lv_iconst (v := 1) hx hb dX9_records_88 (by decide) ?_
      refine lv_iadd hx hb dX9_records_89 ?_
      refine k_put (ty := .int) (k := 4) (r := 22) (k' := 1) hx hb tyX9 tyX9_ok nmX9 hts in_X9_records_X9 hown hK  hL hA hO (by decide) rfl (by omega) (fun Y => rfl) (by simp [xup]) rfl (by decide) lk_X9_records_f49 rfl (by decide +kernel) rfl rfl (Nat.le_of_ble_eq_true rfl) dX9_records_90 (fun H_3 locs_3 hO_3 => ?_)
      replace hf := zl_some hf
      obtain ⟨X_2, hX_2, hf⟩ := hf
      have hQ_3 := zo_eq hX_2 hO_3
      clear hO_3 hO
      obtain rfl := Option.some.inj hf
      exact e_v hx hb hr hK hN hQ_3 hlocks dX9_records_93
    · rw [if_neg c_1] at hf
      refine lv_aload_n hx hb dX9_records_57 rfl (lv_at hl 0 rfl) ?_
      refine k_get (k := 3) (v := .ref (L 18)) hx hb hts in_X9_records_X9 hown hK hO (by decide) rfl rfl (by decide) lk_X9_records_f16 rfl dX9_records_58 ?_
      refine lv_bipush (v := 27) hx hb dX9_records_61 (by decide) ?_
      refine lv_aload_n hx hb dX9_records_63 rfl (lv_at hl 0 rfl) ?_
      refine k_get (k := 4) (v := .int (X 22 1)) hx hb hts in_X9_records_X9 hown hK hO (by decide) rfl rfl (by decide) lk_X9_records_f49 rfl dX9_records_64 ?_
      refine lv_imul hx hb dX9_records_67 ?_
      refine lv_iload_n hx hb dX9_records_68 rfl (lv_at hl 1 rfl) ?_
      refine lv_iadd hx hb dX9_records_69 ?_
      refine lv_aload_n hx hb dX9_records_70 rfl (lv_at hl 0 rfl) ?_
      refine k_get (k := 1) (v := .ref (L 16)) hx hb hts in_X9_records_X9 hown hK hO (by decide) rfl rfl (by decide) lk_X9_records_f7 rfl dX9_records_71 ?_
      refine lv_iload_n hx hb dX9_records_74 rfl (lv_at hl 1 rfl) ?_
      replace hf := zd_some hf
      obtain ⟨hi_4, hf⟩ := hf
      refine k_iald hx hb hK hO (by decide) (fun _ => rfl) hi_4 dX9_records_75 ?_
      replace hf := zd_some hf
      obtain ⟨hi_5, hf⟩ := hf
      refine k_iast hx hb hK hL hA hO (by decide) (by decide) rfl (fun _ => rfl) hi_5 dX9_records_76 (fun H_7 locs_7 hO_7 => ?_)
      replace hf := zl_some hf
      obtain ⟨X_6, hX_6, hf⟩ := hf
      have hQ_7 := zo_eq hX_6 hO_7
      clear hO_7 hO
      refine lv_iinc (v := x1 + 1) (lv' := [(1, .int (x1 + 1)), (0, .ref (L 15))]) hx hb dX9_records_77 hl (k := 1) rfl rfl (by decide) rfl (fun ls_8 hl_8 => ?_)
      clear hl
      refine lv_goto (tgt := 51) hx hb dX9_records_80 (by decide) ?_
      exact ih _ _  _ _ _ hQ_7 (lv_sub hl_8 [1, 0] rfl) hf
def fX9_records_11   : Nat → Int32 → XM → Option XM
  | 0, _, _ => none
  | n + 1, x1, X => if 135 ≤ x1 then zl (xup X 22 1 ((X 22 1) - 1)) (fun X_10 => fX9_records_51 fuel 0 X_10) else zd (x1 + 27) 162 (zd x1 162 (zl (xup X 25 (Int32.toNatClampNeg x1) (X 25 (Int32.toNatClampNeg (x1 + 27)))) (fun X_15 => fX9_records_11 n (x1 + 1) X_15)))
set_option maxHeartbeats 4000000 in
set_option maxRecDepth 100000 in
theorem wX9_records_11 {p : Program} {l : Launch} {e : Env} {s : State} {m : MethodId} {args : Array Value} {below : List Frame} {meth : Method} {c : Code} {D : va_G} {L : Nat → Nat} {ac : Nat → ClassId} {X0 : XM} (hL : LL L) (F : Fx p s m args meth c cX9_records 2 none wsX9_records yX9_records.cls D ac) : ∀ (n : Nat) (x1 : Int32) (X : XM) (H : Heap) (locs : List Loc) (ls : Array Slot), Oh D L ac X (fr L) s.heap H locs → lv_has ls 2 [(0, .ref (L 15)), (1, .int x1)] → fX9_records_11 n x1 X = some X0 → W p l e (headSpec wsX9_records ({ frames := 0, cells := 0, slots := 0, locals := 0 })).room s m args below meth c H locs 0 0 (MQ below (va_Qv (fun (Y : XM) => Y = X0) (fun (Y : XM) t => St D L ac Y t) (fr L)) args s 0 0 (fr L)) (F0 m 11 ls []) := by
  obtain ⟨hx, hb, hr, hts, hown, hlocks, hml, hK, hN⟩ := id F
  have hA : ∀ q, fr L q → fr L q := fun q h => h
  intro n
  induction n with
  | zero => intro x1 X H locs ls hO hl hf; simp [fX9_records_11] at hf
  | succ n ih =>
    intro x1 X H locs ls hO hl hf
    rw [fX9_records_11] at hf
    refine lv_iload_n hx hb dX9_records_11 rfl (lv_at hl 1 rfl) ?_
    refine lv_sipush (v := 135) hx hb dX9_records_12 (by decide) ?_
    refine lv_icmp_ge (tgt := 39) hx hb dX9_records_15 (by decide) (fun c_9 => ?_) (fun c_9 => ?_)
    · rw [if_pos c_9] at hf
      refine lv_aload_n hx hb dX9_records_39 rfl (lv_at hl 0 rfl) ?_
      refine lv_dup hx hb dX9_records_40 rfl ?_
      refine k_get (k := 4) (v := .int (X 22 1)) hx hb hts in_X9_records_X9 hown hK hO (by decide) rfl rfl (by decide) lk_X9_records_f49 rfl dX9_records_41 ?_
      refine lv_iconst (v := 1) hx hb dX9_records_44 (by decide) ?_
      refine lv_isub hx hb dX9_records_45 ?_
      refine k_put (ty := .int) (k := 4) (r := 22) (k' := 1) hx hb tyX9 tyX9_ok nmX9 hts in_X9_records_X9 hown hK  hL hA hO (by decide) rfl (by omega) (fun Y => rfl) (by simp [xup]) rfl (by decide) lk_X9_records_f49 rfl (by decide +kernel) rfl rfl (Nat.le_of_ble_eq_true rfl) dX9_records_46 (fun H_11 locs_11 hO_11 => ?_)
      replace hf := zl_some hf
      obtain ⟨X_10, hX_10, hf⟩ := hf
      have hQ_11 := zo_eq hX_10 hO_11
      clear hO_11 hO
      refine lv_iconst (v := 0) hx hb dX9_records_49 (by decide) ?_
      refine lv_istore_n (lv' := [(1, .int 0), (0, .ref (L 15))]) hx hb dX9_records_50 rfl hl (by decide) rfl (fun ls_12 hl_12 => ?_)
      clear hl
      exact wX9_records_51 hL F  fuel _ _  _ _ _ hQ_11 (lv_sub hl_12 [1, 0] rfl) hf
    · rw [if_neg c_9] at hf
      refine lv_aload_n hx hb dX9_records_18 rfl (lv_at hl 0 rfl) ?_
      refine k_get (k := 3) (v := .ref (L 18)) hx hb hts in_X9_records_X9 hown hK hO (by decide) rfl rfl (by decide) lk_X9_records_f16 rfl dX9_records_19 ?_
      refine lv_iload_n hx hb dX9_records_22 rfl (lv_at hl 1 rfl) ?_
      refine lv_aload_n hx hb dX9_records_23 rfl (lv_at hl 0 rfl) ?_
      refine k_get (k := 3) (v := .ref (L 18)) hx hb hts in_X9_records_X9 hown hK hO (by decide) rfl rfl (by decide) lk_X9_records_f16 rfl dX9_records_24 ?_
      refine lv_iload_n hx hb dX9_records_27 rfl (lv_at hl 1 rfl) ?_
      refine lv_bipush (v := 27) hx hb dX9_records_28 (by decide) ?_
      refine lv_iadd hx hb dX9_records_30 ?_
      replace hf := zd_some hf
      obtain ⟨hi_13, hf⟩ := hf
      refine k_iald hx hb hK hO (by decide) (fun _ => rfl) hi_13 dX9_records_31 ?_
      replace hf := zd_some hf
      obtain ⟨hi_14, hf⟩ := hf
      refine k_iast hx hb hK hL hA hO (by decide) (by decide) rfl (fun _ => rfl) hi_14 dX9_records_32 (fun H_16 locs_16 hO_16 => ?_)
      replace hf := zl_some hf
      obtain ⟨X_15, hX_15, hf⟩ := hf
      have hQ_16 := zo_eq hX_15 hO_16
      clear hO_16 hO
      refine lv_iinc (v := x1 + 1) (lv' := [(1, .int (x1 + 1)), (0, .ref (L 15))]) hx hb dX9_records_33 hl (k := 1) rfl rfl (by decide) rfl (fun ls_17 hl_17 => ?_)
      clear hl
      refine lv_goto (tgt := 11) hx hb dX9_records_36 (by decide) ?_
      exact ih _ _  _ _ _ hQ_16 (lv_sub hl_17 [1, 0] rfl) hf
def fX9_records   (X : XM) : Option XM := if (X 22 1) = 6 then fX9_records_11 fuel 0 X else fX9_records_51 fuel 0 X
set_option maxHeartbeats 4000000 in
set_option maxRecDepth 100000 in
theorem mX9_records (l : Launch) (D : va_G) (L : Nat → Nat) (ac : Nat → ClassId) (hL : LL L) (X : XM)  (X0 : XM) (hf : fX9_records  X = some X0) : Cv l yX9_records wsX9_records ({ frames := 0, cells := 0, slots := 0, locals := 0 }) D L ac X [.ref (L 15)] X0 := by
  refine Met.ofK (cc := cX9_records) (maxL := 2) (ret := none) (lv := [(0, .ref (L 15))]) (by decide +kernel) rfl (Nat.le_of_ble_eq_true rfl) rfl ?_
  intro p e s m below meth c F hO ls hl
  obtain ⟨hx, hb, hr, hts, hown, hlocks, hml, hK, hN⟩ := id F
  have hA : ∀ q, fr L q → fr L q := fun q h => h
  unfold fX9_records at hf
  refine lv_aload_n hx hb dX9_records_0 rfl (lv_at hl 0 rfl) ?_
  refine k_get (k := 4) (v := .int (X 22 1)) hx hb hts in_X9_records_X9 hown hK hO (by decide) rfl rfl (by decide) lk_X9_records_f49 rfl dX9_records_1 ?_
  refine lv_bipush (v := 6) hx hb dX9_records_4 (by decide) ?_
  refine lv_icmp_ne (tgt := 49) hx hb dX9_records_6 (by decide) (fun c_18 => ?_) (fun c_18 => ?_)
  · rw [if_neg c_18] at hf
    refine lv_iconst (v := 0) hx hb dX9_records_49 (by decide) ?_
    refine lv_istore_n (lv' := [(1, .int 0), (0, .ref (L 15))]) hx hb dX9_records_50 rfl hl (by decide) rfl (fun ls_19 hl_19 => ?_)
    clear hl
    exact wX9_records_51 hL F  fuel _ _  _ _ _ hO (lv_sub hl_19 [1, 0] rfl) hf
  · rw [if_pos c_18] at hf
    refine lv_iconst (v := 0) hx hb dX9_records_9 (by decide) ?_
    refine lv_istore_n (lv' := [(1, .int 0), (0, .ref (L 15))]) hx hb dX9_records_10 rfl hl (by decide) rfl (fun ls_20 hl_20 => ?_)
    clear hl
    exact wX9_records_11 hL F  fuel _ _  _ _ _ hO (lv_sub hl_20 [1, 0] rfl) hf
def fX9_unit  (a1 : Int32) (X : XM) : Option (Int32 × XM) := if a1 = 0 then some (1, X) else if a1 = 1 then some (6, X) else if a1 = 2 then some (36, X) else some (216, X)
set_option maxHeartbeats 4000000 in
set_option maxRecDepth 100000 in
theorem mX9_unit (l : Launch) (D : va_G) (L : Nat → Nat) (ac : Nat → ClassId) (hL : LL L) (X : XM) (a1 : Int32) (r0 : Int32) (X0 : XM) (hf : fX9_unit a1 X = some (r0, X0)) : Ci l yX9_unit wsX9_unit ({ frames := 0, cells := 0, slots := 0, locals := 0 }) D L ac X [.int a1] r0 X0 := by
  refine Met.ofK (cc := cX9_unit) (maxL := 1) (ret := (some .int)) (lv := [(0, .int a1)]) (by decide +kernel) rfl (Nat.le_of_ble_eq_true rfl) rfl ?_
  intro p e s m below meth c F hO ls hl
  obtain ⟨hx, hb, hr, hts, hown, hlocks, hml, hK, hN⟩ := id F
  have hA : ∀ q, fr L q → fr L q := fun q h => h
  unfold fX9_unit at hf
  refine lv_iload_n hx hb dX9_unit_0 rfl (lv_at hl 0 rfl) ?_
  refine lv_if_ne (tgt := 8) hx hb dX9_unit_1 (by decide) (fun c_1 => ?_) (fun c_1 => ?_)
  · rw [if_neg c_1] at hf
    refine lv_iload_n hx hb dX9_unit_8 rfl (lv_at hl 0 rfl) ?_
    refine lv_iconst (v := 1) hx hb dX9_unit_9 (by decide) ?_
    refine lv_icmp_ne (tgt := 18) hx hb dX9_unit_10 (by decide) (fun c_2 => ?_) (fun c_2 => ?_)
    · rw [if_neg c_2] at hf
      refine lv_iload_n hx hb dX9_unit_18 rfl (lv_at hl 0 rfl) ?_
      refine lv_iconst (v := 2) hx hb dX9_unit_19 (by decide) ?_
      refine lv_icmp_ne (tgt := 28) hx hb dX9_unit_20 (by decide) (fun c_3 => ?_) (fun c_3 => ?_)
      · rw [if_neg c_3] at hf
        refine lv_sipush (v := 216) hx hb dX9_unit_28 (by decide) ?_
        obtain ⟨rfl, rfl⟩ := Prod.mk.inj (Option.some.inj hf)
        exact e_i hx hb hr hK hN hO hlocks dX9_unit_31
      · rw [if_pos c_3] at hf
        subst c_3
        refine lv_bipush (v := 36) hx hb dX9_unit_23 (by decide) ?_
        refine lv_goto (tgt := 31) hx hb dX9_unit_25 (by decide) ?_
        obtain ⟨rfl, rfl⟩ := Prod.mk.inj (Option.some.inj hf)
        exact e_i hx hb hr hK hN hO hlocks dX9_unit_31
    · rw [if_pos c_2] at hf
      subst c_2
      refine lv_bipush (v := 6) hx hb dX9_unit_13 (by decide) ?_
      refine lv_goto (tgt := 31) hx hb dX9_unit_15 (by decide) ?_
      obtain ⟨rfl, rfl⟩ := Prod.mk.inj (Option.some.inj hf)
      exact e_i hx hb hr hK hN hO hlocks dX9_unit_31
  · rw [if_pos c_1] at hf
    subst c_1
    refine lv_iconst (v := 1) hx hb dX9_unit_4 (by decide) ?_
    refine lv_goto (tgt := 31) hx hb dX9_unit_5 (by decide) ?_
    obtain ⟨rfl, rfl⟩ := Prod.mk.inj (Option.some.inj hf)
    exact e_i hx hb hr hK hN hO hlocks dX9_unit_31
def fX9_tokensIn  (a1 : Int32) (a2 : Int32) (X : XM) : Option (Int32 × XM) := zi (fX9_unit a2 X) (fun r_2 X_1 => zz r_2 (some (o_rem (a1 / r_2) 6, X_1)))
set_option maxHeartbeats 4000000 in
set_option maxRecDepth 100000 in
theorem mX9_tokensIn (l : Launch) (D : va_G) (L : Nat → Nat) (ac : Nat → ClassId) (hL : LL L) (X : XM) (a1 : Int32) (a2 : Int32) (r0 : Int32) (X0 : XM) (hf : fX9_tokensIn a1 a2 X = some (r0, X0)) : Ci l yX9_tokensIn wsX9_tokensIn ({ frames := 1, cells := 0, slots := 0, locals := 20 }) D L ac X [.int a1, .int a2] r0 X0 := by
  refine Met.ofK (cc := cX9_tokensIn) (maxL := 2) (ret := (some .int)) (lv := [(0, .int a1), (1, .int a2)]) (by decide +kernel) rfl (Nat.le_of_ble_eq_true rfl) rfl ?_
  intro p e s m below meth c F hO ls hl
  obtain ⟨hx, hb, hr, hts, hown, hlocks, hml, hK, hN⟩ := id F
  have hA : ∀ q, fr L q → fr L q := fun q h => h
  unfold fX9_tokensIn at hf
  refine lv_iload_n hx hb dX9_tokensIn_0 rfl (lv_at hl 0 rfl) ?_
  refine lv_iload_n hx hb dX9_tokensIn_1 rfl (lv_at hl 1 rfl) ?_
  replace hf := zi_some hf
  obtain ⟨r_2, X_1, hc_1, hf⟩ := hf
  refine k_ai (va_runS (As := [.int a2]) (rest := [.int a1]) ⟨hx, hb, hml, hown, hts⟩ (mX9_unit l D L ac hL _ a2 _ _ hc_1) (va_cwS 1 hts gX9_tokensIn_X9_unit rfl rfl rfl (by decide +kernel) ⟨Nat.le_of_ble_eq_true rfl, Nat.le_of_ble_eq_true rfl⟩) (k_ps hK hN hO _) rfl rfl hl.1 rfl (lv_room (Nat.le_of_ble_eq_true rfl)) dX9_tokensIn_2 ⟨Nat.le_of_ble_eq_true rfl, Nat.le_of_ble_eq_true rfl⟩) hA hO (fun H_3 locs_3 hO_3 => ?_)
  clear hO
  replace hf := zz_some hf
  obtain ⟨hz_4, hf⟩ := hf
  refine lv_idiv hx hb dX9_tokensIn_5 hz_4 ?_
  refine lv_bipush (v := 6) hx hb dX9_tokensIn_6 (by decide) ?_
  refine lv_irem hx hb dX9_tokensIn_8 (by decide) ?_
  obtain ⟨rfl, rfl⟩ := Prod.mk.inj (Option.some.inj hf)
  exact e_i hx hb hr hK hN hO_3 hlocks dX9_tokensIn_9
def fX9_game  (a1 : Int32) (a2 : Int32) (a3 : Int32) (a4 : Int32) (X : XM) : Option (Int32 × XM) := some ((((((a1 * 3) + a2) * 3) + a3) * 2) + a4, X)
set_option maxHeartbeats 4000000 in
set_option maxRecDepth 100000 in
theorem mX9_game (l : Launch) (D : va_G) (L : Nat → Nat) (ac : Nat → ClassId) (hL : LL L) (X : XM) (a1 : Int32) (a2 : Int32) (a3 : Int32) (a4 : Int32) (r0 : Int32) (X0 : XM) (hf : fX9_game a1 a2 a3 a4 X = some (r0, X0)) : Ci l yX9_game wsX9_game ({ frames := 0, cells := 0, slots := 0, locals := 0 }) D L ac X [.int a1, .int a2, .int a3, .int a4] r0 X0 := by
  refine Met.ofK (cc := cX9_game) (maxL := 4) (ret := (some .int)) (lv := [(0, .int a1), (1, .int a2), (2, .int a3), (3, .int a4)]) (by decide +kernel) rfl (Nat.le_of_ble_eq_true rfl) rfl ?_
  intro p e s m below meth c F hO ls hl
  obtain ⟨hx, hb, hr, hts, hown, hlocks, hml, hK, hN⟩ := id F
  have hA : ∀ q, fr L q → fr L q := fun q h => h
  unfold fX9_game at hf
  refine lv_iload_n hx hb dX9_game_0 rfl (lv_at hl 0 rfl) ?_
  refine lv_iconst (v := 3) hx hb dX9_game_1 (by decide) ?_
  refine lv_imul hx hb dX9_game_2 ?_
  refine lv_iload_n hx hb dX9_game_3 rfl (lv_at hl 1 rfl) ?_
  refine lv_iadd hx hb dX9_game_4 ?_
  refine lv_iconst (v := 3) hx hb dX9_game_5 (by decide) ?_
  refine lv_imul hx hb dX9_game_6 ?_
  refine lv_iload_n hx hb dX9_game_7 rfl (lv_at hl 2 rfl) ?_
  refine lv_iadd hx hb dX9_game_8 ?_
  refine lv_iconst (v := 2) hx hb dX9_game_9 (by decide) ?_
  refine lv_imul hx hb dX9_game_10 ?_
  refine lv_iload_n hx hb dX9_game_11 rfl (lv_at hl 3 rfl) ?_
  refine lv_iadd hx hb dX9_game_12 ?_
  obtain ⟨rfl, rfl⟩ := Prod.mk.inj (Option.some.inj hf)
  exact e_i hx hb hr hK hN hO hlocks dX9_game_13
def fX9_can  (a1 : Int32) (a2 : Int32) (a3 : Int32) (a4 : Int32) (X : XM) : Option (Int32 × XM) := if a1 = 20 then if a3 ≤ 0 then some (0, X) else if a4 = 0 then if a2 ≤ 0 then some (0, X) else some (1, X) else some (0, X) else zi (fX9_isAllowed ((o_rem a1 5) + 1) X) (fun r_3 X_2 => if r_3 = 0 then some (0, X_2) else zi (fX9_tokensIn a2 (a1 / 5) X_2) (fun r_7 X_6 => if r_7 < ((o_rem a1 5) + 1) then some (0, X_6) else some (1, X_6)))
set_option maxHeartbeats 4000000 in
set_option maxRecDepth 100000 in
theorem mX9_can (l : Launch) (D : va_G) (L : Nat → Nat) (ac : Nat → ClassId) (hL : LL L) (X : XM) (a1 : Int32) (a2 : Int32) (a3 : Int32) (a4 : Int32) (r0 : Int32) (X0 : XM) (hf : fX9_can a1 a2 a3 a4 X = some (r0, X0)) : Ci l yX9_can wsX9_can ({ frames := 2, cells := 0, slots := 0, locals := 43 }) D L ac X [.ref (L 15), .int a1, .int a2, .int a3, .int a4] r0 X0 := by
  refine Met.ofK (cc := cX9_can) (maxL := 5) (ret := (some .boolean)) (lv := [(0, .ref (L 15)), (1, .int a1), (2, .int a2), (3, .int a3), (4, .int a4)]) (by decide +kernel) rfl (Nat.le_of_ble_eq_true rfl) rfl ?_
  intro p e s m below meth c F hO ls hl
  obtain ⟨hx, hb, hr, hts, hown, hlocks, hml, hK, hN⟩ := id F
  have hA : ∀ q, fr L q → fr L q := fun q h => h
  unfold fX9_can at hf
  refine lv_iload_n hx hb dX9_can_0 rfl (lv_at hl 1 rfl) ?_
  refine lv_bipush (v := 20) hx hb dX9_can_1 (by decide) ?_
  refine lv_icmp_ne (tgt := 25) hx hb dX9_can_3 (by decide) (fun c_1 => ?_) (fun c_1 => ?_)
  · rw [if_neg c_1] at hf
    refine lv_aload_n hx hb dX9_can_25 rfl (lv_at hl 0 rfl) ?_
    refine lv_iload_n hx hb dX9_can_26 rfl (lv_at hl 1 rfl) ?_
    refine lv_iconst (v := 5) hx hb dX9_can_27 (by decide) ?_
    refine lv_irem hx hb dX9_can_28 (by decide) ?_
    refine lv_iconst (v := 1) hx hb dX9_can_29 (by decide) ?_
    refine lv_iadd hx hb dX9_can_30 ?_
    replace hf := zi_some hf
    obtain ⟨r_3, X_2, hc_2, hf⟩ := hf
    refine k_ai (va_runV (As := [.int ((o_rem a1 5) + 1)]) (rest := []) ⟨hx, hb, hml, hown, hts⟩ (mX9_isAllowed l D L ac hL _ ((o_rem a1 5) + 1) _ _ hc_2) (cwV 1 hts gX9_can_X9_isAllowed rfl rfl rfl (by decide +kernel) ⟨Nat.le_of_ble_eq_true rfl, Nat.le_of_ble_eq_true rfl⟩) (k_pv (j := 15) hK hN hO (by decide) rfl rfl _) rfl rfl hl.1 rfl (lv_room (Nat.le_of_ble_eq_true rfl)) dX9_can_31 ⟨Nat.le_of_ble_eq_true rfl, Nat.le_of_ble_eq_true rfl⟩) hA hO (fun H_4 locs_4 hO_4 => ?_)
    clear hO
    refine lv_if_eq (tgt := 56) hx hb dX9_can_34 (by decide) (fun c_5 => ?_) (fun c_5 => ?_)
    · rw [if_pos c_5] at hf
      subst c_5
      refine lv_iconst (v := 0) hx hb dX9_can_56 (by decide) ?_
      obtain ⟨rfl, rfl⟩ := Prod.mk.inj (Option.some.inj hf)
      exact e_n hx hb hr (bo_n (by decide)) hK hN hO_4 hlocks dX9_can_57
    · rw [if_neg c_5] at hf
      refine lv_iload_n hx hb dX9_can_37 rfl (lv_at hl 2 rfl) ?_
      refine lv_iload_n hx hb dX9_can_38 rfl (lv_at hl 1 rfl) ?_
      refine lv_iconst (v := 5) hx hb dX9_can_39 (by decide) ?_
      refine lv_idiv hx hb dX9_can_40 (by decide) ?_
      replace hf := zi_some hf
      obtain ⟨r_7, X_6, hc_6, hf⟩ := hf
      refine k_ai (va_runS (As := [.int a2, .int (a1 / 5)]) (rest := []) ⟨hx, hb, hml, hown, hts⟩ (mX9_tokensIn l D L ac hL _ a2 (a1 / 5) _ _ hc_6) (va_cwS 2 hts gX9_can_X9_tokensIn rfl rfl rfl (by decide +kernel) ⟨Nat.le_of_ble_eq_true rfl, Nat.le_of_ble_eq_true rfl⟩) (k_ps hK hN hO_4 _) rfl rfl hl.1 rfl (lv_room (Nat.le_of_ble_eq_true rfl)) dX9_can_41 ⟨Nat.le_of_ble_eq_true rfl, Nat.le_of_ble_eq_true rfl⟩) hA hO_4 (fun H_8 locs_8 hO_8 => ?_)
      clear hO_4
      refine lv_iload_n hx hb dX9_can_44 rfl (lv_at hl 1 rfl) ?_
      refine lv_iconst (v := 5) hx hb dX9_can_45 (by decide) ?_
      refine lv_irem hx hb dX9_can_46 (by decide) ?_
      refine lv_iconst (v := 1) hx hb dX9_can_47 (by decide) ?_
      refine lv_iadd hx hb dX9_can_48 ?_
      refine lv_icmp_lt (tgt := 56) hx hb dX9_can_49 (by decide) (fun c_9 => ?_) (fun c_9 => ?_)
      · rw [if_pos c_9] at hf
        refine lv_iconst (v := 0) hx hb dX9_can_56 (by decide) ?_
        obtain ⟨rfl, rfl⟩ := Prod.mk.inj (Option.some.inj hf)
        exact e_n hx hb hr (bo_n (by decide)) hK hN hO_8 hlocks dX9_can_57
      · rw [if_neg c_9] at hf
        refine lv_iconst (v := 1) hx hb dX9_can_52 (by decide) ?_
        refine lv_goto (tgt := 57) hx hb dX9_can_53 (by decide) ?_
        obtain ⟨rfl, rfl⟩ := Prod.mk.inj (Option.some.inj hf)
        exact e_n hx hb hr (bo_n (by decide)) hK hN hO_8 hlocks dX9_can_57
  · rw [if_pos c_1] at hf
    subst c_1
    refine lv_iload_n hx hb dX9_can_6 rfl (lv_at hl 3 rfl) ?_
    refine lv_if_le (tgt := 23) hx hb dX9_can_7 (by decide) (fun c_10 => ?_) (fun c_10 => ?_)
    · rw [if_pos c_10] at hf
      refine lv_iconst (v := 0) hx hb dX9_can_23 (by decide) ?_
      obtain ⟨rfl, rfl⟩ := Prod.mk.inj (Option.some.inj hf)
      exact e_n hx hb hr (bo_n (by decide)) hK hN hO hlocks dX9_can_24
    · rw [if_neg c_10] at hf
      refine lv_iload hx hb dX9_can_10 (lv_at hl 4 rfl) ?_
      refine lv_if_ne (tgt := 23) hx hb dX9_can_12 (by decide) (fun c_11 => ?_) (fun c_11 => ?_)
      · rw [if_neg c_11] at hf
        refine lv_iconst (v := 0) hx hb dX9_can_23 (by decide) ?_
        obtain ⟨rfl, rfl⟩ := Prod.mk.inj (Option.some.inj hf)
        exact e_n hx hb hr (bo_n (by decide)) hK hN hO hlocks dX9_can_24
      · rw [if_pos c_11] at hf
        subst c_11
        refine lv_iload_n hx hb dX9_can_15 rfl (lv_at hl 2 rfl) ?_
        refine lv_if_le (tgt := 23) hx hb dX9_can_16 (by decide) (fun c_12 => ?_) (fun c_12 => ?_)
        · rw [if_pos c_12] at hf
          refine lv_iconst (v := 0) hx hb dX9_can_23 (by decide) ?_
          obtain ⟨rfl, rfl⟩ := Prod.mk.inj (Option.some.inj hf)
          exact e_n hx hb hr (bo_n (by decide)) hK hN hO hlocks dX9_can_24
        · rw [if_neg c_12] at hf
          refine lv_iconst (v := 1) hx hb dX9_can_19 (by decide) ?_
          refine lv_goto (tgt := 24) hx hb dX9_can_20 (by decide) ?_
          obtain ⟨rfl, rfl⟩ := Prod.mk.inj (Option.some.inj hf)
          exact e_n hx hb hr (bo_n (by decide)) hK hN hO hlocks dX9_can_24
def fX9_isPoisoned  (a1 : Int32) (a2 : Int32) (X : XM) : Option (Int32 × XM) := if a1 = 20 then some (0, X) else zi (fX9_of (a1 / 5) 2 X) (fun r_3 X_2 => if r_3 = 1 then zi (fX9_tokensIn a2 (a1 / 5) X_2) (fun r_7 X_6 => if r_7 = ((o_rem a1 5) + 1) then some (1, X_6) else some (0, X_6)) else some (0, X_2))
set_option maxHeartbeats 4000000 in
set_option maxRecDepth 100000 in
theorem mX9_isPoisoned (l : Launch) (D : va_G) (L : Nat → Nat) (ac : Nat → ClassId) (hL : LL L) (X : XM) (a1 : Int32) (a2 : Int32) (r0 : Int32) (X0 : XM) (hf : fX9_isPoisoned a1 a2 X = some (r0, X0)) : Ci l yX9_isPoisoned wsX9_isPoisoned ({ frames := 2, cells := 0, slots := 0, locals := 41 }) D L ac X [.ref (L 15), .int a1, .int a2] r0 X0 := by
  refine Met.ofK (cc := cX9_isPoisoned) (maxL := 3) (ret := (some .boolean)) (lv := [(0, .ref (L 15)), (1, .int a1), (2, .int a2)]) (by decide +kernel) rfl (Nat.le_of_ble_eq_true rfl) rfl ?_
  intro p e s m below meth c F hO ls hl
  obtain ⟨hx, hb, hr, hts, hown, hlocks, hml, hK, hN⟩ := id F
  have hA : ∀ q, fr L q → fr L q := fun q h => h
  unfold fX9_isPoisoned at hf
  refine lv_iload_n hx hb dX9_isPoisoned_0 rfl (lv_at hl 1 rfl) ?_
  refine lv_bipush (v := 20) hx hb dX9_isPoisoned_1 (by decide) ?_
  refine lv_icmp_eq (tgt := 37) hx hb dX9_isPoisoned_3 (by decide) (fun c_1 => ?_) (fun c_1 => ?_)
  · rw [if_pos c_1] at hf
    subst c_1
    refine lv_iconst (v := 0) hx hb dX9_isPoisoned_37 (by decide) ?_
    obtain ⟨rfl, rfl⟩ := Prod.mk.inj (Option.some.inj hf)
    exact e_n hx hb hr (bo_n (by decide)) hK hN hO hlocks dX9_isPoisoned_38
  · rw [if_neg c_1] at hf
    refine lv_aload_n hx hb dX9_isPoisoned_6 rfl (lv_at hl 0 rfl) ?_
    refine lv_iload_n hx hb dX9_isPoisoned_7 rfl (lv_at hl 1 rfl) ?_
    refine lv_iconst (v := 5) hx hb dX9_isPoisoned_8 (by decide) ?_
    refine lv_idiv hx hb dX9_isPoisoned_9 (by decide) ?_
    refine lv_iconst (v := 2) hx hb dX9_isPoisoned_10 (by decide) ?_
    replace hf := zi_some hf
    obtain ⟨r_3, X_2, hc_2, hf⟩ := hf
    refine k_ai (va_runV (As := [.int (a1 / 5), .int 2]) (rest := []) ⟨hx, hb, hml, hown, hts⟩ (mX9_of l D L ac hL _ (a1 / 5) 2 _ _ hc_2) (cwV 2 hts gX9_isPoisoned_X9_of rfl rfl rfl (by decide +kernel) ⟨Nat.le_of_ble_eq_true rfl, Nat.le_of_ble_eq_true rfl⟩) (k_pv (j := 15) hK hN hO (by decide) rfl rfl _) rfl rfl hl.1 rfl (lv_room (Nat.le_of_ble_eq_true rfl)) dX9_isPoisoned_11 ⟨Nat.le_of_ble_eq_true rfl, Nat.le_of_ble_eq_true rfl⟩) hA hO (fun H_4 locs_4 hO_4 => ?_)
    clear hO
    refine lv_iconst (v := 1) hx hb dX9_isPoisoned_14 (by decide) ?_
    refine lv_icmp_ne (tgt := 37) hx hb dX9_isPoisoned_15 (by decide) (fun c_5 => ?_) (fun c_5 => ?_)
    · rw [if_neg c_5] at hf
      refine lv_iconst (v := 0) hx hb dX9_isPoisoned_37 (by decide) ?_
      obtain ⟨rfl, rfl⟩ := Prod.mk.inj (Option.some.inj hf)
      exact e_n hx hb hr (bo_n (by decide)) hK hN hO_4 hlocks dX9_isPoisoned_38
    · rw [if_pos c_5] at hf
      subst c_5
      refine lv_iload_n hx hb dX9_isPoisoned_18 rfl (lv_at hl 2 rfl) ?_
      refine lv_iload_n hx hb dX9_isPoisoned_19 rfl (lv_at hl 1 rfl) ?_
      refine lv_iconst (v := 5) hx hb dX9_isPoisoned_20 (by decide) ?_
      refine lv_idiv hx hb dX9_isPoisoned_21 (by decide) ?_
      replace hf := zi_some hf
      obtain ⟨r_7, X_6, hc_6, hf⟩ := hf
      refine k_ai (va_runS (As := [.int a2, .int (a1 / 5)]) (rest := []) ⟨hx, hb, hml, hown, hts⟩ (mX9_tokensIn l D L ac hL _ a2 (a1 / 5) _ _ hc_6) (va_cwS 2 hts gX9_isPoisoned_X9_tokensIn rfl rfl rfl (by decide +kernel) ⟨Nat.le_of_ble_eq_true rfl, Nat.le_of_ble_eq_true rfl⟩) (k_ps hK hN hO_4 _) rfl rfl hl.1 rfl (lv_room (Nat.le_of_ble_eq_true rfl)) dX9_isPoisoned_22 ⟨Nat.le_of_ble_eq_true rfl, Nat.le_of_ble_eq_true rfl⟩) hA hO_4 (fun H_8 locs_8 hO_8 => ?_)
      clear hO_4
      refine lv_iload_n hx hb dX9_isPoisoned_25 rfl (lv_at hl 1 rfl) ?_
      refine lv_iconst (v := 5) hx hb dX9_isPoisoned_26 (by decide) ?_
      refine lv_irem hx hb dX9_isPoisoned_27 (by decide) ?_
      refine lv_iconst (v := 1) hx hb dX9_isPoisoned_28 (by decide) ?_
      refine lv_iadd hx hb dX9_isPoisoned_29 ?_
      refine lv_icmp_ne (tgt := 37) hx hb dX9_isPoisoned_30 (by decide) (fun c_9 => ?_) (fun c_9 => ?_)
      · rw [if_neg c_9] at hf
        refine lv_iconst (v := 0) hx hb dX9_isPoisoned_37 (by decide) ?_
        obtain ⟨rfl, rfl⟩ := Prod.mk.inj (Option.some.inj hf)
        exact e_n hx hb hr (bo_n (by decide)) hK hN hO_8 hlocks dX9_isPoisoned_38
      · rw [if_pos c_9] at hf
        refine lv_iconst (v := 1) hx hb dX9_isPoisoned_33 (by decide) ?_
        refine lv_goto (tgt := 38) hx hb dX9_isPoisoned_34 (by decide) ?_
        obtain ⟨rfl, rfl⟩ := Prod.mk.inj (Option.some.inj hf)
        exact e_n hx hb hr (bo_n (by decide)) hK hN hO_8 hlocks dX9_isPoisoned_38
def fX9_behind  (a1 : Int32) (a2 : Int32) (a3 : Int32) (a4 : Int32) (X : XM) : Option (Int32 × XM) := if a1 = 20 then zi (fX9_game a2 a4 (a3 - 1) 1 X) (fun r_9 X_8 => some (r_9, X_8)) else zi (fX9_unit (a1 / 5) X) (fun r_3 X_2 => zi (fX9_game (a2 - (r_3 * ((o_rem a1 5) + 1))) a4 a3 0 X_2) (fun r_6 X_5 => some (r_6, X_5)))
set_option maxHeartbeats 4000000 in
set_option maxRecDepth 100000 in
theorem mX9_behind (l : Launch) (D : va_G) (L : Nat → Nat) (ac : Nat → ClassId) (hL : LL L) (X : XM) (a1 : Int32) (a2 : Int32) (a3 : Int32) (a4 : Int32) (r0 : Int32) (X0 : XM) (hf : fX9_behind a1 a2 a3 a4 X = some (r0, X0)) : Ci l yX9_behind wsX9_behind ({ frames := 1, cells := 0, slots := 0, locals := 23 }) D L ac X [.int a1, .int a2, .int a3, .int a4] r0 X0 := by
  refine Met.ofK (cc := cX9_behind) (maxL := 4) (ret := (some .int)) (lv := [(0, .int a1), (1, .int a2), (2, .int a3), (3, .int a4)]) (by decide +kernel) rfl (Nat.le_of_ble_eq_true rfl) rfl ?_
  intro p e s m below meth c F hO ls hl
  obtain ⟨hx, hb, hr, hts, hown, hlocks, hml, hK, hN⟩ := id F
  have hA : ∀ q, fr L q → fr L q := fun q h => h
  unfold fX9_behind at hf
  refine lv_iload_n hx hb dX9_behind_0 rfl (lv_at hl 0 rfl) ?_
  refine lv_bipush (v := 20) hx hb dX9_behind_1 (by decide) ?_
  refine lv_icmp_ne (tgt := 18) hx hb dX9_behind_3 (by decide) (fun c_1 => ?_) (fun c_1 => ?_)
  · rw [if_neg c_1] at hf
    refine lv_iload_n hx hb dX9_behind_18 rfl (lv_at hl 1 rfl) ?_
    refine lv_iload_n hx hb dX9_behind_19 rfl (lv_at hl 0 rfl) ?_
    refine lv_iconst (v := 5) hx hb dX9_behind_20 (by decide) ?_
    refine lv_idiv hx hb dX9_behind_21 (by decide) ?_
    replace hf := zi_some hf
    obtain ⟨r_3, X_2, hc_2, hf⟩ := hf
    refine k_ai (va_runS (As := [.int (a1 / 5)]) (rest := [.int a2]) ⟨hx, hb, hml, hown, hts⟩ (mX9_unit l D L ac hL _ (a1 / 5) _ _ hc_2) (va_cwS 1 hts gX9_behind_X9_unit rfl rfl rfl (by decide +kernel) ⟨Nat.le_of_ble_eq_true rfl, Nat.le_of_ble_eq_true rfl⟩) (k_ps hK hN hO _) rfl rfl hl.1 rfl (lv_room (Nat.le_of_ble_eq_true rfl)) dX9_behind_22 ⟨Nat.le_of_ble_eq_true rfl, Nat.le_of_ble_eq_true rfl⟩) hA hO (fun H_4 locs_4 hO_4 => ?_)
    clear hO
    refine lv_iload_n hx hb dX9_behind_25 rfl (lv_at hl 0 rfl) ?_
    refine lv_iconst (v := 5) hx hb dX9_behind_26 (by decide) ?_
    refine lv_irem hx hb dX9_behind_27 (by decide) ?_
    refine lv_iconst (v := 1) hx hb dX9_behind_28 (by decide) ?_
    refine lv_iadd hx hb dX9_behind_29 ?_
    refine lv_imul hx hb dX9_behind_30 ?_
    refine lv_isub hx hb dX9_behind_31 ?_
    refine lv_iload_n hx hb dX9_behind_32 rfl (lv_at hl 3 rfl) ?_
    refine lv_iload_n hx hb dX9_behind_33 rfl (lv_at hl 2 rfl) ?_
    refine lv_iconst (v := 0) hx hb dX9_behind_34 (by decide) ?_
    replace hf := zi_some hf
    obtain ⟨r_6, X_5, hc_5, hf⟩ := hf
    refine k_ai (va_runS (As := [.int (a2 - (r_3 * ((o_rem a1 5) + 1))), .int a4, .int a3, .int 0]) (rest := []) ⟨hx, hb, hml, hown, hts⟩ (mX9_game l D L ac hL _ (a2 - (r_3 * ((o_rem a1 5) + 1))) a4 a3 0 _ _ hc_5) (va_cwS 4 hts gX9_behind_X9_game rfl rfl rfl (by decide +kernel) ⟨Nat.le_of_ble_eq_true rfl, Nat.le_of_ble_eq_true rfl⟩) (k_ps hK hN hO_4 _) rfl rfl hl.1 rfl (lv_room (Nat.le_of_ble_eq_true rfl)) dX9_behind_35 ⟨Nat.le_of_ble_eq_true rfl, Nat.le_of_ble_eq_true rfl⟩) hA hO_4 (fun H_7 locs_7 hO_7 => ?_)
    clear hO_4
    obtain ⟨rfl, rfl⟩ := Prod.mk.inj (Option.some.inj hf)
    exact e_i hx hb hr hK hN hO_7 hlocks dX9_behind_38
  · rw [if_pos c_1] at hf
    subst c_1
    refine lv_iload_n hx hb dX9_behind_6 rfl (lv_at hl 1 rfl) ?_
    refine lv_iload_n hx hb dX9_behind_7 rfl (lv_at hl 3 rfl) ?_
    refine lv_iload_n hx hb dX9_behind_8 rfl (lv_at hl 2 rfl) ?_
    refine lv_iconst (v := 1) hx hb dX9_behind_9 (by decide) ?_
    refine lv_isub hx hb dX9_behind_10 ?_
    refine lv_iconst (v := 1) hx hb dX9_behind_11 (by decide) ?_
    replace hf := zi_some hf
    obtain ⟨r_9, X_8, hc_8, hf⟩ := hf
    refine k_ai (va_runS (As := [.int a2, .int a4, .int (a3 - 1), .int 1]) (rest := []) ⟨hx, hb, hml, hown, hts⟩ (mX9_game l D L ac hL _ a2 a4 (a3 - 1) 1 _ _ hc_8) (va_cwS 4 hts gX9_behind_X9_game rfl rfl rfl (by decide +kernel) ⟨Nat.le_of_ble_eq_true rfl, Nat.le_of_ble_eq_true rfl⟩) (k_ps hK hN hO _) rfl rfl hl.1 rfl (lv_room (Nat.le_of_ble_eq_true rfl)) dX9_behind_12 ⟨Nat.le_of_ble_eq_true rfl, Nat.le_of_ble_eq_true rfl⟩) hA hO (fun H_10 locs_10 hO_10 => ?_)
    clear hO
    refine lv_goto (tgt := 38) hx hb dX9_behind_15 (by decide) ?_
    obtain ⟨rfl, rfl⟩ := Prod.mk.inj (Option.some.inj hf)
    exact e_i hx hb hr hK hN hO_10 hlocks dX9_behind_38
def fX9_gain  (a1 : Int32) (X : XM) : Option (Int32 × XM) := if a1 = 20 then some (0, X) else zi (fX9_of (a1 / 5) 1 X) (fun r_3 X_2 => some (((o_rem a1 5) + 1) * r_3, X_2))
set_option maxHeartbeats 4000000 in
set_option maxRecDepth 100000 in
theorem mX9_gain (l : Launch) (D : va_G) (L : Nat → Nat) (ac : Nat → ClassId) (hL : LL L) (X : XM) (a1 : Int32) (r0 : Int32) (X0 : XM) (hf : fX9_gain a1 X = some (r0, X0)) : Ci l yX9_gain wsX9_gain ({ frames := 1, cells := 0, slots := 0, locals := 22 }) D L ac X [.ref (L 15), .int a1] r0 X0 := by
  refine Met.ofK (cc := cX9_gain) (maxL := 2) (ret := (some .int)) (lv := [(0, .ref (L 15)), (1, .int a1)]) (by decide +kernel) rfl (Nat.le_of_ble_eq_true rfl) rfl ?_
  intro p e s m below meth c F hO ls hl
  obtain ⟨hx, hb, hr, hts, hown, hlocks, hml, hK, hN⟩ := id F
  have hA : ∀ q, fr L q → fr L q := fun q h => h
  unfold fX9_gain at hf
  refine lv_iload_n hx hb dX9_gain_0 rfl (lv_at hl 1 rfl) ?_
  refine lv_bipush (v := 20) hx hb dX9_gain_1 (by decide) ?_
  refine lv_icmp_ne (tgt := 10) hx hb dX9_gain_3 (by decide) (fun c_1 => ?_) (fun c_1 => ?_)
  · rw [if_neg c_1] at hf
    refine lv_iload_n hx hb dX9_gain_10 rfl (lv_at hl 1 rfl) ?_
    refine lv_iconst (v := 5) hx hb dX9_gain_11 (by decide) ?_
    refine lv_irem hx hb dX9_gain_12 (by decide) ?_
    refine lv_iconst (v := 1) hx hb dX9_gain_13 (by decide) ?_
    refine lv_iadd hx hb dX9_gain_14 ?_
    refine lv_aload_n hx hb dX9_gain_15 rfl (lv_at hl 0 rfl) ?_
    refine lv_iload_n hx hb dX9_gain_16 rfl (lv_at hl 1 rfl) ?_
    refine lv_iconst (v := 5) hx hb dX9_gain_17 (by decide) ?_
    refine lv_idiv hx hb dX9_gain_18 (by decide) ?_
    refine lv_iconst (v := 1) hx hb dX9_gain_19 (by decide) ?_
    replace hf := zi_some hf
    obtain ⟨r_3, X_2, hc_2, hf⟩ := hf
    refine k_ai (va_runV (As := [.int (a1 / 5), .int 1]) (rest := [.int ((o_rem a1 5) + 1)]) ⟨hx, hb, hml, hown, hts⟩ (mX9_of l D L ac hL _ (a1 / 5) 1 _ _ hc_2) (cwV 2 hts gX9_gain_X9_of rfl rfl rfl (by decide +kernel) ⟨Nat.le_of_ble_eq_true rfl, Nat.le_of_ble_eq_true rfl⟩) (k_pv (j := 15) hK hN hO (by decide) rfl rfl _) rfl rfl hl.1 rfl (lv_room (Nat.le_of_ble_eq_true rfl)) dX9_gain_20 ⟨Nat.le_of_ble_eq_true rfl, Nat.le_of_ble_eq_true rfl⟩) hA hO (fun H_4 locs_4 hO_4 => ?_)
    clear hO
    refine lv_imul hx hb dX9_gain_23 ?_
    obtain ⟨rfl, rfl⟩ := Prod.mk.inj (Option.some.inj hf)
    exact e_i hx hb hr hK hN hO_4 hlocks dX9_gain_24
  · rw [if_pos c_1] at hf
    subst c_1
    refine lv_iconst (v := 0) hx hb dX9_gain_6 (by decide) ?_
    refine lv_goto (tgt := 24) hx hb dX9_gain_7 (by decide) ?_
    obtain ⟨rfl, rfl⟩ := Prod.mk.inj (Option.some.inj hf)
    exact e_i hx hb hr hK hN hO hlocks dX9_gain_24
theorem in_X9_worth_X9 : ∀ w ∈ u_ws RX9 TX9 16, w ∈ wsX9_worth := by decide +kernel
theorem lk_X9_worth_f29 : Cond.fieldLink RX9 29 "PoisonPilesModel" "values" "[I" ∈ wsX9_worth := by decide +kernel
theorem lk_X9_worth_f7 : Cond.fieldLink RX9 7 "PoisonPilesModel" "s" "[I" ∈ wsX9_worth := by decide +kernel
def fX9_worth  (a1 : Int32) (a2 : Int32) (a3 : Int32) (a4 : Int32) (X : XM) : Option (Int32 × XM) := zi (fX9_gain a1 X) (fun r_2 X_1 => zi (fX9_isPoisoned a1 a2 X_1) (fun r_5 X_4 => if r_5 = 0 then zi (fX9_behind a1 a2 a3 a4 X_4) (fun r_9 X_8 => zd r_9 23328 (some (r_2 - (X_8 29 (Int32.toNatClampNeg r_9)), X_8))) else some (r_2 - (X_4 23 1), X_4)))
set_option maxHeartbeats 4000000 in
set_option maxRecDepth 100000 in
theorem mX9_worth (l : Launch) (D : va_G) (L : Nat → Nat) (ac : Nat → ClassId) (hL : LL L) (X : XM) (a1 : Int32) (a2 : Int32) (a3 : Int32) (a4 : Int32) (r0 : Int32) (X0 : XM) (hf : fX9_worth a1 a2 a3 a4 X = some (r0, X0)) : Ci l yX9_worth wsX9_worth ({ frames := 3, cells := 0, slots := 0, locals := 63 }) D L ac X [.ref (L 15), .int a1, .int a2, .int a3, .int a4] r0 X0 := by
  refine Met.ofK (cc := cX9_worth) (maxL := 5) (ret := (some .int)) (lv := [(0, .ref (L 15)), (1, .int a1), (2, .int a2), (3, .int a3), (4, .int a4)]) (by decide +kernel) rfl (Nat.le_of_ble_eq_true rfl) rfl ?_
  intro p e s m below meth c F hO ls hl
  obtain ⟨hx, hb, hr, hts, hown, hlocks, hml, hK, hN⟩ := id F
  have hA : ∀ q, fr L q → fr L q := fun q h => h
  unfold fX9_worth at hf
  refine lv_aload_n hx hb dX9_worth_0 rfl (lv_at hl 0 rfl) ?_
  refine lv_iload_n hx hb dX9_worth_1 rfl (lv_at hl 1 rfl) ?_
  replace hf := zi_some hf
  obtain ⟨r_2, X_1, hc_1, hf⟩ := hf
  refine k_ai (va_runV (As := [.int a1]) (rest := []) ⟨hx, hb, hml, hown, hts⟩ (mX9_gain l D L ac hL _ a1 _ _ hc_1) (cwV 1 hts gX9_worth_X9_gain rfl rfl rfl (by decide +kernel) ⟨Nat.le_of_ble_eq_true rfl, Nat.le_of_ble_eq_true rfl⟩) (k_pv (j := 15) hK hN hO (by decide) rfl rfl _) rfl rfl hl.1 rfl (lv_room (Nat.le_of_ble_eq_true rfl)) dX9_worth_2 ⟨Nat.le_of_ble_eq_true rfl, Nat.le_of_ble_eq_true rfl⟩) hA hO (fun H_3 locs_3 hO_3 => ?_)
  clear hO
  refine lv_aload_n hx hb dX9_worth_5 rfl (lv_at hl 0 rfl) ?_
  refine lv_iload_n hx hb dX9_worth_6 rfl (lv_at hl 1 rfl) ?_
  refine lv_iload_n hx hb dX9_worth_7 rfl (lv_at hl 2 rfl) ?_
  replace hf := zi_some hf
  obtain ⟨r_5, X_4, hc_4, hf⟩ := hf
  refine k_ai (va_runV (As := [.int a1, .int a2]) (rest := [.int r_2]) ⟨hx, hb, hml, hown, hts⟩ (mX9_isPoisoned l D L ac hL _ a1 a2 _ _ hc_4) (cwV 2 hts gX9_worth_X9_isPoisoned rfl rfl rfl (by decide +kernel) ⟨Nat.le_of_ble_eq_true rfl, Nat.le_of_ble_eq_true rfl⟩) (k_pv (j := 15) hK hN hO_3 (by decide) rfl rfl _) rfl rfl hl.1 rfl (lv_room (Nat.le_of_ble_eq_true rfl)) dX9_worth_8 ⟨Nat.le_of_ble_eq_true rfl, Nat.le_of_ble_eq_true rfl⟩) hA hO_3 (fun H_6 locs_6 hO_6 => ?_)
  clear hO_3
  refine lv_if_eq (tgt := 23) hx hb dX9_worth_11 (by decide) (fun c_7 => ?_) (fun c_7 => ?_)
  · rw [if_pos c_7] at hf
    subst c_7
    refine lv_aload_n hx hb dX9_worth_23 rfl (lv_at hl 0 rfl) ?_
    refine k_get (k := 9) (v := .ref (L 22)) hx hb hts in_X9_worth_X9 hown hK hO_6 (by decide) rfl rfl (by decide) lk_X9_worth_f29 rfl dX9_worth_24 ?_
    refine lv_iload_n hx hb dX9_worth_27 rfl (lv_at hl 1 rfl) ?_
    refine lv_iload_n hx hb dX9_worth_28 rfl (lv_at hl 2 rfl) ?_
    refine lv_iload_n hx hb dX9_worth_29 rfl (lv_at hl 3 rfl) ?_
    refine lv_iload hx hb dX9_worth_30 (lv_at hl 4 rfl) ?_
    replace hf := zi_some hf
    obtain ⟨r_9, X_8, hc_8, hf⟩ := hf
    refine k_ai (va_runS (As := [.int a1, .int a2, .int a3, .int a4]) (rest := [.ref (L 22), .int r_2]) ⟨hx, hb, hml, hown, hts⟩ (mX9_behind l D L ac hL _ a1 a2 a3 a4 _ _ hc_8) (va_cwS 4 hts gX9_worth_X9_behind rfl rfl rfl (by decide +kernel) ⟨Nat.le_of_ble_eq_true rfl, Nat.le_of_ble_eq_true rfl⟩) (k_ps hK hN hO_6 _) rfl rfl hl.1 rfl (lv_room (Nat.le_of_ble_eq_true rfl)) dX9_worth_32 ⟨Nat.le_of_ble_eq_true rfl, Nat.le_of_ble_eq_true rfl⟩) hA hO_6 (fun H_10 locs_10 hO_10 => ?_)
    clear hO_6
    replace hf := zd_some hf
    obtain ⟨hi_11, hf⟩ := hf
    refine k_iald hx hb hK hO_10 (by decide) (fun _ => rfl) hi_11 dX9_worth_35 ?_
    refine lv_isub hx hb dX9_worth_36 ?_
    obtain ⟨rfl, rfl⟩ := Prod.mk.inj (Option.some.inj hf)
    exact e_i hx hb hr hK hN hO_10 hlocks dX9_worth_37
  · rw [if_neg c_7] at hf
    refine lv_aload_n hx hb dX9_worth_14 rfl (lv_at hl 0 rfl) ?_
    refine k_get (k := 1) (v := .ref (L 16)) hx hb hts in_X9_worth_X9 hown hK hO_6 (by decide) rfl rfl (by decide) lk_X9_worth_f7 rfl dX9_worth_15 ?_
    refine lv_iconst (v := 1) hx hb dX9_worth_18 (by decide) ?_
    refine k_iald hx hb hK hO_6 (by decide) (fun _ => rfl) (show vp_in 1 27 from by unfold vp_in; decide) dX9_worth_19 ?_
    refine lv_tope (z := X_4 23 1) rfl ?_
    refine lv_goto (tgt := 36) hx hb dX9_worth_20 (by decide) ?_
    refine lv_isub hx hb dX9_worth_36 ?_
    obtain ⟨rfl, rfl⟩ := Prod.mk.inj (Option.some.inj hf)
    exact e_i hx hb hr hK hN hO_6 hlocks dX9_worth_37
theorem in_X9_wins_X9 : ∀ w ∈ u_ws RX9 TX9 16, w ∈ wsX9_wins := by decide +kernel
theorem lk_X9_wins_f32 : Cond.fieldLink RX9 32 "PoisonPilesModel" "isWon" "[Z" ∈ wsX9_wins := by decide +kernel
def fX9_wins  (a1 : Int32) (a2 : Int32) (a3 : Int32) (a4 : Int32) (X : XM) : Option (Int32 × XM) := zi (fX9_isPoisoned a1 a2 X) (fun r_2 X_1 => if r_2 = 0 then zi (fX9_behind a1 a2 a3 a4 X_1) (fun r_6 X_5 => zd r_6 23328 (if (X_5 30 (Int32.toNatClampNeg r_6)) = 0 then some (1, X_5) else some (0, X_5))) else some (0, X_1))
set_option maxHeartbeats 4000000 in
set_option maxRecDepth 100000 in
theorem mX9_wins (l : Launch) (D : va_G) (L : Nat → Nat) (ac : Nat → ClassId) (hL : LL L) (X : XM) (a1 : Int32) (a2 : Int32) (a3 : Int32) (a4 : Int32) (r0 : Int32) (X0 : XM) (hf : fX9_wins a1 a2 a3 a4 X = some (r0, X0)) : Ci l yX9_wins wsX9_wins ({ frames := 3, cells := 0, slots := 0, locals := 63 }) D L ac X [.ref (L 15), .int a1, .int a2, .int a3, .int a4] r0 X0 := by
  refine Met.ofK (cc := cX9_wins) (maxL := 5) (ret := (some .boolean)) (lv := [(0, .ref (L 15)), (1, .int a1), (2, .int a2), (3, .int a3), (4, .int a4)]) (by decide +kernel) rfl (Nat.le_of_ble_eq_true rfl) rfl ?_
  intro p e s m below meth c F hO ls hl
  obtain ⟨hx, hb, hr, hts, hown, hlocks, hml, hK, hN⟩ := id F
  have hA : ∀ q, fr L q → fr L q := fun q h => h
  unfold fX9_wins at hf
  refine lv_aload_n hx hb dX9_wins_0 rfl (lv_at hl 0 rfl) ?_
  refine lv_iload_n hx hb dX9_wins_1 rfl (lv_at hl 1 rfl) ?_
  refine lv_iload_n hx hb dX9_wins_2 rfl (lv_at hl 2 rfl) ?_
  replace hf := zi_some hf
  obtain ⟨r_2, X_1, hc_1, hf⟩ := hf
  refine k_ai (va_runV (As := [.int a1, .int a2]) (rest := []) ⟨hx, hb, hml, hown, hts⟩ (mX9_isPoisoned l D L ac hL _ a1 a2 _ _ hc_1) (cwV 2 hts gX9_wins_X9_isPoisoned rfl rfl rfl (by decide +kernel) ⟨Nat.le_of_ble_eq_true rfl, Nat.le_of_ble_eq_true rfl⟩) (k_pv (j := 15) hK hN hO (by decide) rfl rfl _) rfl rfl hl.1 rfl (lv_room (Nat.le_of_ble_eq_true rfl)) dX9_wins_3 ⟨Nat.le_of_ble_eq_true rfl, Nat.le_of_ble_eq_true rfl⟩) hA hO (fun H_3 locs_3 hO_3 => ?_)
  clear hO
  refine lv_if_ne (tgt := 29) hx hb dX9_wins_6 (by decide) (fun c_4 => ?_) (fun c_4 => ?_)
  · rw [if_neg c_4] at hf
    refine lv_iconst (v := 0) hx hb dX9_wins_29 (by decide) ?_
    obtain ⟨rfl, rfl⟩ := Prod.mk.inj (Option.some.inj hf)
    exact e_n hx hb hr (bo_n (by decide)) hK hN hO_3 hlocks dX9_wins_30
  · rw [if_pos c_4] at hf
    subst c_4
    refine lv_aload_n hx hb dX9_wins_9 rfl (lv_at hl 0 rfl) ?_
    refine k_get (k := 10) (v := .ref (L 23)) hx hb hts in_X9_wins_X9 hown hK hO_3 (by decide) rfl rfl (by decide) lk_X9_wins_f32 rfl dX9_wins_10 ?_
    refine lv_iload_n hx hb dX9_wins_13 rfl (lv_at hl 1 rfl) ?_
    refine lv_iload_n hx hb dX9_wins_14 rfl (lv_at hl 2 rfl) ?_
    refine lv_iload_n hx hb dX9_wins_15 rfl (lv_at hl 3 rfl) ?_
    refine lv_iload hx hb dX9_wins_16 (lv_at hl 4 rfl) ?_
    replace hf := zi_some hf
    obtain ⟨r_6, X_5, hc_5, hf⟩ := hf
    refine k_ai (va_runS (As := [.int a1, .int a2, .int a3, .int a4]) (rest := [.ref (L 23)]) ⟨hx, hb, hml, hown, hts⟩ (mX9_behind l D L ac hL _ a1 a2 a3 a4 _ _ hc_5) (va_cwS 4 hts gX9_wins_X9_behind rfl rfl rfl (by decide +kernel) ⟨Nat.le_of_ble_eq_true rfl, Nat.le_of_ble_eq_true rfl⟩) (k_ps hK hN hO_3 _) rfl rfl hl.1 rfl (lv_room (Nat.le_of_ble_eq_true rfl)) dX9_wins_18 ⟨Nat.le_of_ble_eq_true rfl, Nat.le_of_ble_eq_true rfl⟩) hA hO_3 (fun H_7 locs_7 hO_7 => ?_)
    clear hO_3
    replace hf := zd_some hf
    obtain ⟨hi_8, hf⟩ := hf
    refine k_zald hx hb hK hO_7 (by decide) (fun _ => rfl) hi_8 dX9_wins_21 ?_
    refine lv_if_ne (tgt := 29) hx hb dX9_wins_22 (by decide) (fun c_9 => ?_) (fun c_9 => ?_)
    · rw [if_neg c_9] at hf
      refine lv_iconst (v := 0) hx hb dX9_wins_29 (by decide) ?_
      obtain ⟨rfl, rfl⟩ := Prod.mk.inj (Option.some.inj hf)
      exact e_n hx hb hr (bo_n (by decide)) hK hN hO_7 hlocks dX9_wins_30
    · rw [if_pos c_9] at hf
      refine lv_iconst (v := 1) hx hb dX9_wins_25 (by decide) ?_
      refine lv_goto (tgt := 30) hx hb dX9_wins_26 (by decide) ?_
      obtain ⟨rfl, rfl⟩ := Prod.mk.inj (Option.some.inj hf)
      exact e_n hx hb hr (bo_n (by decide)) hK hN hO_7 hlocks dX9_wins_30
theorem in_X9_reckons_X9 : ∀ w ∈ u_ws RX9 TX9 16, w ∈ wsX9_reckons := by decide +kernel
theorem lk_X9_reckons_f29 : Cond.fieldLink RX9 29 "PoisonPilesModel" "values" "[I" ∈ wsX9_reckons := by decide +kernel
theorem lk_X9_reckons_f32 : Cond.fieldLink RX9 32 "PoisonPilesModel" "isWon" "[Z" ∈ wsX9_reckons := by decide +kernel
theorem lk_X9_reckons_f7 : Cond.fieldLink RX9 7 "PoisonPilesModel" "s" "[I" ∈ wsX9_reckons := by decide +kernel
def fX9_reckons_18   : Nat → Int32 → Int32 → Int32 → Int32 → Int32 → Int32 → Int32 → Int32 → XM → Option XM
  | 0, _, _, _, _, _, _, _, _, _ => none
  | n + 1, x1, x2, x3, x4, x5, x6, x7, x8, X => if 21 ≤ x8 then zi (fX9_game x1 x2 x3 x4 X) (fun r_3 X_2 => zd r_3 23328 (zl (xup X_2 29 (Int32.toNatClampNeg r_3) x5) (fun X_6 => zi (fX9_game x1 x2 x3 x4 X_6) (fun r_9 X_8 => zd r_9 23328 (zl (xup X_8 30 (Int32.toNatClampNeg r_9) (x7 &&& 1)) (fun X_12 => some X_12)))))) else zi (fX9_can x8 x1 x2 x4 X) (fun r_15 X_14 => if r_15 = 0 then fX9_reckons_18 n x1 x2 x3 x4 x5 x6 x7 (x8 + 1) X_14 else zi (fX9_worth x8 x1 x2 x3 X_14) (fun r_20 X_19 => if x6 = 0 then if r_20 ≤ x5 then if x7 = 0 then zi (fX9_wins x8 x1 x2 x3 X_19) (fun r_44 X_43 => if r_44 = 0 then fX9_reckons_18 n x1 x2 x3 x4 x5 0 0 (x8 + 1) X_43 else fX9_reckons_18 n x1 x2 x3 x4 x5 0 1 (x8 + 1) X_43) else fX9_reckons_18 n x1 x2 x3 x4 x5 0 1 (x8 + 1) X_19 else if x7 = 0 then zi (fX9_wins x8 x1 x2 x3 X_19) (fun r_57 X_56 => if r_57 = 0 then fX9_reckons_18 n x1 x2 x3 x4 r_20 0 0 (x8 + 1) X_56 else fX9_reckons_18 n x1 x2 x3 x4 r_20 0 1 (x8 + 1) X_56) else fX9_reckons_18 n x1 x2 x3 x4 r_20 0 1 (x8 + 1) X_19 else if x7 = 0 then zi (fX9_wins x8 x1 x2 x3 X_19) (fun r_30 X_29 => if r_30 = 0 then fX9_reckons_18 n x1 x2 x3 x4 r_20 0 0 (x8 + 1) X_29 else fX9_reckons_18 n x1 x2 x3 x4 r_20 0 1 (x8 + 1) X_29) else fX9_reckons_18 n x1 x2 x3 x4 r_20 0 1 (x8 + 1) X_19))
set_option maxHeartbeats 4000000 in
set_option maxRecDepth 100000 in
theorem wX9_reckons_18 {p : Program} {l : Launch} {e : Env} {s : State} {m : MethodId} {args : Array Value} {below : List Frame} {meth : Method} {c : Code} {D : va_G} {L : Nat → Nat} {ac : Nat → ClassId} {X0 : XM} (hL : LL L) (F : Fx p s m args meth c cX9_reckons 10 none wsX9_reckons yX9_reckons.cls D ac) : ∀ (n : Nat) (x1 : Int32) (x2 : Int32) (x3 : Int32) (x4 : Int32) (x5 : Int32) (x6 : Int32) (x7 : Int32) (x8 : Int32) (X : XM) (H : Heap) (locs : List Loc) (ls : Array Slot), Oh D L ac X (fr L) s.heap H locs → lv_has ls 10 [(0, .ref (L 15)), (1, .int x1), (2, .int x2), (3, .int x3), (4, .int x4), (5, .int x5), (6, .int x6), (7, .int x7), (8, .int x8)] → fX9_reckons_18 n x1 x2 x3 x4 x5 x6 x7 x8 X = some X0 → W p l e (headSpec wsX9_reckons ({ frames := 4, cells := 0, slots := 0, locals := 87 })).room s m args below meth c H locs 0 0 (MQ below (va_Qv (fun (Y : XM) => Y = X0) (fun (Y : XM) t => St D L ac Y t) (fr L)) args s 0 0 (fr L)) (F0 m 18 ls []) := by
  obtain ⟨hx, hb, hr, hts, hown, hlocks, hml, hK, hN⟩ := id F
  have hA : ∀ q, fr L q → fr L q := fun q h => h
  intro n
  induction n with
  | zero => intro x1 x2 x3 x4 x5 x6 x7 x8 X H locs ls hO hl hf; simp [fX9_reckons_18] at hf
  | succ n ih =>
    intro x1 x2 x3 x4 x5 x6 x7 x8 X H locs ls hO hl hf
    rw [fX9_reckons_18] at hf
    refine lv_iload hx hb dX9_reckons_18 (lv_at hl 8 rfl) ?_
    refine lv_bipush (v := 21) hx hb dX9_reckons_20 (by decide) ?_
    refine lv_icmp_ge (tgt := 103) hx hb dX9_reckons_22 (by decide) (fun c_1 => ?_) (fun c_1 => ?_)
    · rw [if_pos c_1] at hf
      refine lv_aload_n hx hb dX9_reckons_103 rfl (lv_at hl 0 rfl) ?_
      refine k_get (k := 9) (v := .ref (L 22)) hx hb hts in_X9_reckons_X9 hown hK hO (by decide) rfl rfl (by decide) lk_X9_reckons_f29 rfl dX9_reckons_104 ?_
      refine lv_iload_n hx hb dX9_reckons_107 rfl (lv_at hl 1 rfl) ?_
      refine lv_iload_n hx hb dX9_reckons_108 rfl (lv_at hl 2 rfl) ?_
      refine lv_iload_n hx hb dX9_reckons_109 rfl (lv_at hl 3 rfl) ?_
      refine lv_iload hx hb dX9_reckons_110 (lv_at hl 4 rfl) ?_
      replace hf := zi_some hf
      obtain ⟨r_3, X_2, hc_2, hf⟩ := hf
      refine k_ai (va_runS (As := [.int x1, .int x2, .int x3, .int x4]) (rest := [.ref (L 22)]) ⟨hx, hb, hml, hown, hts⟩ (mX9_game l D L ac hL _ x1 x2 x3 x4 _ _ hc_2) (va_cwS 4 hts gX9_reckons_X9_game rfl rfl rfl (by decide +kernel) ⟨Nat.le_of_ble_eq_true rfl, Nat.le_of_ble_eq_true rfl⟩) (k_ps hK hN hO _) rfl rfl hl.1 rfl (lv_room (Nat.le_of_ble_eq_true rfl)) dX9_reckons_112 ⟨Nat.le_of_ble_eq_true rfl, Nat.le_of_ble_eq_true rfl⟩) hA hO (fun H_4 locs_4 hO_4 => ?_)
      clear hO
      refine lv_iload hx hb dX9_reckons_115 (lv_at hl 5 rfl) ?_
      replace hf := zd_some hf
      obtain ⟨hi_5, hf⟩ := hf
      refine k_iast hx hb hK hL hA hO_4 (by decide) (by decide) rfl (fun _ => rfl) hi_5 dX9_reckons_117 (fun H_7 locs_7 hO_7 => ?_)
      replace hf := zl_some hf
      obtain ⟨X_6, hX_6, hf⟩ := hf
      have hQ_7 := zo_eq hX_6 hO_7
      clear hO_7 hO_4
      refine lv_aload_n hx hb dX9_reckons_118 rfl (lv_at hl 0 rfl) ?_
      refine k_get (k := 10) (v := .ref (L 23)) hx hb hts in_X9_reckons_X9 hown hK hQ_7 (by decide) rfl rfl (by decide) lk_X9_reckons_f32 rfl dX9_reckons_119 ?_
      refine lv_iload_n hx hb dX9_reckons_122 rfl (lv_at hl 1 rfl) ?_
      refine lv_iload_n hx hb dX9_reckons_123 rfl (lv_at hl 2 rfl) ?_
      refine lv_iload_n hx hb dX9_reckons_124 rfl (lv_at hl 3 rfl) ?_
      refine lv_iload hx hb dX9_reckons_125 (lv_at hl 4 rfl) ?_
      replace hf := zi_some hf
      obtain ⟨r_9, X_8, hc_8, hf⟩ := hf
      refine k_ai (va_runS (As := [.int x1, .int x2, .int x3, .int x4]) (rest := [.ref (L 23)]) ⟨hx, hb, hml, hown, hts⟩ (mX9_game l D L ac hL _ x1 x2 x3 x4 _ _ hc_8) (va_cwS 4 hts gX9_reckons_X9_game rfl rfl rfl (by decide +kernel) ⟨Nat.le_of_ble_eq_true rfl, Nat.le_of_ble_eq_true rfl⟩) (k_ps hK hN hQ_7 _) rfl rfl hl.1 rfl (lv_room (Nat.le_of_ble_eq_true rfl)) dX9_reckons_127 ⟨Nat.le_of_ble_eq_true rfl, Nat.le_of_ble_eq_true rfl⟩) hA hQ_7 (fun H_10 locs_10 hO_10 => ?_)
      clear hQ_7
      refine lv_iload hx hb dX9_reckons_130 (lv_at hl 7 rfl) ?_
      replace hf := zd_some hf
      obtain ⟨hi_11, hf⟩ := hf
      refine k_zast hx hb hK hL hA hO_10 (by decide) (by decide) rfl (fun _ => rfl) hi_11 dX9_reckons_132 (fun H_13 locs_13 hO_13 => ?_)
      replace hf := zl_some hf
      obtain ⟨X_12, hX_12, hf⟩ := hf
      have hQ_13 := zo_eq hX_12 hO_13
      clear hO_13 hO_10
      obtain rfl := Option.some.inj hf
      exact e_v hx hb hr hK hN hQ_13 hlocks dX9_reckons_133
    · rw [if_neg c_1] at hf
      refine lv_aload_n hx hb dX9_reckons_25 rfl (lv_at hl 0 rfl) ?_
      refine lv_iload hx hb dX9_reckons_26 (lv_at hl 8 rfl) ?_
      refine lv_iload_n hx hb dX9_reckons_28 rfl (lv_at hl 1 rfl) ?_
      refine lv_iload_n hx hb dX9_reckons_29 rfl (lv_at hl 2 rfl) ?_
      refine lv_iload hx hb dX9_reckons_30 (lv_at hl 4 rfl) ?_
      replace hf := zi_some hf
      obtain ⟨r_15, X_14, hc_14, hf⟩ := hf
      refine k_ai (va_runV (As := [.int x8, .int x1, .int x2, .int x4]) (rest := []) ⟨hx, hb, hml, hown, hts⟩ (mX9_can l D L ac hL _ x8 x1 x2 x4 _ _ hc_14) (cwV 4 hts gX9_reckons_X9_can rfl rfl rfl (by decide +kernel) ⟨Nat.le_of_ble_eq_true rfl, Nat.le_of_ble_eq_true rfl⟩) (k_pv (j := 15) hK hN hO (by decide) rfl rfl _) rfl rfl hl.1 rfl (lv_room (Nat.le_of_ble_eq_true rfl)) dX9_reckons_32 ⟨Nat.le_of_ble_eq_true rfl, Nat.le_of_ble_eq_true rfl⟩) hA hO (fun H_16 locs_16 hO_16 => ?_)
      clear hO
      refine lv_if_eq (tgt := 97) hx hb dX9_reckons_35 (by decide) (fun c_17 => ?_) (fun c_17 => ?_)
      · rw [if_pos c_17] at hf
        subst c_17
        refine lv_iinc (v := x8 + 1) (lv' := [(8, .int (x8 + 1)), (0, .ref (L 15)), (1, .int x1), (2, .int x2), (3, .int x3), (4, .int x4), (5, .int x5), (6, .int x6), (7, .int x7)]) hx hb dX9_reckons_97 hl (k := 8) rfl rfl (by decide) rfl (fun ls_18 hl_18 => ?_)
        clear hl
        refine lv_goto (tgt := 18) hx hb dX9_reckons_100 (by decide) ?_
        exact ih _ _ _ _ _ _ _ _ _  _ _ _ hO_16 (lv_sub hl_18 [1, 2, 3, 4, 5, 6, 7, 8, 0] rfl) hf
      · rw [if_neg c_17] at hf
        refine lv_aload_n hx hb dX9_reckons_38 rfl (lv_at hl 0 rfl) ?_
        refine lv_iload hx hb dX9_reckons_39 (lv_at hl 8 rfl) ?_
        refine lv_iload_n hx hb dX9_reckons_41 rfl (lv_at hl 1 rfl) ?_
        refine lv_iload_n hx hb dX9_reckons_42 rfl (lv_at hl 2 rfl) ?_
        refine lv_iload_n hx hb dX9_reckons_43 rfl (lv_at hl 3 rfl) ?_
        replace hf := zi_some hf
        obtain ⟨r_20, X_19, hc_19, hf⟩ := hf
        refine k_ai (va_runV (As := [.int x8, .int x1, .int x2, .int x3]) (rest := []) ⟨hx, hb, hml, hown, hts⟩ (mX9_worth l D L ac hL _ x8 x1 x2 x3 _ _ hc_19) (cwV 4 hts gX9_reckons_X9_worth rfl rfl rfl (by decide +kernel) ⟨Nat.le_of_ble_eq_true rfl, Nat.le_of_ble_eq_true rfl⟩) (k_pv (j := 15) hK hN hO_16 (by decide) rfl rfl _) rfl rfl hl.1 rfl (lv_room (Nat.le_of_ble_eq_true rfl)) dX9_reckons_44 ⟨Nat.le_of_ble_eq_true rfl, Nat.le_of_ble_eq_true rfl⟩) hA hO_16 (fun H_21 locs_21 hO_21 => ?_)
        clear hO_16
        refine lv_istore (lv' := [(9, .int r_20), (0, .ref (L 15)), (1, .int x1), (2, .int x2), (3, .int x3), (4, .int x4), (5, .int x5), (6, .int x6), (7, .int x7), (8, .int x8)]) hx hb dX9_reckons_47 hl (by decide) rfl (fun ls_22 hl_22 => ?_)
        clear hl
        refine lv_iload hx hb dX9_reckons_49 (lv_at hl_22 7 rfl) ?_
        refine lv_if_ne (tgt := 61) hx hb dX9_reckons_51 (by decide) (fun c_23 => ?_) (fun c_23 => ?_)
        · rw [if_neg c_23] at hf
          refine lv_iload hx hb dX9_reckons_61 (lv_at hl_22 0 rfl) ?_
          refine lv_goto (tgt := 68) hx hb dX9_reckons_63 (by decide) ?_
          refine lv_istore (lv' := [(5, .int r_20), (9, .int r_20), (0, .ref (L 15)), (1, .int x1), (2, .int x2), (3, .int x3), (4, .int x4), (6, .int x6), (7, .int x7), (8, .int x8)]) hx hb dX9_reckons_68 hl_22 (by decide) rfl (fun ls_24 hl_24 => ?_)
          clear hl_22
          refine lv_iconst (v := 0) hx hb dX9_reckons_70 (by decide) ?_
          refine lv_istore (lv' := [(6, .int 0), (5, .int r_20), (9, .int r_20), (0, .ref (L 15)), (1, .int x1), (2, .int x2), (3, .int x3), (4, .int x4), (7, .int x7), (8, .int x8)]) hx hb dX9_reckons_71 hl_24 (by decide) rfl (fun ls_25 hl_25 => ?_)
          clear hl_24
          refine lv_iload hx hb dX9_reckons_73 (lv_at hl_25 8 rfl) ?_
          refine lv_if_ne (tgt := 90) hx hb dX9_reckons_75 (by decide) (fun c_26 => ?_) (fun c_26 => ?_)
          · rw [if_neg c_26] at hf
            refine lv_iconst (v := 1) hx hb dX9_reckons_90 (by decide) ?_
            refine lv_goto (tgt := 95) hx hb dX9_reckons_91 (by decide) ?_
            refine lv_istore (lv' := [(7, .int 1), (6, .int 0), (5, .int r_20), (9, .int r_20), (0, .ref (L 15)), (1, .int x1), (2, .int x2), (3, .int x3), (4, .int x4), (8, .int x8)]) hx hb dX9_reckons_95 hl_25 (by decide) rfl (fun ls_27 hl_27 => ?_)
            clear hl_25
            refine lv_iinc (v := x8 + 1) (lv' := [(8, .int (x8 + 1)), (7, .int 1), (6, .int 0), (5, .int r_20), (9, .int r_20), (0, .ref (L 15)), (1, .int x1), (2, .int x2), (3, .int x3), (4, .int x4)]) hx hb dX9_reckons_97 hl_27 (k := 9) rfl rfl (by decide) rfl (fun ls_28 hl_28 => ?_)
            clear hl_27
            refine lv_goto (tgt := 18) hx hb dX9_reckons_100 (by decide) ?_
            exact ih _ _ _ _ _ _ _ _ _  _ _ _ hO_21 (lv_sub hl_28 [5, 6, 7, 8, 9, 3, 2, 1, 0] rfl) hf
          · rw [if_pos c_26] at hf
            subst c_26
            refine lv_aload_n hx hb dX9_reckons_78 rfl (lv_at hl_25 3 rfl) ?_
            refine lv_iload hx hb dX9_reckons_79 (lv_at hl_25 9 rfl) ?_
            refine lv_iload_n hx hb dX9_reckons_81 rfl (lv_at hl_25 4 rfl) ?_
            refine lv_iload_n hx hb dX9_reckons_82 rfl (lv_at hl_25 5 rfl) ?_
            refine lv_iload_n hx hb dX9_reckons_83 rfl (lv_at hl_25 6 rfl) ?_
            replace hf := zi_some hf
            obtain ⟨r_30, X_29, hc_29, hf⟩ := hf
            refine k_ai (va_runV (As := [.int x8, .int x1, .int x2, .int x3]) (rest := []) ⟨hx, hb, hml, hown, hts⟩ (mX9_wins l D L ac hL _ x8 x1 x2 x3 _ _ hc_29) (cwV 4 hts gX9_reckons_X9_wins rfl rfl rfl (by decide +kernel) ⟨Nat.le_of_ble_eq_true rfl, Nat.le_of_ble_eq_true rfl⟩) (k_pv (j := 15) hK hN hO_21 (by decide) rfl rfl _) rfl rfl hl_25.1 rfl (lv_room (Nat.le_of_ble_eq_true rfl)) dX9_reckons_84 ⟨Nat.le_of_ble_eq_true rfl, Nat.le_of_ble_eq_true rfl⟩) hA hO_21 (fun H_31 locs_31 hO_31 => ?_)
            clear hO_21
            refine lv_if_eq (tgt := 94) hx hb dX9_reckons_87 (by decide) (fun c_32 => ?_) (fun c_32 => ?_)
            · rw [if_pos c_32] at hf
              subst c_32
              refine lv_iconst (v := 0) hx hb dX9_reckons_94 (by decide) ?_
              refine lv_istore (lv' := [(7, .int 0), (6, .int 0), (5, .int r_20), (9, .int r_20), (0, .ref (L 15)), (1, .int x1), (2, .int x2), (3, .int x3), (4, .int x4), (8, .int x8)]) hx hb dX9_reckons_95 hl_25 (by decide) rfl (fun ls_33 hl_33 => ?_)
              clear hl_25
              refine lv_iinc (v := x8 + 1) (lv' := [(8, .int (x8 + 1)), (7, .int 0), (6, .int 0), (5, .int r_20), (9, .int r_20), (0, .ref (L 15)), (1, .int x1), (2, .int x2), (3, .int x3), (4, .int x4)]) hx hb dX9_reckons_97 hl_33 (k := 9) rfl rfl (by decide) rfl (fun ls_34 hl_34 => ?_)
              clear hl_33
              refine lv_goto (tgt := 18) hx hb dX9_reckons_100 (by decide) ?_
              exact ih _ _ _ _ _ _ _ _ _  _ _ _ hO_31 (lv_sub hl_34 [5, 6, 7, 8, 9, 3, 2, 1, 0] rfl) hf
            · rw [if_neg c_32] at hf
              refine lv_iconst (v := 1) hx hb dX9_reckons_90 (by decide) ?_
              refine lv_goto (tgt := 95) hx hb dX9_reckons_91 (by decide) ?_
              refine lv_istore (lv' := [(7, .int 1), (6, .int 0), (5, .int r_20), (9, .int r_20), (0, .ref (L 15)), (1, .int x1), (2, .int x2), (3, .int x3), (4, .int x4), (8, .int x8)]) hx hb dX9_reckons_95 hl_25 (by decide) rfl (fun ls_35 hl_35 => ?_)
              clear hl_25
              refine lv_iinc (v := x8 + 1) (lv' := [(8, .int (x8 + 1)), (7, .int 1), (6, .int 0), (5, .int r_20), (9, .int r_20), (0, .ref (L 15)), (1, .int x1), (2, .int x2), (3, .int x3), (4, .int x4)]) hx hb dX9_reckons_97 hl_35 (k := 9) rfl rfl (by decide) rfl (fun ls_36 hl_36 => ?_)
              clear hl_35
              refine lv_goto (tgt := 18) hx hb dX9_reckons_100 (by decide) ?_
              exact ih _ _ _ _ _ _ _ _ _  _ _ _ hO_31 (lv_sub hl_36 [5, 6, 7, 8, 9, 3, 2, 1, 0] rfl) hf
        · rw [if_pos c_23] at hf
          subst c_23
          refine lv_iload hx hb dX9_reckons_54 (lv_at hl_22 0 rfl) ?_
          refine lv_iload hx hb dX9_reckons_56 (lv_at hl_22 6 rfl) ?_
          refine lv_icmp_le (tgt := 66) hx hb dX9_reckons_58 (by decide) (fun c_37 => ?_) (fun c_37 => ?_)
          · rw [if_pos c_37] at hf
            refine lv_iload hx hb dX9_reckons_66 (lv_at hl_22 6 rfl) ?_
            refine lv_istore (lv' := [(5, .int x5), (9, .int r_20), (0, .ref (L 15)), (1, .int x1), (2, .int x2), (3, .int x3), (4, .int x4), (6, .int 0), (7, .int x7), (8, .int x8)]) hx hb dX9_reckons_68 hl_22 (by decide) rfl (fun ls_38 hl_38 => ?_)
            clear hl_22
            refine lv_iconst (v := 0) hx hb dX9_reckons_70 (by decide) ?_
            refine lv_istore (lv' := [(6, .int 0), (5, .int x5), (9, .int r_20), (0, .ref (L 15)), (1, .int x1), (2, .int x2), (3, .int x3), (4, .int x4), (7, .int x7), (8, .int x8)]) hx hb dX9_reckons_71 hl_38 (by decide) rfl (fun ls_39 hl_39 => ?_)
            clear hl_38
            refine lv_iload hx hb dX9_reckons_73 (lv_at hl_39 8 rfl) ?_
            refine lv_if_ne (tgt := 90) hx hb dX9_reckons_75 (by decide) (fun c_40 => ?_) (fun c_40 => ?_)
            · rw [if_neg c_40] at hf
              refine lv_iconst (v := 1) hx hb dX9_reckons_90 (by decide) ?_
              refine lv_goto (tgt := 95) hx hb dX9_reckons_91 (by decide) ?_
              refine lv_istore (lv' := [(7, .int 1), (6, .int 0), (5, .int x5), (9, .int r_20), (0, .ref (L 15)), (1, .int x1), (2, .int x2), (3, .int x3), (4, .int x4), (8, .int x8)]) hx hb dX9_reckons_95 hl_39 (by decide) rfl (fun ls_41 hl_41 => ?_)
              clear hl_39
              refine lv_iinc (v := x8 + 1) (lv' := [(8, .int (x8 + 1)), (7, .int 1), (6, .int 0), (5, .int x5), (9, .int r_20), (0, .ref (L 15)), (1, .int x1), (2, .int x2), (3, .int x3), (4, .int x4)]) hx hb dX9_reckons_97 hl_41 (k := 9) rfl rfl (by decide) rfl (fun ls_42 hl_42 => ?_)
              clear hl_41
              refine lv_goto (tgt := 18) hx hb dX9_reckons_100 (by decide) ?_
              exact ih _ _ _ _ _ _ _ _ _  _ _ _ hO_21 (lv_sub hl_42 [5, 6, 7, 8, 9, 3, 2, 1, 0] rfl) hf
            · rw [if_pos c_40] at hf
              subst c_40
              refine lv_aload_n hx hb dX9_reckons_78 rfl (lv_at hl_39 3 rfl) ?_
              refine lv_iload hx hb dX9_reckons_79 (lv_at hl_39 9 rfl) ?_
              refine lv_iload_n hx hb dX9_reckons_81 rfl (lv_at hl_39 4 rfl) ?_
              refine lv_iload_n hx hb dX9_reckons_82 rfl (lv_at hl_39 5 rfl) ?_
              refine lv_iload_n hx hb dX9_reckons_83 rfl (lv_at hl_39 6 rfl) ?_
              replace hf := zi_some hf
              obtain ⟨r_44, X_43, hc_43, hf⟩ := hf
              refine k_ai (va_runV (As := [.int x8, .int x1, .int x2, .int x3]) (rest := []) ⟨hx, hb, hml, hown, hts⟩ (mX9_wins l D L ac hL _ x8 x1 x2 x3 _ _ hc_43) (cwV 4 hts gX9_reckons_X9_wins rfl rfl rfl (by decide +kernel) ⟨Nat.le_of_ble_eq_true rfl, Nat.le_of_ble_eq_true rfl⟩) (k_pv (j := 15) hK hN hO_21 (by decide) rfl rfl _) rfl rfl hl_39.1 rfl (lv_room (Nat.le_of_ble_eq_true rfl)) dX9_reckons_84 ⟨Nat.le_of_ble_eq_true rfl, Nat.le_of_ble_eq_true rfl⟩) hA hO_21 (fun H_45 locs_45 hO_45 => ?_)
              clear hO_21
              refine lv_if_eq (tgt := 94) hx hb dX9_reckons_87 (by decide) (fun c_46 => ?_) (fun c_46 => ?_)
              · rw [if_pos c_46] at hf
                subst c_46
                refine lv_iconst (v := 0) hx hb dX9_reckons_94 (by decide) ?_
                refine lv_istore (lv' := [(7, .int 0), (6, .int 0), (5, .int x5), (9, .int r_20), (0, .ref (L 15)), (1, .int x1), (2, .int x2), (3, .int x3), (4, .int x4), (8, .int x8)]) hx hb dX9_reckons_95 hl_39 (by decide) rfl (fun ls_47 hl_47 => ?_)
                clear hl_39
                refine lv_iinc (v := x8 + 1) (lv' := [(8, .int (x8 + 1)), (7, .int 0), (6, .int 0), (5, .int x5), (9, .int r_20), (0, .ref (L 15)), (1, .int x1), (2, .int x2), (3, .int x3), (4, .int x4)]) hx hb dX9_reckons_97 hl_47 (k := 9) rfl rfl (by decide) rfl (fun ls_48 hl_48 => ?_)
                clear hl_47
                refine lv_goto (tgt := 18) hx hb dX9_reckons_100 (by decide) ?_
                exact ih _ _ _ _ _ _ _ _ _  _ _ _ hO_45 (lv_sub hl_48 [5, 6, 7, 8, 9, 3, 2, 1, 0] rfl) hf
              · rw [if_neg c_46] at hf
                refine lv_iconst (v := 1) hx hb dX9_reckons_90 (by decide) ?_
                refine lv_goto (tgt := 95) hx hb dX9_reckons_91 (by decide) ?_
                refine lv_istore (lv' := [(7, .int 1), (6, .int 0), (5, .int x5), (9, .int r_20), (0, .ref (L 15)), (1, .int x1), (2, .int x2), (3, .int x3), (4, .int x4), (8, .int x8)]) hx hb dX9_reckons_95 hl_39 (by decide) rfl (fun ls_49 hl_49 => ?_)
                clear hl_39
                refine lv_iinc (v := x8 + 1) (lv' := [(8, .int (x8 + 1)), (7, .int 1), (6, .int 0), (5, .int x5), (9, .int r_20), (0, .ref (L 15)), (1, .int x1), (2, .int x2), (3, .int x3), (4, .int x4)]) hx hb dX9_reckons_97 hl_49 (k := 9) rfl rfl (by decide) rfl (fun ls_50 hl_50 => ?_)
                clear hl_49
                refine lv_goto (tgt := 18) hx hb dX9_reckons_100 (by decide) ?_
                exact ih _ _ _ _ _ _ _ _ _  _ _ _ hO_45 (lv_sub hl_50 [5, 6, 7, 8, 9, 3, 2, 1, 0] rfl) hf
          · rw [if_neg c_37] at hf
            refine lv_iload hx hb dX9_reckons_61 (lv_at hl_22 0 rfl) ?_
            refine lv_goto (tgt := 68) hx hb dX9_reckons_63 (by decide) ?_
            refine lv_istore (lv' := [(5, .int r_20), (9, .int r_20), (0, .ref (L 15)), (1, .int x1), (2, .int x2), (3, .int x3), (4, .int x4), (6, .int 0), (7, .int x7), (8, .int x8)]) hx hb dX9_reckons_68 hl_22 (by decide) rfl (fun ls_51 hl_51 => ?_)
            clear hl_22
            refine lv_iconst (v := 0) hx hb dX9_reckons_70 (by decide) ?_
            refine lv_istore (lv' := [(6, .int 0), (5, .int r_20), (9, .int r_20), (0, .ref (L 15)), (1, .int x1), (2, .int x2), (3, .int x3), (4, .int x4), (7, .int x7), (8, .int x8)]) hx hb dX9_reckons_71 hl_51 (by decide) rfl (fun ls_52 hl_52 => ?_)
            clear hl_51
            refine lv_iload hx hb dX9_reckons_73 (lv_at hl_52 8 rfl) ?_
            refine lv_if_ne (tgt := 90) hx hb dX9_reckons_75 (by decide) (fun c_53 => ?_) (fun c_53 => ?_)
            · rw [if_neg c_53] at hf
              refine lv_iconst (v := 1) hx hb dX9_reckons_90 (by decide) ?_
              refine lv_goto (tgt := 95) hx hb dX9_reckons_91 (by decide) ?_
              refine lv_istore (lv' := [(7, .int 1), (6, .int 0), (5, .int r_20), (9, .int r_20), (0, .ref (L 15)), (1, .int x1), (2, .int x2), (3, .int x3), (4, .int x4), (8, .int x8)]) hx hb dX9_reckons_95 hl_52 (by decide) rfl (fun ls_54 hl_54 => ?_)
              clear hl_52
              refine lv_iinc (v := x8 + 1) (lv' := [(8, .int (x8 + 1)), (7, .int 1), (6, .int 0), (5, .int r_20), (9, .int r_20), (0, .ref (L 15)), (1, .int x1), (2, .int x2), (3, .int x3), (4, .int x4)]) hx hb dX9_reckons_97 hl_54 (k := 9) rfl rfl (by decide) rfl (fun ls_55 hl_55 => ?_)
              clear hl_54
              refine lv_goto (tgt := 18) hx hb dX9_reckons_100 (by decide) ?_
              exact ih _ _ _ _ _ _ _ _ _  _ _ _ hO_21 (lv_sub hl_55 [5, 6, 7, 8, 9, 3, 2, 1, 0] rfl) hf
            · rw [if_pos c_53] at hf
              subst c_53
              refine lv_aload_n hx hb dX9_reckons_78 rfl (lv_at hl_52 3 rfl) ?_
              refine lv_iload hx hb dX9_reckons_79 (lv_at hl_52 9 rfl) ?_
              refine lv_iload_n hx hb dX9_reckons_81 rfl (lv_at hl_52 4 rfl) ?_
              refine lv_iload_n hx hb dX9_reckons_82 rfl (lv_at hl_52 5 rfl) ?_
              refine lv_iload_n hx hb dX9_reckons_83 rfl (lv_at hl_52 6 rfl) ?_
              replace hf := zi_some hf
              obtain ⟨r_57, X_56, hc_56, hf⟩ := hf
              refine k_ai (va_runV (As := [.int x8, .int x1, .int x2, .int x3]) (rest := []) ⟨hx, hb, hml, hown, hts⟩ (mX9_wins l D L ac hL _ x8 x1 x2 x3 _ _ hc_56) (cwV 4 hts gX9_reckons_X9_wins rfl rfl rfl (by decide +kernel) ⟨Nat.le_of_ble_eq_true rfl, Nat.le_of_ble_eq_true rfl⟩) (k_pv (j := 15) hK hN hO_21 (by decide) rfl rfl _) rfl rfl hl_52.1 rfl (lv_room (Nat.le_of_ble_eq_true rfl)) dX9_reckons_84 ⟨Nat.le_of_ble_eq_true rfl, Nat.le_of_ble_eq_true rfl⟩) hA hO_21 (fun H_58 locs_58 hO_58 => ?_)
              clear hO_21
              refine lv_if_eq (tgt := 94) hx hb dX9_reckons_87 (by decide) (fun c_59 => ?_) (fun c_59 => ?_)
              · rw [if_pos c_59] at hf
                subst c_59
                refine lv_iconst (v := 0) hx hb dX9_reckons_94 (by decide) ?_
                refine lv_istore (lv' := [(7, .int 0), (6, .int 0), (5, .int r_20), (9, .int r_20), (0, .ref (L 15)), (1, .int x1), (2, .int x2), (3, .int x3), (4, .int x4), (8, .int x8)]) hx hb dX9_reckons_95 hl_52 (by decide) rfl (fun ls_60 hl_60 => ?_)
                clear hl_52
                refine lv_iinc (v := x8 + 1) (lv' := [(8, .int (x8 + 1)), (7, .int 0), (6, .int 0), (5, .int r_20), (9, .int r_20), (0, .ref (L 15)), (1, .int x1), (2, .int x2), (3, .int x3), (4, .int x4)]) hx hb dX9_reckons_97 hl_60 (k := 9) rfl rfl (by decide) rfl (fun ls_61 hl_61 => ?_)
                clear hl_60
                refine lv_goto (tgt := 18) hx hb dX9_reckons_100 (by decide) ?_
                exact ih _ _ _ _ _ _ _ _ _  _ _ _ hO_58 (lv_sub hl_61 [5, 6, 7, 8, 9, 3, 2, 1, 0] rfl) hf
              · rw [if_neg c_59] at hf
                refine lv_iconst (v := 1) hx hb dX9_reckons_90 (by decide) ?_
                refine lv_goto (tgt := 95) hx hb dX9_reckons_91 (by decide) ?_
                refine lv_istore (lv' := [(7, .int 1), (6, .int 0), (5, .int r_20), (9, .int r_20), (0, .ref (L 15)), (1, .int x1), (2, .int x2), (3, .int x3), (4, .int x4), (8, .int x8)]) hx hb dX9_reckons_95 hl_52 (by decide) rfl (fun ls_62 hl_62 => ?_)
                clear hl_52
                refine lv_iinc (v := x8 + 1) (lv' := [(8, .int (x8 + 1)), (7, .int 1), (6, .int 0), (5, .int r_20), (9, .int r_20), (0, .ref (L 15)), (1, .int x1), (2, .int x2), (3, .int x3), (4, .int x4)]) hx hb dX9_reckons_97 hl_62 (k := 9) rfl rfl (by decide) rfl (fun ls_63 hl_63 => ?_)
                clear hl_62
                refine lv_goto (tgt := 18) hx hb dX9_reckons_100 (by decide) ?_
                exact ih _ _ _ _ _ _ _ _ _  _ _ _ hO_58 (lv_sub hl_63 [5, 6, 7, 8, 9, 3, 2, 1, 0] rfl) hf
def fX9_reckons  (a1 : Int32) (a2 : Int32) (a3 : Int32) (a4 : Int32) (X : XM) : Option XM := zl (-(X 23 1)) (fun v_64 => fX9_reckons_18 fuel a1 a2 a3 a4 v_64 1 0 0 X)
set_option maxHeartbeats 4000000 in
set_option maxRecDepth 100000 in
theorem mX9_reckons (l : Launch) (D : va_G) (L : Nat → Nat) (ac : Nat → ClassId) (hL : LL L) (X : XM) (a1 : Int32) (a2 : Int32) (a3 : Int32) (a4 : Int32) (X0 : XM) (hf : fX9_reckons a1 a2 a3 a4 X = some X0) : Cv l yX9_reckons wsX9_reckons ({ frames := 4, cells := 0, slots := 0, locals := 87 }) D L ac X [.ref (L 15), .int a1, .int a2, .int a3, .int a4] X0 := by
  refine Met.ofK (cc := cX9_reckons) (maxL := 10) (ret := none) (lv := [(0, .ref (L 15)), (1, .int a1), (2, .int a2), (3, .int a3), (4, .int a4)]) (by decide +kernel) rfl (Nat.le_of_ble_eq_true rfl) rfl ?_
  intro p e s m below meth c F hO ls hl
  obtain ⟨hx, hb, hr, hts, hown, hlocks, hml, hK, hN⟩ := id F
  have hA : ∀ q, fr L q → fr L q := fun q h => h
  unfold fX9_reckons at hf
  refine lv_aload_n hx hb dX9_reckons_0 rfl (lv_at hl 0 rfl) ?_
  refine k_get (k := 1) (v := .ref (L 16)) hx hb hts in_X9_reckons_X9 hown hK hO (by decide) rfl rfl (by decide) lk_X9_reckons_f7 rfl dX9_reckons_1 ?_
  refine lv_iconst (v := 1) hx hb dX9_reckons_4 (by decide) ?_
  refine k_iald hx hb hK hO (by decide) (fun _ => rfl) (show vp_in 1 27 from by unfold vp_in; decide) dX9_reckons_5 ?_
  refine lv_tope (z := X 23 1) rfl ?_
  refine lv_ineg hx hb dX9_reckons_6 ?_
  replace hf := zl_some hf
  obtain ⟨v_64, hv_64, hf⟩ := hf
  refine lv_tope hv_64 ?_
  refine lv_istore (lv' := [(5, .int v_64), (0, .ref (L 15)), (1, .int a1), (2, .int a2), (3, .int a3), (4, .int a4)]) hx hb dX9_reckons_7 hl (by decide) rfl (fun ls_65 hl_65 => ?_)
  clear hl
  refine lv_iconst (v := 1) hx hb dX9_reckons_9 (by decide) ?_
  refine lv_istore (lv' := [(6, .int 1), (5, .int v_64), (0, .ref (L 15)), (1, .int a1), (2, .int a2), (3, .int a3), (4, .int a4)]) hx hb dX9_reckons_10 hl_65 (by decide) rfl (fun ls_66 hl_66 => ?_)
  clear hl_65
  refine lv_iconst (v := 0) hx hb dX9_reckons_12 (by decide) ?_
  refine lv_istore (lv' := [(7, .int 0), (6, .int 1), (5, .int v_64), (0, .ref (L 15)), (1, .int a1), (2, .int a2), (3, .int a3), (4, .int a4)]) hx hb dX9_reckons_13 hl_66 (by decide) rfl (fun ls_67 hl_67 => ?_)
  clear hl_66
  refine lv_iconst (v := 0) hx hb dX9_reckons_15 (by decide) ?_
  refine lv_istore (lv' := [(8, .int 0), (7, .int 0), (6, .int 1), (5, .int v_64), (0, .ref (L 15)), (1, .int a1), (2, .int a2), (3, .int a3), (4, .int a4)]) hx hb dX9_reckons_16 hl_67 (by decide) rfl (fun ls_68 hl_68 => ?_)
  clear hl_67
  exact wX9_reckons_18 hL F  fuel _ _ _ _ _ _ _ _ _  _ _ _ hO (lv_sub hl_68 [4, 5, 6, 7, 8, 3, 2, 1, 0] rfl) hf
def fX9_isBelow  (a1 : Int32) (X : XM) : Option (Int32 × XM) := zi (fX9_tokensIn a1 0 X) (fun r_6 X_5 => zi (fX9_of 0 0 X_5) (fun r_9 X_8 => if r_9 < r_6 then some (0, X_8) else zi (fX9_tokensIn a1 1 X_8) (fun r_32 X_31 => zi (fX9_of 1 0 X_31) (fun r_35 X_34 => if r_35 < r_32 then some (0, X_34) else zi (fX9_tokensIn a1 2 X_34) (fun r_54 X_53 => zi (fX9_of 2 0 X_53) (fun r_57 X_56 => if r_57 < r_54 then some (0, X_56) else zi (fX9_tokensIn a1 3 X_56) (fun r_72 X_71 => zi (fX9_of 3 0 X_71) (fun r_75 X_74 => if r_75 < r_72 then some (0, X_74) else some (1, X_74)))))))))
set_option maxHeartbeats 4000000 in
set_option maxRecDepth 100000 in
theorem mX9_isBelow (l : Launch) (D : va_G) (L : Nat → Nat) (ac : Nat → ClassId) (hL : LL L) (X : XM) (a1 : Int32) (r0 : Int32) (X0 : XM) (hf : fX9_isBelow a1 X = some (r0, X0)) : Ci l yX9_isBelow wsX9_isBelow ({ frames := 2, cells := 0, slots := 0, locals := 41 }) D L ac X [.ref (L 15), .int a1] r0 X0 := by
  refine Met.ofK (cc := cX9_isBelow) (maxL := 4) (ret := (some .boolean)) (lv := [(0, .ref (L 15)), (1, .int a1)]) (by decide +kernel) rfl (Nat.le_of_ble_eq_true rfl) rfl ?_
  intro p e s m below meth c F hO ls hl
  obtain ⟨hx, hb, hr, hts, hown, hlocks, hml, hK, hN⟩ := id F
  have hA : ∀ q, fr L q → fr L q := fun q h => h
  unfold fX9_isBelow at hf
  refine lv_iconst (v := 1) hx hb dX9_isBelow_0 (by decide) ?_
  refine lv_istore_n (lv' := [(2, .int 1), (0, .ref (L 15)), (1, .int a1)]) hx hb dX9_isBelow_1 rfl hl (by decide) rfl (fun ls_1 hl_1 => ?_)
  clear hl
  refine lv_iconst (v := 0) hx hb dX9_isBelow_2 (by decide) ?_
  refine lv_istore_n (lv' := [(3, .int 0), (2, .int 1), (0, .ref (L 15)), (1, .int a1)]) hx hb dX9_isBelow_3 rfl hl_1 (by decide) rfl (fun ls_2 hl_2 => ?_)
  clear hl_1
  refine lv_iload_n hx hb dX9_isBelow_4 rfl (lv_at hl_2 0 rfl) ?_
  refine lv_iconst (v := 4) hx hb dX9_isBelow_5 (by decide) ?_
  refine lv_icmp_ge (tgt := 39) hx hb dX9_isBelow_6 (by decide) (fun c_3 => absurd c_3 (by decide)) (fun _ => ?_)
  refine lv_iload_n hx hb dX9_isBelow_9 rfl (lv_at hl_2 1 rfl) ?_
  refine lv_if_eq (tgt := 31) hx hb dX9_isBelow_10 (by decide) (fun c_4 => absurd c_4 (by decide)) (fun _ => ?_)
  refine lv_iload_n hx hb dX9_isBelow_13 rfl (lv_at hl_2 3 rfl) ?_
  refine lv_iload_n hx hb dX9_isBelow_14 rfl (lv_at hl_2 0 rfl) ?_
  replace hf := zi_some hf
  obtain ⟨r_6, X_5, hc_5, hf⟩ := hf
  refine k_ai (va_runS (As := [.int a1, .int 0]) (rest := []) ⟨hx, hb, hml, hown, hts⟩ (mX9_tokensIn l D L ac hL _ a1 0 _ _ hc_5) (va_cwS 2 hts gX9_isBelow_X9_tokensIn rfl rfl rfl (by decide +kernel) ⟨Nat.le_of_ble_eq_true rfl, Nat.le_of_ble_eq_true rfl⟩) (k_ps hK hN hO _) rfl rfl hl_2.1 rfl (lv_room (Nat.le_of_ble_eq_true rfl)) dX9_isBelow_15 ⟨Nat.le_of_ble_eq_true rfl, Nat.le_of_ble_eq_true rfl⟩) hA hO (fun H_7 locs_7 hO_7 => ?_)
  clear hO
  refine lv_aload_n hx hb dX9_isBelow_18 rfl (lv_at hl_2 2 rfl) ?_
  refine lv_iload_n hx hb dX9_isBelow_19 rfl (lv_at hl_2 0 rfl) ?_
  refine lv_iconst (v := 0) hx hb dX9_isBelow_20 (by decide) ?_
  replace hf := zi_some hf
  obtain ⟨r_9, X_8, hc_8, hf⟩ := hf
  refine k_ai (va_runV (As := [.int 0, .int 0]) (rest := [.int r_6]) ⟨hx, hb, hml, hown, hts⟩ (mX9_of l D L ac hL _ 0 0 _ _ hc_8) (cwV 2 hts gX9_isBelow_X9_of rfl rfl rfl (by decide +kernel) ⟨Nat.le_of_ble_eq_true rfl, Nat.le_of_ble_eq_true rfl⟩) (k_pv (j := 15) hK hN hO_7 (by decide) rfl rfl _) rfl rfl hl_2.1 rfl (lv_room (Nat.le_of_ble_eq_true rfl)) dX9_isBelow_21 ⟨Nat.le_of_ble_eq_true rfl, Nat.le_of_ble_eq_true rfl⟩) hA hO_7 (fun H_10 locs_10 hO_10 => ?_)
  clear hO_7
  refine lv_icmp_gt (tgt := 31) hx hb dX9_isBelow_24 (by decide) (fun c_11 => ?_) (fun c_11 => ?_)
  · rw [if_pos c_11] at hf
    refine lv_iconst (v := 0) hx hb dX9_isBelow_31 (by decide) ?_
    refine lv_istore_n (lv' := [(2, .int 0), (3, .int 0), (0, .ref (L 15)), (1, .int a1)]) hx hb dX9_isBelow_32 rfl hl_2 (by decide) rfl (fun ls_12 hl_12 => ?_)
    clear hl_2
    refine lv_iinc (v := 1) (lv' := [(3, .int 1), (2, .int 0), (0, .ref (L 15)), (1, .int a1)]) hx hb dX9_isBelow_33 hl_12 (k := 1) rfl (by decide) (by decide) rfl (fun ls_13 hl_13 => ?_)
    clear hl_12
    refine lv_goto (tgt := 4) hx hb dX9_isBelow_36 (by decide) ?_
    refine lv_iload_n hx hb dX9_isBelow_4 rfl (lv_at hl_13 0 rfl) ?_
    refine lv_iconst (v := 4) hx hb dX9_isBelow_5 (by decide) ?_
    refine lv_icmp_ge (tgt := 39) hx hb dX9_isBelow_6 (by decide) (fun c_14 => absurd c_14 (by decide)) (fun _ => ?_)
    refine lv_iload_n hx hb dX9_isBelow_9 rfl (lv_at hl_13 1 rfl) ?_
    refine lv_if_eq (tgt := 31) hx hb dX9_isBelow_10 (by decide) (fun _ => ?_) (fun c_15 => absurd (by decide) c_15)
    refine lv_iconst (v := 0) hx hb dX9_isBelow_31 (by decide) ?_
    refine lv_istore_n (lv' := [(2, .int 0), (3, .int 1), (0, .ref (L 15)), (1, .int a1)]) hx hb dX9_isBelow_32 rfl hl_13 (by decide) rfl (fun ls_16 hl_16 => ?_)
    clear hl_13
    refine lv_iinc (v := 2) (lv' := [(3, .int 2), (2, .int 0), (0, .ref (L 15)), (1, .int a1)]) hx hb dX9_isBelow_33 hl_16 (k := 1) rfl (by decide) (by decide) rfl (fun ls_17 hl_17 => ?_)
    clear hl_16
    refine lv_goto (tgt := 4) hx hb dX9_isBelow_36 (by decide) ?_
    refine lv_iload_n hx hb dX9_isBelow_4 rfl (lv_at hl_17 0 rfl) ?_
    refine lv_iconst (v := 4) hx hb dX9_isBelow_5 (by decide) ?_
    refine lv_icmp_ge (tgt := 39) hx hb dX9_isBelow_6 (by decide) (fun c_18 => absurd c_18 (by decide)) (fun _ => ?_)
    refine lv_iload_n hx hb dX9_isBelow_9 rfl (lv_at hl_17 1 rfl) ?_
    refine lv_if_eq (tgt := 31) hx hb dX9_isBelow_10 (by decide) (fun _ => ?_) (fun c_19 => absurd (by decide) c_19)
    refine lv_iconst (v := 0) hx hb dX9_isBelow_31 (by decide) ?_
    refine lv_istore_n (lv' := [(2, .int 0), (3, .int 2), (0, .ref (L 15)), (1, .int a1)]) hx hb dX9_isBelow_32 rfl hl_17 (by decide) rfl (fun ls_20 hl_20 => ?_)
    clear hl_17
    refine lv_iinc (v := 3) (lv' := [(3, .int 3), (2, .int 0), (0, .ref (L 15)), (1, .int a1)]) hx hb dX9_isBelow_33 hl_20 (k := 1) rfl (by decide) (by decide) rfl (fun ls_21 hl_21 => ?_)
    clear hl_20
    refine lv_goto (tgt := 4) hx hb dX9_isBelow_36 (by decide) ?_
    refine lv_iload_n hx hb dX9_isBelow_4 rfl (lv_at hl_21 0 rfl) ?_
    refine lv_iconst (v := 4) hx hb dX9_isBelow_5 (by decide) ?_
    refine lv_icmp_ge (tgt := 39) hx hb dX9_isBelow_6 (by decide) (fun c_22 => absurd c_22 (by decide)) (fun _ => ?_)
    refine lv_iload_n hx hb dX9_isBelow_9 rfl (lv_at hl_21 1 rfl) ?_
    refine lv_if_eq (tgt := 31) hx hb dX9_isBelow_10 (by decide) (fun _ => ?_) (fun c_23 => absurd (by decide) c_23)
    refine lv_iconst (v := 0) hx hb dX9_isBelow_31 (by decide) ?_
    refine lv_istore_n (lv' := [(2, .int 0), (3, .int 3), (0, .ref (L 15)), (1, .int a1)]) hx hb dX9_isBelow_32 rfl hl_21 (by decide) rfl (fun ls_24 hl_24 => ?_)
    clear hl_21
    refine lv_iinc (v := 4) (lv' := [(3, .int 4), (2, .int 0), (0, .ref (L 15)), (1, .int a1)]) hx hb dX9_isBelow_33 hl_24 (k := 1) rfl (by decide) (by decide) rfl (fun ls_25 hl_25 => ?_)
    clear hl_24
    refine lv_goto (tgt := 4) hx hb dX9_isBelow_36 (by decide) ?_
    refine lv_iload_n hx hb dX9_isBelow_4 rfl (lv_at hl_25 0 rfl) ?_
    refine lv_iconst (v := 4) hx hb dX9_isBelow_5 (by decide) ?_
    refine lv_icmp_ge (tgt := 39) hx hb dX9_isBelow_6 (by decide) (fun _ => ?_) (fun c_26 => absurd (by decide) c_26)
    refine lv_iload_n hx hb dX9_isBelow_39 rfl (lv_at hl_25 1 rfl) ?_
    obtain ⟨rfl, rfl⟩ := Prod.mk.inj (Option.some.inj hf)
    exact e_n hx hb hr (bo_n (by decide)) hK hN hO_10 hlocks dX9_isBelow_40
  · rw [if_neg c_11] at hf
    refine lv_iconst (v := 1) hx hb dX9_isBelow_27 (by decide) ?_
    refine lv_goto (tgt := 32) hx hb dX9_isBelow_28 (by decide) ?_
    refine lv_istore_n (lv' := [(2, .int 1), (3, .int 0), (0, .ref (L 15)), (1, .int a1)]) hx hb dX9_isBelow_32 rfl hl_2 (by decide) rfl (fun ls_27 hl_27 => ?_)
    clear hl_2
    refine lv_iinc (v := 1) (lv' := [(3, .int 1), (2, .int 1), (0, .ref (L 15)), (1, .int a1)]) hx hb dX9_isBelow_33 hl_27 (k := 1) rfl (by decide) (by decide) rfl (fun ls_28 hl_28 => ?_)
    clear hl_27
    refine lv_goto (tgt := 4) hx hb dX9_isBelow_36 (by decide) ?_
    refine lv_iload_n hx hb dX9_isBelow_4 rfl (lv_at hl_28 0 rfl) ?_
    refine lv_iconst (v := 4) hx hb dX9_isBelow_5 (by decide) ?_
    refine lv_icmp_ge (tgt := 39) hx hb dX9_isBelow_6 (by decide) (fun c_29 => absurd c_29 (by decide)) (fun _ => ?_)
    refine lv_iload_n hx hb dX9_isBelow_9 rfl (lv_at hl_28 1 rfl) ?_
    refine lv_if_eq (tgt := 31) hx hb dX9_isBelow_10 (by decide) (fun c_30 => absurd c_30 (by decide)) (fun _ => ?_)
    refine lv_iload_n hx hb dX9_isBelow_13 rfl (lv_at hl_28 3 rfl) ?_
    refine lv_iload_n hx hb dX9_isBelow_14 rfl (lv_at hl_28 0 rfl) ?_
    replace hf := zi_some hf
    obtain ⟨r_32, X_31, hc_31, hf⟩ := hf
    refine k_ai (va_runS (As := [.int a1, .int 1]) (rest := []) ⟨hx, hb, hml, hown, hts⟩ (mX9_tokensIn l D L ac hL _ a1 1 _ _ hc_31) (va_cwS 2 hts gX9_isBelow_X9_tokensIn rfl rfl rfl (by decide +kernel) ⟨Nat.le_of_ble_eq_true rfl, Nat.le_of_ble_eq_true rfl⟩) (k_ps hK hN hO_10 _) rfl rfl hl_28.1 rfl (lv_room (Nat.le_of_ble_eq_true rfl)) dX9_isBelow_15 ⟨Nat.le_of_ble_eq_true rfl, Nat.le_of_ble_eq_true rfl⟩) hA hO_10 (fun H_33 locs_33 hO_33 => ?_)
    clear hO_10
    refine lv_aload_n hx hb dX9_isBelow_18 rfl (lv_at hl_28 2 rfl) ?_
    refine lv_iload_n hx hb dX9_isBelow_19 rfl (lv_at hl_28 0 rfl) ?_
    refine lv_iconst (v := 0) hx hb dX9_isBelow_20 (by decide) ?_
    replace hf := zi_some hf
    obtain ⟨r_35, X_34, hc_34, hf⟩ := hf
    refine k_ai (va_runV (As := [.int 1, .int 0]) (rest := [.int r_32]) ⟨hx, hb, hml, hown, hts⟩ (mX9_of l D L ac hL _ 1 0 _ _ hc_34) (cwV 2 hts gX9_isBelow_X9_of rfl rfl rfl (by decide +kernel) ⟨Nat.le_of_ble_eq_true rfl, Nat.le_of_ble_eq_true rfl⟩) (k_pv (j := 15) hK hN hO_33 (by decide) rfl rfl _) rfl rfl hl_28.1 rfl (lv_room (Nat.le_of_ble_eq_true rfl)) dX9_isBelow_21 ⟨Nat.le_of_ble_eq_true rfl, Nat.le_of_ble_eq_true rfl⟩) hA hO_33 (fun H_36 locs_36 hO_36 => ?_)
    clear hO_33
    refine lv_icmp_gt (tgt := 31) hx hb dX9_isBelow_24 (by decide) (fun c_37 => ?_) (fun c_37 => ?_)
    · rw [if_pos c_37] at hf
      refine lv_iconst (v := 0) hx hb dX9_isBelow_31 (by decide) ?_
      refine lv_istore_n (lv' := [(2, .int 0), (3, .int 1), (0, .ref (L 15)), (1, .int a1)]) hx hb dX9_isBelow_32 rfl hl_28 (by decide) rfl (fun ls_38 hl_38 => ?_)
      clear hl_28
      refine lv_iinc (v := 2) (lv' := [(3, .int 2), (2, .int 0), (0, .ref (L 15)), (1, .int a1)]) hx hb dX9_isBelow_33 hl_38 (k := 1) rfl (by decide) (by decide) rfl (fun ls_39 hl_39 => ?_)
      clear hl_38
      refine lv_goto (tgt := 4) hx hb dX9_isBelow_36 (by decide) ?_
      refine lv_iload_n hx hb dX9_isBelow_4 rfl (lv_at hl_39 0 rfl) ?_
      refine lv_iconst (v := 4) hx hb dX9_isBelow_5 (by decide) ?_
      refine lv_icmp_ge (tgt := 39) hx hb dX9_isBelow_6 (by decide) (fun c_40 => absurd c_40 (by decide)) (fun _ => ?_)
      refine lv_iload_n hx hb dX9_isBelow_9 rfl (lv_at hl_39 1 rfl) ?_
      refine lv_if_eq (tgt := 31) hx hb dX9_isBelow_10 (by decide) (fun _ => ?_) (fun c_41 => absurd (by decide) c_41)
      refine lv_iconst (v := 0) hx hb dX9_isBelow_31 (by decide) ?_
      refine lv_istore_n (lv' := [(2, .int 0), (3, .int 2), (0, .ref (L 15)), (1, .int a1)]) hx hb dX9_isBelow_32 rfl hl_39 (by decide) rfl (fun ls_42 hl_42 => ?_)
      clear hl_39
      refine lv_iinc (v := 3) (lv' := [(3, .int 3), (2, .int 0), (0, .ref (L 15)), (1, .int a1)]) hx hb dX9_isBelow_33 hl_42 (k := 1) rfl (by decide) (by decide) rfl (fun ls_43 hl_43 => ?_)
      clear hl_42
      refine lv_goto (tgt := 4) hx hb dX9_isBelow_36 (by decide) ?_
      refine lv_iload_n hx hb dX9_isBelow_4 rfl (lv_at hl_43 0 rfl) ?_
      refine lv_iconst (v := 4) hx hb dX9_isBelow_5 (by decide) ?_
      refine lv_icmp_ge (tgt := 39) hx hb dX9_isBelow_6 (by decide) (fun c_44 => absurd c_44 (by decide)) (fun _ => ?_)
      refine lv_iload_n hx hb dX9_isBelow_9 rfl (lv_at hl_43 1 rfl) ?_
      refine lv_if_eq (tgt := 31) hx hb dX9_isBelow_10 (by decide) (fun _ => ?_) (fun c_45 => absurd (by decide) c_45)
      refine lv_iconst (v := 0) hx hb dX9_isBelow_31 (by decide) ?_
      refine lv_istore_n (lv' := [(2, .int 0), (3, .int 3), (0, .ref (L 15)), (1, .int a1)]) hx hb dX9_isBelow_32 rfl hl_43 (by decide) rfl (fun ls_46 hl_46 => ?_)
      clear hl_43
      refine lv_iinc (v := 4) (lv' := [(3, .int 4), (2, .int 0), (0, .ref (L 15)), (1, .int a1)]) hx hb dX9_isBelow_33 hl_46 (k := 1) rfl (by decide) (by decide) rfl (fun ls_47 hl_47 => ?_)
      clear hl_46
      refine lv_goto (tgt := 4) hx hb dX9_isBelow_36 (by decide) ?_
      refine lv_iload_n hx hb dX9_isBelow_4 rfl (lv_at hl_47 0 rfl) ?_
      refine lv_iconst (v := 4) hx hb dX9_isBelow_5 (by decide) ?_
      refine lv_icmp_ge (tgt := 39) hx hb dX9_isBelow_6 (by decide) (fun _ => ?_) (fun c_48 => absurd (by decide) c_48)
      refine lv_iload_n hx hb dX9_isBelow_39 rfl (lv_at hl_47 1 rfl) ?_
      obtain ⟨rfl, rfl⟩ := Prod.mk.inj (Option.some.inj hf)
      exact e_n hx hb hr (bo_n (by decide)) hK hN hO_36 hlocks dX9_isBelow_40
    · rw [if_neg c_37] at hf
      refine lv_iconst (v := 1) hx hb dX9_isBelow_27 (by decide) ?_
      refine lv_goto (tgt := 32) hx hb dX9_isBelow_28 (by decide) ?_
      refine lv_istore_n (lv' := [(2, .int 1), (3, .int 1), (0, .ref (L 15)), (1, .int a1)]) hx hb dX9_isBelow_32 rfl hl_28 (by decide) rfl (fun ls_49 hl_49 => ?_)
      clear hl_28
      refine lv_iinc (v := 2) (lv' := [(3, .int 2), (2, .int 1), (0, .ref (L 15)), (1, .int a1)]) hx hb dX9_isBelow_33 hl_49 (k := 1) rfl (by decide) (by decide) rfl (fun ls_50 hl_50 => ?_)
      clear hl_49
      refine lv_goto (tgt := 4) hx hb dX9_isBelow_36 (by decide) ?_
      refine lv_iload_n hx hb dX9_isBelow_4 rfl (lv_at hl_50 0 rfl) ?_
      refine lv_iconst (v := 4) hx hb dX9_isBelow_5 (by decide) ?_
      refine lv_icmp_ge (tgt := 39) hx hb dX9_isBelow_6 (by decide) (fun c_51 => absurd c_51 (by decide)) (fun _ => ?_)
      refine lv_iload_n hx hb dX9_isBelow_9 rfl (lv_at hl_50 1 rfl) ?_
      refine lv_if_eq (tgt := 31) hx hb dX9_isBelow_10 (by decide) (fun c_52 => absurd c_52 (by decide)) (fun _ => ?_)
      refine lv_iload_n hx hb dX9_isBelow_13 rfl (lv_at hl_50 3 rfl) ?_
      refine lv_iload_n hx hb dX9_isBelow_14 rfl (lv_at hl_50 0 rfl) ?_
      replace hf := zi_some hf
      obtain ⟨r_54, X_53, hc_53, hf⟩ := hf
      refine k_ai (va_runS (As := [.int a1, .int 2]) (rest := []) ⟨hx, hb, hml, hown, hts⟩ (mX9_tokensIn l D L ac hL _ a1 2 _ _ hc_53) (va_cwS 2 hts gX9_isBelow_X9_tokensIn rfl rfl rfl (by decide +kernel) ⟨Nat.le_of_ble_eq_true rfl, Nat.le_of_ble_eq_true rfl⟩) (k_ps hK hN hO_36 _) rfl rfl hl_50.1 rfl (lv_room (Nat.le_of_ble_eq_true rfl)) dX9_isBelow_15 ⟨Nat.le_of_ble_eq_true rfl, Nat.le_of_ble_eq_true rfl⟩) hA hO_36 (fun H_55 locs_55 hO_55 => ?_)
      clear hO_36
      refine lv_aload_n hx hb dX9_isBelow_18 rfl (lv_at hl_50 2 rfl) ?_
      refine lv_iload_n hx hb dX9_isBelow_19 rfl (lv_at hl_50 0 rfl) ?_
      refine lv_iconst (v := 0) hx hb dX9_isBelow_20 (by decide) ?_
      replace hf := zi_some hf
      obtain ⟨r_57, X_56, hc_56, hf⟩ := hf
      refine k_ai (va_runV (As := [.int 2, .int 0]) (rest := [.int r_54]) ⟨hx, hb, hml, hown, hts⟩ (mX9_of l D L ac hL _ 2 0 _ _ hc_56) (cwV 2 hts gX9_isBelow_X9_of rfl rfl rfl (by decide +kernel) ⟨Nat.le_of_ble_eq_true rfl, Nat.le_of_ble_eq_true rfl⟩) (k_pv (j := 15) hK hN hO_55 (by decide) rfl rfl _) rfl rfl hl_50.1 rfl (lv_room (Nat.le_of_ble_eq_true rfl)) dX9_isBelow_21 ⟨Nat.le_of_ble_eq_true rfl, Nat.le_of_ble_eq_true rfl⟩) hA hO_55 (fun H_58 locs_58 hO_58 => ?_)
      clear hO_55
      refine lv_icmp_gt (tgt := 31) hx hb dX9_isBelow_24 (by decide) (fun c_59 => ?_) (fun c_59 => ?_)
      · rw [if_pos c_59] at hf
        refine lv_iconst (v := 0) hx hb dX9_isBelow_31 (by decide) ?_
        refine lv_istore_n (lv' := [(2, .int 0), (3, .int 2), (0, .ref (L 15)), (1, .int a1)]) hx hb dX9_isBelow_32 rfl hl_50 (by decide) rfl (fun ls_60 hl_60 => ?_)
        clear hl_50
        refine lv_iinc (v := 3) (lv' := [(3, .int 3), (2, .int 0), (0, .ref (L 15)), (1, .int a1)]) hx hb dX9_isBelow_33 hl_60 (k := 1) rfl (by decide) (by decide) rfl (fun ls_61 hl_61 => ?_)
        clear hl_60
        refine lv_goto (tgt := 4) hx hb dX9_isBelow_36 (by decide) ?_
        refine lv_iload_n hx hb dX9_isBelow_4 rfl (lv_at hl_61 0 rfl) ?_
        refine lv_iconst (v := 4) hx hb dX9_isBelow_5 (by decide) ?_
        refine lv_icmp_ge (tgt := 39) hx hb dX9_isBelow_6 (by decide) (fun c_62 => absurd c_62 (by decide)) (fun _ => ?_)
        refine lv_iload_n hx hb dX9_isBelow_9 rfl (lv_at hl_61 1 rfl) ?_
        refine lv_if_eq (tgt := 31) hx hb dX9_isBelow_10 (by decide) (fun _ => ?_) (fun c_63 => absurd (by decide) c_63)
        refine lv_iconst (v := 0) hx hb dX9_isBelow_31 (by decide) ?_
        refine lv_istore_n (lv' := [(2, .int 0), (3, .int 3), (0, .ref (L 15)), (1, .int a1)]) hx hb dX9_isBelow_32 rfl hl_61 (by decide) rfl (fun ls_64 hl_64 => ?_)
        clear hl_61
        refine lv_iinc (v := 4) (lv' := [(3, .int 4), (2, .int 0), (0, .ref (L 15)), (1, .int a1)]) hx hb dX9_isBelow_33 hl_64 (k := 1) rfl (by decide) (by decide) rfl (fun ls_65 hl_65 => ?_)
        clear hl_64
        refine lv_goto (tgt := 4) hx hb dX9_isBelow_36 (by decide) ?_
        refine lv_iload_n hx hb dX9_isBelow_4 rfl (lv_at hl_65 0 rfl) ?_
        refine lv_iconst (v := 4) hx hb dX9_isBelow_5 (by decide) ?_
        refine lv_icmp_ge (tgt := 39) hx hb dX9_isBelow_6 (by decide) (fun _ => ?_) (fun c_66 => absurd (by decide) c_66)
        refine lv_iload_n hx hb dX9_isBelow_39 rfl (lv_at hl_65 1 rfl) ?_
        obtain ⟨rfl, rfl⟩ := Prod.mk.inj (Option.some.inj hf)
        exact e_n hx hb hr (bo_n (by decide)) hK hN hO_58 hlocks dX9_isBelow_40
      · rw [if_neg c_59] at hf
        refine lv_iconst (v := 1) hx hb dX9_isBelow_27 (by decide) ?_
        refine lv_goto (tgt := 32) hx hb dX9_isBelow_28 (by decide) ?_
        refine lv_istore_n (lv' := [(2, .int 1), (3, .int 2), (0, .ref (L 15)), (1, .int a1)]) hx hb dX9_isBelow_32 rfl hl_50 (by decide) rfl (fun ls_67 hl_67 => ?_)
        clear hl_50
        refine lv_iinc (v := 3) (lv' := [(3, .int 3), (2, .int 1), (0, .ref (L 15)), (1, .int a1)]) hx hb dX9_isBelow_33 hl_67 (k := 1) rfl (by decide) (by decide) rfl (fun ls_68 hl_68 => ?_)
        clear hl_67
        refine lv_goto (tgt := 4) hx hb dX9_isBelow_36 (by decide) ?_
        refine lv_iload_n hx hb dX9_isBelow_4 rfl (lv_at hl_68 0 rfl) ?_
        refine lv_iconst (v := 4) hx hb dX9_isBelow_5 (by decide) ?_
        refine lv_icmp_ge (tgt := 39) hx hb dX9_isBelow_6 (by decide) (fun c_69 => absurd c_69 (by decide)) (fun _ => ?_)
        refine lv_iload_n hx hb dX9_isBelow_9 rfl (lv_at hl_68 1 rfl) ?_
        refine lv_if_eq (tgt := 31) hx hb dX9_isBelow_10 (by decide) (fun c_70 => absurd c_70 (by decide)) (fun _ => ?_)
        refine lv_iload_n hx hb dX9_isBelow_13 rfl (lv_at hl_68 3 rfl) ?_
        refine lv_iload_n hx hb dX9_isBelow_14 rfl (lv_at hl_68 0 rfl) ?_
        replace hf := zi_some hf
        obtain ⟨r_72, X_71, hc_71, hf⟩ := hf
        refine k_ai (va_runS (As := [.int a1, .int 3]) (rest := []) ⟨hx, hb, hml, hown, hts⟩ (mX9_tokensIn l D L ac hL _ a1 3 _ _ hc_71) (va_cwS 2 hts gX9_isBelow_X9_tokensIn rfl rfl rfl (by decide +kernel) ⟨Nat.le_of_ble_eq_true rfl, Nat.le_of_ble_eq_true rfl⟩) (k_ps hK hN hO_58 _) rfl rfl hl_68.1 rfl (lv_room (Nat.le_of_ble_eq_true rfl)) dX9_isBelow_15 ⟨Nat.le_of_ble_eq_true rfl, Nat.le_of_ble_eq_true rfl⟩) hA hO_58 (fun H_73 locs_73 hO_73 => ?_)
        clear hO_58
        refine lv_aload_n hx hb dX9_isBelow_18 rfl (lv_at hl_68 2 rfl) ?_
        refine lv_iload_n hx hb dX9_isBelow_19 rfl (lv_at hl_68 0 rfl) ?_
        refine lv_iconst (v := 0) hx hb dX9_isBelow_20 (by decide) ?_
        replace hf := zi_some hf
        obtain ⟨r_75, X_74, hc_74, hf⟩ := hf
        refine k_ai (va_runV (As := [.int 3, .int 0]) (rest := [.int r_72]) ⟨hx, hb, hml, hown, hts⟩ (mX9_of l D L ac hL _ 3 0 _ _ hc_74) (cwV 2 hts gX9_isBelow_X9_of rfl rfl rfl (by decide +kernel) ⟨Nat.le_of_ble_eq_true rfl, Nat.le_of_ble_eq_true rfl⟩) (k_pv (j := 15) hK hN hO_73 (by decide) rfl rfl _) rfl rfl hl_68.1 rfl (lv_room (Nat.le_of_ble_eq_true rfl)) dX9_isBelow_21 ⟨Nat.le_of_ble_eq_true rfl, Nat.le_of_ble_eq_true rfl⟩) hA hO_73 (fun H_76 locs_76 hO_76 => ?_)
        clear hO_73
        refine lv_icmp_gt (tgt := 31) hx hb dX9_isBelow_24 (by decide) (fun c_77 => ?_) (fun c_77 => ?_)
        · rw [if_pos c_77] at hf
          refine lv_iconst (v := 0) hx hb dX9_isBelow_31 (by decide) ?_
          refine lv_istore_n (lv' := [(2, .int 0), (3, .int 3), (0, .ref (L 15)), (1, .int a1)]) hx hb dX9_isBelow_32 rfl hl_68 (by decide) rfl (fun ls_78 hl_78 => ?_)
          clear hl_68
          refine lv_iinc (v := 4) (lv' := [(3, .int 4), (2, .int 0), (0, .ref (L 15)), (1, .int a1)]) hx hb dX9_isBelow_33 hl_78 (k := 1) rfl (by decide) (by decide) rfl (fun ls_79 hl_79 => ?_)
          clear hl_78
          refine lv_goto (tgt := 4) hx hb dX9_isBelow_36 (by decide) ?_
          refine lv_iload_n hx hb dX9_isBelow_4 rfl (lv_at hl_79 0 rfl) ?_
          refine lv_iconst (v := 4) hx hb dX9_isBelow_5 (by decide) ?_
          refine lv_icmp_ge (tgt := 39) hx hb dX9_isBelow_6 (by decide) (fun _ => ?_) (fun c_80 => absurd (by decide) c_80)
          refine lv_iload_n hx hb dX9_isBelow_39 rfl (lv_at hl_79 1 rfl) ?_
          obtain ⟨rfl, rfl⟩ := Prod.mk.inj (Option.some.inj hf)
          exact e_n hx hb hr (bo_n (by decide)) hK hN hO_76 hlocks dX9_isBelow_40
        · rw [if_neg c_77] at hf
          refine lv_iconst (v := 1) hx hb dX9_isBelow_27 (by decide) ?_
          refine lv_goto (tgt := 32) hx hb dX9_isBelow_28 (by decide) ?_
          refine lv_istore_n (lv' := [(2, .int 1), (3, .int 3), (0, .ref (L 15)), (1, .int a1)]) hx hb dX9_isBelow_32 rfl hl_68 (by decide) rfl (fun ls_81 hl_81 => ?_)
          clear hl_68
          refine lv_iinc (v := 4) (lv' := [(3, .int 4), (2, .int 1), (0, .ref (L 15)), (1, .int a1)]) hx hb dX9_isBelow_33 hl_81 (k := 1) rfl (by decide) (by decide) rfl (fun ls_82 hl_82 => ?_)
          clear hl_81
          refine lv_goto (tgt := 4) hx hb dX9_isBelow_36 (by decide) ?_
          refine lv_iload_n hx hb dX9_isBelow_4 rfl (lv_at hl_82 0 rfl) ?_
          refine lv_iconst (v := 4) hx hb dX9_isBelow_5 (by decide) ?_
          refine lv_icmp_ge (tgt := 39) hx hb dX9_isBelow_6 (by decide) (fun _ => ?_) (fun c_83 => absurd (by decide) c_83)
          refine lv_iload_n hx hb dX9_isBelow_39 rfl (lv_at hl_82 1 rfl) ?_
          obtain ⟨rfl, rfl⟩ := Prod.mk.inj (Option.some.inj hf)
          exact e_n hx hb hr (bo_n (by decide)) hK hN hO_76 hlocks dX9_isBelow_40
def fX9_reckonsCode_9  (k2 : Int32 → Int32 → XM → Option XM) : Nat → Int32 → Int32 → Int32 → XM → Option XM
  | 0, _, _, _, _ => none
  | n + 1, x1, x2, x3, X => if 2 < x3 then k2 x1 (x2 + 1) X else zi (fX9_in (x2 - x3) 0 2 X) (fun r_4 X_3 => if r_4 = 0 then fX9_reckonsCode_9 k2 n x1 x2 (x3 + 1) X_3 else zv (fX9_reckons x1 x3 (x2 - x3) 0 X_3) (fun X_8 => zv (fX9_reckons x1 x3 (x2 - x3) 1 X_8) (fun X_10 => fX9_reckonsCode_9 k2 n x1 x2 (x3 + 1) X_10)))
set_option maxHeartbeats 4000000 in
set_option maxRecDepth 100000 in
theorem wX9_reckonsCode_9 {p : Program} {l : Launch} {e : Env} {s : State} {m : MethodId} {args : Array Value} {below : List Frame} {meth : Method} {c : Code} {D : va_G} {L : Nat → Nat} {ac : Nat → ClassId} {X0 : XM} (hL : LL L) (F : Fx p s m args meth c cX9_reckonsCode 4 none wsX9_reckonsCode yX9_reckonsCode.cls D ac) (k2 : Int32 → Int32 → XM → Option XM) (hk2 : ∀ (x1 : Int32) (x2 : Int32) (X : XM) (H : Heap) (locs : List Loc) (ls : Array Slot), Oh D L ac X (fr L) s.heap H locs → lv_has ls 4 [(0, .ref (L 15)), (1, .int x1), (2, .int x2)] → k2 x1 x2 X = some X0 → W p l e (headSpec wsX9_reckonsCode ({ frames := 5, cells := 0, slots := 0, locals := 116 })).room s m args below meth c H locs 0 0 (MQ below (va_Qv (fun (Y : XM) => Y = X0) (fun (Y : XM) t => St D L ac Y t) (fr L)) args s 0 0 (fr L)) (F0 m 2 ls [])) : ∀ (n : Nat) (x1 : Int32) (x2 : Int32) (x3 : Int32) (X : XM) (H : Heap) (locs : List Loc) (ls : Array Slot), Oh D L ac X (fr L) s.heap H locs → lv_has ls 4 [(0, .ref (L 15)), (1, .int x1), (2, .int x2), (3, .int x3)] → fX9_reckonsCode_9 k2 n x1 x2 x3 X = some X0 → W p l e (headSpec wsX9_reckonsCode ({ frames := 5, cells := 0, slots := 0, locals := 116 })).room s m args below meth c H locs 0 0 (MQ below (va_Qv (fun (Y : XM) => Y = X0) (fun (Y : XM) t => St D L ac Y t) (fr L)) args s 0 0 (fr L)) (F0 m 9 ls []) := by
  obtain ⟨hx, hb, hr, hts, hown, hlocks, hml, hK, hN⟩ := id F
  have hA : ∀ q, fr L q → fr L q := fun q h => h
  intro n
  induction n with
  | zero => intro x1 x2 x3 X H locs ls hO hl hf; simp [fX9_reckonsCode_9] at hf
  | succ n ih =>
    intro x1 x2 x3 X H locs ls hO hl hf
    rw [fX9_reckonsCode_9] at hf
    refine lv_iload_n hx hb dX9_reckonsCode_9 rfl (lv_at hl 3 rfl) ?_
    refine lv_iconst (v := 2) hx hb dX9_reckonsCode_10 (by decide) ?_
    refine lv_icmp_gt (tgt := 51) hx hb dX9_reckonsCode_11 (by decide) (fun c_1 => ?_) (fun c_1 => ?_)
    · rw [if_pos c_1] at hf
      refine lv_iinc (v := x2 + 1) (lv' := [(2, .int (x2 + 1)), (0, .ref (L 15)), (1, .int x1), (3, .int x3)]) hx hb dX9_reckonsCode_51 hl (k := 2) rfl rfl (by decide) rfl (fun ls_2 hl_2 => ?_)
      clear hl
      refine lv_goto (tgt := 2) hx hb dX9_reckonsCode_54 (by decide) ?_
      exact hk2 _ _ _  _ _ _ hO (lv_sub hl_2 [1, 2, 0] rfl) hf
    · rw [if_neg c_1] at hf
      refine lv_iload_n hx hb dX9_reckonsCode_14 rfl (lv_at hl 2 rfl) ?_
      refine lv_iload_n hx hb dX9_reckonsCode_15 rfl (lv_at hl 3 rfl) ?_
      refine lv_isub hx hb dX9_reckonsCode_16 ?_
      refine lv_iconst (v := 0) hx hb dX9_reckonsCode_17 (by decide) ?_
      refine lv_iconst (v := 2) hx hb dX9_reckonsCode_18 (by decide) ?_
      replace hf := zi_some hf
      obtain ⟨r_4, X_3, hc_3, hf⟩ := hf
      refine k_ai (va_runS (As := [.int (x2 - x3), .int 0, .int 2]) (rest := []) ⟨hx, hb, hml, hown, hts⟩ (mX9_in l D L ac hL _ (x2 - x3) 0 2 _ _ hc_3) (va_cwS 3 hts gX9_reckonsCode_X9_in rfl rfl rfl (by decide +kernel) ⟨Nat.le_of_ble_eq_true rfl, Nat.le_of_ble_eq_true rfl⟩) (k_ps hK hN hO _) rfl rfl hl.1 rfl (lv_room (Nat.le_of_ble_eq_true rfl)) dX9_reckonsCode_19 ⟨Nat.le_of_ble_eq_true rfl, Nat.le_of_ble_eq_true rfl⟩) hA hO (fun H_5 locs_5 hO_5 => ?_)
      clear hO
      refine lv_if_eq (tgt := 45) hx hb dX9_reckonsCode_22 (by decide) (fun c_6 => ?_) (fun c_6 => ?_)
      · rw [if_pos c_6] at hf
        subst c_6
        refine lv_iinc (v := x3 + 1) (lv' := [(3, .int (x3 + 1)), (0, .ref (L 15)), (1, .int x1), (2, .int x2)]) hx hb dX9_reckonsCode_45 hl (k := 3) rfl rfl (by decide) rfl (fun ls_7 hl_7 => ?_)
        clear hl
        refine lv_goto (tgt := 9) hx hb dX9_reckonsCode_48 (by decide) ?_
        exact ih _ _ _ _  _ _ _ hO_5 (lv_sub hl_7 [1, 2, 3, 0] rfl) hf
      · rw [if_neg c_6] at hf
        refine lv_aload_n hx hb dX9_reckonsCode_25 rfl (lv_at hl 0 rfl) ?_
        refine lv_iload_n hx hb dX9_reckonsCode_26 rfl (lv_at hl 1 rfl) ?_
        refine lv_iload_n hx hb dX9_reckonsCode_27 rfl (lv_at hl 3 rfl) ?_
        refine lv_iload_n hx hb dX9_reckonsCode_28 rfl (lv_at hl 2 rfl) ?_
        refine lv_iload_n hx hb dX9_reckonsCode_29 rfl (lv_at hl 3 rfl) ?_
        refine lv_isub hx hb dX9_reckonsCode_30 ?_
        refine lv_iconst (v := 0) hx hb dX9_reckonsCode_31 (by decide) ?_
        replace hf := zv_some hf
        obtain ⟨X_8, hc_8, hf⟩ := hf
        refine k_av (va_runV (As := [.int x1, .int x3, .int (x2 - x3), .int 0]) (rest := []) ⟨hx, hb, hml, hown, hts⟩ (mX9_reckons l D L ac hL _ x1 x3 (x2 - x3) 0 _ hc_8) (cwV 4 hts gX9_reckonsCode_X9_reckons rfl rfl rfl (by decide +kernel) ⟨Nat.le_of_ble_eq_true rfl, Nat.le_of_ble_eq_true rfl⟩) (k_pv (j := 15) hK hN hO_5 (by decide) rfl rfl _) rfl rfl hl.1 rfl (lv_room (Nat.le_of_ble_eq_true rfl)) dX9_reckonsCode_32 ⟨Nat.le_of_ble_eq_true rfl, Nat.le_of_ble_eq_true rfl⟩) hA hO_5 (fun H_9 locs_9 hO_9 => ?_)
        clear hO_5
        refine lv_aload_n hx hb dX9_reckonsCode_35 rfl (lv_at hl 0 rfl) ?_
        refine lv_iload_n hx hb dX9_reckonsCode_36 rfl (lv_at hl 1 rfl) ?_
        refine lv_iload_n hx hb dX9_reckonsCode_37 rfl (lv_at hl 3 rfl) ?_
        refine lv_iload_n hx hb dX9_reckonsCode_38 rfl (lv_at hl 2 rfl) ?_
        refine lv_iload_n hx hb dX9_reckonsCode_39 rfl (lv_at hl 3 rfl) ?_
        refine lv_isub hx hb dX9_reckonsCode_40 ?_
        refine lv_iconst (v := 1) hx hb dX9_reckonsCode_41 (by decide) ?_
        replace hf := zv_some hf
        obtain ⟨X_10, hc_10, hf⟩ := hf
        refine k_av (va_runV (As := [.int x1, .int x3, .int (x2 - x3), .int 1]) (rest := []) ⟨hx, hb, hml, hown, hts⟩ (mX9_reckons l D L ac hL _ x1 x3 (x2 - x3) 1 _ hc_10) (cwV 4 hts gX9_reckonsCode_X9_reckons rfl rfl rfl (by decide +kernel) ⟨Nat.le_of_ble_eq_true rfl, Nat.le_of_ble_eq_true rfl⟩) (k_pv (j := 15) hK hN hO_9 (by decide) rfl rfl _) rfl rfl hl.1 rfl (lv_room (Nat.le_of_ble_eq_true rfl)) dX9_reckonsCode_42 ⟨Nat.le_of_ble_eq_true rfl, Nat.le_of_ble_eq_true rfl⟩) hA hO_9 (fun H_11 locs_11 hO_11 => ?_)
        clear hO_9
        refine lv_iinc (v := x3 + 1) (lv' := [(3, .int (x3 + 1)), (0, .ref (L 15)), (1, .int x1), (2, .int x2)]) hx hb dX9_reckonsCode_45 hl (k := 3) rfl rfl (by decide) rfl (fun ls_12 hl_12 => ?_)
        clear hl
        refine lv_goto (tgt := 9) hx hb dX9_reckonsCode_48 (by decide) ?_
        exact ih _ _ _ _  _ _ _ hO_11 (lv_sub hl_12 [1, 2, 3, 0] rfl) hf
def fX9_reckonsCode_2   : Nat → Int32 → Int32 → XM → Option XM
  | 0, _, _, _ => none
  | n + 1, x1, x2, X => if 4 < x2 then some X else fX9_reckonsCode_9 (fX9_reckonsCode_2 n) fuel x1 x2 0 X
set_option maxHeartbeats 4000000 in
set_option maxRecDepth 100000 in
theorem wX9_reckonsCode_2 {p : Program} {l : Launch} {e : Env} {s : State} {m : MethodId} {args : Array Value} {below : List Frame} {meth : Method} {c : Code} {D : va_G} {L : Nat → Nat} {ac : Nat → ClassId} {X0 : XM} (hL : LL L) (F : Fx p s m args meth c cX9_reckonsCode 4 none wsX9_reckonsCode yX9_reckonsCode.cls D ac) : ∀ (n : Nat) (x1 : Int32) (x2 : Int32) (X : XM) (H : Heap) (locs : List Loc) (ls : Array Slot), Oh D L ac X (fr L) s.heap H locs → lv_has ls 4 [(0, .ref (L 15)), (1, .int x1), (2, .int x2)] → fX9_reckonsCode_2 n x1 x2 X = some X0 → W p l e (headSpec wsX9_reckonsCode ({ frames := 5, cells := 0, slots := 0, locals := 116 })).room s m args below meth c H locs 0 0 (MQ below (va_Qv (fun (Y : XM) => Y = X0) (fun (Y : XM) t => St D L ac Y t) (fr L)) args s 0 0 (fr L)) (F0 m 2 ls []) := by
  obtain ⟨hx, hb, hr, hts, hown, hlocks, hml, hK, hN⟩ := id F
  have hA : ∀ q, fr L q → fr L q := fun q h => h
  intro n
  induction n with
  | zero => intro x1 x2 X H locs ls hO hl hf; simp [fX9_reckonsCode_2] at hf
  | succ n ih =>
    intro x1 x2 X H locs ls hO hl hf
    rw [fX9_reckonsCode_2] at hf
    refine lv_iload_n hx hb dX9_reckonsCode_2 rfl (lv_at hl 2 rfl) ?_
    refine lv_iconst (v := 4) hx hb dX9_reckonsCode_3 (by decide) ?_
    refine lv_icmp_gt (tgt := 57) hx hb dX9_reckonsCode_4 (by decide) (fun c_13 => ?_) (fun c_13 => ?_)
    · rw [if_pos c_13] at hf
      obtain rfl := Option.some.inj hf
      exact e_v hx hb hr hK hN hO hlocks dX9_reckonsCode_57
    · rw [if_neg c_13] at hf
      refine lv_iconst (v := 0) hx hb dX9_reckonsCode_7 (by decide) ?_
      refine lv_istore_n (lv' := [(3, .int 0), (0, .ref (L 15)), (1, .int x1), (2, .int x2)]) hx hb dX9_reckonsCode_8 rfl hl (by decide) rfl (fun ls_14 hl_14 => ?_)
      clear hl
      exact wX9_reckonsCode_9 hL F _ ih fuel _ _ _ _  _ _ _ hO (lv_sub hl_14 [1, 2, 3, 0] rfl) hf
def fX9_reckonsCode  (a1 : Int32) (X : XM) : Option XM := fX9_reckonsCode_2 fuel a1 0 X
set_option maxHeartbeats 4000000 in
set_option maxRecDepth 100000 in
theorem mX9_reckonsCode (l : Launch) (D : va_G) (L : Nat → Nat) (ac : Nat → ClassId) (hL : LL L) (X : XM) (a1 : Int32) (X0 : XM) (hf : fX9_reckonsCode a1 X = some X0) : Cv l yX9_reckonsCode wsX9_reckonsCode ({ frames := 5, cells := 0, slots := 0, locals := 116 }) D L ac X [.ref (L 15), .int a1] X0 := by
  refine Met.ofK (cc := cX9_reckonsCode) (maxL := 4) (ret := none) (lv := [(0, .ref (L 15)), (1, .int a1)]) (by decide +kernel) rfl (Nat.le_of_ble_eq_true rfl) rfl ?_
  intro p e s m below meth c F hO ls hl
  obtain ⟨hx, hb, hr, hts, hown, hlocks, hml, hK, hN⟩ := id F
  have hA : ∀ q, fr L q → fr L q := fun q h => h
  unfold fX9_reckonsCode at hf
  refine lv_iconst (v := 0) hx hb dX9_reckonsCode_0 (by decide) ?_
  refine lv_istore_n (lv' := [(2, .int 0), (0, .ref (L 15)), (1, .int a1)]) hx hb dX9_reckonsCode_1 rfl hl (by decide) rfl (fun ls_15 hl_15 => ?_)
  clear hl
  exact wX9_reckonsCode_2 hL F  fuel _ _ _  _ _ _ hO (lv_sub hl_15 [1, 2, 0] rfl) hf
def fX9_reckonsAll_2   : Nat → Int32 → XM → Option XM
  | 0, _, _ => none
  | n + 1, x1, X => if 1296 ≤ x1 then some X else zi (fX9_isBelow x1 X) (fun r_3 X_2 => if r_3 = 0 then fX9_reckonsAll_2 n (x1 + 1) X_2 else zv (fX9_reckonsCode x1 X_2) (fun X_7 => fX9_reckonsAll_2 n (x1 + 1) X_7))
set_option maxHeartbeats 4000000 in
set_option maxRecDepth 100000 in
theorem wX9_reckonsAll_2 {p : Program} {l : Launch} {e : Env} {s : State} {m : MethodId} {args : Array Value} {below : List Frame} {meth : Method} {c : Code} {D : va_G} {L : Nat → Nat} {ac : Nat → ClassId} {X0 : XM} (hL : LL L) (F : Fx p s m args meth c cX9_reckonsAll 2 none wsX9_reckonsAll yX9_reckonsAll.cls D ac) : ∀ (n : Nat) (x1 : Int32) (X : XM) (H : Heap) (locs : List Loc) (ls : Array Slot), Oh D L ac X (fr L) s.heap H locs → lv_has ls 2 [(0, .ref (L 15)), (1, .int x1)] → fX9_reckonsAll_2 n x1 X = some X0 → W p l e (headSpec wsX9_reckonsAll ({ frames := 6, cells := 0, slots := 0, locals := 139 })).room s m args below meth c H locs 0 0 (MQ below (va_Qv (fun (Y : XM) => Y = X0) (fun (Y : XM) t => St D L ac Y t) (fr L)) args s 0 0 (fr L)) (F0 m 2 ls []) := by
  obtain ⟨hx, hb, hr, hts, hown, hlocks, hml, hK, hN⟩ := id F
  have hA : ∀ q, fr L q → fr L q := fun q h => h
  intro n
  induction n with
  | zero => intro x1 X H locs ls hO hl hf; simp [fX9_reckonsAll_2] at hf
  | succ n ih =>
    intro x1 X H locs ls hO hl hf
    rw [fX9_reckonsAll_2] at hf
    refine lv_iload_n hx hb dX9_reckonsAll_2 rfl (lv_at hl 1 rfl) ?_
    refine lv_sipush (v := 1296) hx hb dX9_reckonsAll_3 (by decide) ?_
    refine lv_icmp_ge (tgt := 28) hx hb dX9_reckonsAll_6 (by decide) (fun c_1 => ?_) (fun c_1 => ?_)
    · rw [if_pos c_1] at hf
      obtain rfl := Option.some.inj hf
      exact e_v hx hb hr hK hN hO hlocks dX9_reckonsAll_28
    · rw [if_neg c_1] at hf
      refine lv_aload_n hx hb dX9_reckonsAll_9 rfl (lv_at hl 0 rfl) ?_
      refine lv_iload_n hx hb dX9_reckonsAll_10 rfl (lv_at hl 1 rfl) ?_
      replace hf := zi_some hf
      obtain ⟨r_3, X_2, hc_2, hf⟩ := hf
      refine k_ai (va_runV (As := [.int x1]) (rest := []) ⟨hx, hb, hml, hown, hts⟩ (mX9_isBelow l D L ac hL _ x1 _ _ hc_2) (cwV 1 hts gX9_reckonsAll_X9_isBelow rfl rfl rfl (by decide +kernel) ⟨Nat.le_of_ble_eq_true rfl, Nat.le_of_ble_eq_true rfl⟩) (k_pv (j := 15) hK hN hO (by decide) rfl rfl _) rfl rfl hl.1 rfl (lv_room (Nat.le_of_ble_eq_true rfl)) dX9_reckonsAll_11 ⟨Nat.le_of_ble_eq_true rfl, Nat.le_of_ble_eq_true rfl⟩) hA hO (fun H_4 locs_4 hO_4 => ?_)
      clear hO
      refine lv_if_eq (tgt := 22) hx hb dX9_reckonsAll_14 (by decide) (fun c_5 => ?_) (fun c_5 => ?_)
      · rw [if_pos c_5] at hf
        subst c_5
        refine lv_iinc (v := x1 + 1) (lv' := [(1, .int (x1 + 1)), (0, .ref (L 15))]) hx hb dX9_reckonsAll_22 hl (k := 1) rfl rfl (by decide) rfl (fun ls_6 hl_6 => ?_)
        clear hl
        refine lv_goto (tgt := 2) hx hb dX9_reckonsAll_25 (by decide) ?_
        exact ih _ _  _ _ _ hO_4 (lv_sub hl_6 [1, 0] rfl) hf
      · rw [if_neg c_5] at hf
        refine lv_aload_n hx hb dX9_reckonsAll_17 rfl (lv_at hl 0 rfl) ?_
        refine lv_iload_n hx hb dX9_reckonsAll_18 rfl (lv_at hl 1 rfl) ?_
        replace hf := zv_some hf
        obtain ⟨X_7, hc_7, hf⟩ := hf
        refine k_av (va_runV (As := [.int x1]) (rest := []) ⟨hx, hb, hml, hown, hts⟩ (mX9_reckonsCode l D L ac hL _ x1 _ hc_7) (cwV 1 hts gX9_reckonsAll_X9_reckonsCode rfl rfl rfl (by decide +kernel) ⟨Nat.le_of_ble_eq_true rfl, Nat.le_of_ble_eq_true rfl⟩) (k_pv (j := 15) hK hN hO_4 (by decide) rfl rfl _) rfl rfl hl.1 rfl (lv_room (Nat.le_of_ble_eq_true rfl)) dX9_reckonsAll_19 ⟨Nat.le_of_ble_eq_true rfl, Nat.le_of_ble_eq_true rfl⟩) hA hO_4 (fun H_8 locs_8 hO_8 => ?_)
        clear hO_4
        refine lv_iinc (v := x1 + 1) (lv' := [(1, .int (x1 + 1)), (0, .ref (L 15))]) hx hb dX9_reckonsAll_22 hl (k := 1) rfl rfl (by decide) rfl (fun ls_9 hl_9 => ?_)
        clear hl
        refine lv_goto (tgt := 2) hx hb dX9_reckonsAll_25 (by decide) ?_
        exact ih _ _  _ _ _ hO_8 (lv_sub hl_9 [1, 0] rfl) hf
def fX9_reckonsAll   (X : XM) : Option XM := fX9_reckonsAll_2 fuel 0 X
set_option maxHeartbeats 4000000 in
set_option maxRecDepth 100000 in
theorem mX9_reckonsAll (l : Launch) (D : va_G) (L : Nat → Nat) (ac : Nat → ClassId) (hL : LL L) (X : XM)  (X0 : XM) (hf : fX9_reckonsAll  X = some X0) : Cv l yX9_reckonsAll wsX9_reckonsAll ({ frames := 6, cells := 0, slots := 0, locals := 139 }) D L ac X [.ref (L 15)] X0 := by
  refine Met.ofK (cc := cX9_reckonsAll) (maxL := 2) (ret := none) (lv := [(0, .ref (L 15))]) (by decide +kernel) rfl (Nat.le_of_ble_eq_true rfl) rfl ?_
  intro p e s m below meth c F hO ls hl
  obtain ⟨hx, hb, hr, hts, hown, hlocks, hml, hK, hN⟩ := id F
  have hA : ∀ q, fr L q → fr L q := fun q h => h
  unfold fX9_reckonsAll at hf
  refine lv_iconst (v := 0) hx hb dX9_reckonsAll_0 (by decide) ?_
  refine lv_istore_n (lv' := [(1, .int 0), (0, .ref (L 15))]) hx hb dX9_reckonsAll_1 rfl hl (by decide) rfl (fun ls_10 hl_10 => ?_)
  clear hl
  exact wX9_reckonsAll_2 hL F  fuel _ _  _ _ _ hO (lv_sub hl_10 [1, 0] rfl) hf
def fX9_code   (X : XM) : Option (Int32 × XM) := zi (fX9_unit 0 X) (fun r_5 X_4 => zi (fX9_of 0 0 X_4) (fun r_8 X_7 => zl (0 + (r_5 * r_8)) (fun v_10 => zi (fX9_unit 1 X_7) (fun r_15 X_14 => zi (fX9_of 1 0 X_14) (fun r_18 X_17 => zl (v_10 + (r_15 * r_18)) (fun v_20 => zi (fX9_unit 2 X_17) (fun r_25 X_24 => zi (fX9_of 2 0 X_24) (fun r_28 X_27 => zl (v_20 + (r_25 * r_28)) (fun v_30 => zi (fX9_unit 3 X_27) (fun r_35 X_34 => zi (fX9_of 3 0 X_34) (fun r_38 X_37 => zl (v_30 + (r_35 * r_38)) (fun v_40 => some (v_40, X_37)))))))))))))
set_option maxHeartbeats 4000000 in
set_option maxRecDepth 100000 in
theorem mX9_code (l : Launch) (D : va_G) (L : Nat → Nat) (ac : Nat → ClassId) (hL : LL L) (X : XM)  (r0 : Int32) (X0 : XM) (hf : fX9_code  X = some (r0, X0)) : Ci l yX9_code wsX9_code ({ frames := 1, cells := 0, slots := 0, locals := 22 }) D L ac X [.ref (L 15)] r0 X0 := by
  refine Met.ofK (cc := cX9_code) (maxL := 3) (ret := (some .int)) (lv := [(0, .ref (L 15))]) (by decide +kernel) rfl (Nat.le_of_ble_eq_true rfl) rfl ?_
  intro p e s m below meth c F hO ls hl
  obtain ⟨hx, hb, hr, hts, hown, hlocks, hml, hK, hN⟩ := id F
  have hA : ∀ q, fr L q → fr L q := fun q h => h
  unfold fX9_code at hf
  refine lv_iconst (v := 0) hx hb dX9_code_0 (by decide) ?_
  refine lv_istore_n (lv' := [(1, .int 0), (0, .ref (L 15))]) hx hb dX9_code_1 rfl hl (by decide) rfl (fun ls_1 hl_1 => ?_)
  clear hl
  refine lv_iconst (v := 0) hx hb dX9_code_2 (by decide) ?_
  refine lv_istore_n (lv' := [(2, .int 0), (1, .int 0), (0, .ref (L 15))]) hx hb dX9_code_3 rfl hl_1 (by decide) rfl (fun ls_2 hl_2 => ?_)
  clear hl_1
  refine lv_iload_n hx hb dX9_code_4 rfl (lv_at hl_2 0 rfl) ?_
  refine lv_iconst (v := 4) hx hb dX9_code_5 (by decide) ?_
  refine lv_icmp_ge (tgt := 29) hx hb dX9_code_6 (by decide) (fun c_3 => absurd c_3 (by decide)) (fun _ => ?_)
  refine lv_iload_n hx hb dX9_code_9 rfl (lv_at hl_2 1 rfl) ?_
  refine lv_iload_n hx hb dX9_code_10 rfl (lv_at hl_2 0 rfl) ?_
  replace hf := zi_some hf
  obtain ⟨r_5, X_4, hc_4, hf⟩ := hf
  refine k_ai (va_runS (As := [.int 0]) (rest := [.int 0]) ⟨hx, hb, hml, hown, hts⟩ (mX9_unit l D L ac hL _ 0 _ _ hc_4) (va_cwS 1 hts gX9_code_X9_unit rfl rfl rfl (by decide +kernel) ⟨Nat.le_of_ble_eq_true rfl, Nat.le_of_ble_eq_true rfl⟩) (k_ps hK hN hO _) rfl rfl hl_2.1 rfl (lv_room (Nat.le_of_ble_eq_true rfl)) dX9_code_11 ⟨Nat.le_of_ble_eq_true rfl, Nat.le_of_ble_eq_true rfl⟩) hA hO (fun H_6 locs_6 hO_6 => ?_)
  clear hO
  refine lv_aload_n hx hb dX9_code_14 rfl (lv_at hl_2 2 rfl) ?_
  refine lv_iload_n hx hb dX9_code_15 rfl (lv_at hl_2 0 rfl) ?_
  refine lv_iconst (v := 0) hx hb dX9_code_16 (by decide) ?_
  replace hf := zi_some hf
  obtain ⟨r_8, X_7, hc_7, hf⟩ := hf
  refine k_ai (va_runV (As := [.int 0, .int 0]) (rest := [.int r_5, .int 0]) ⟨hx, hb, hml, hown, hts⟩ (mX9_of l D L ac hL _ 0 0 _ _ hc_7) (cwV 2 hts gX9_code_X9_of rfl rfl rfl (by decide +kernel) ⟨Nat.le_of_ble_eq_true rfl, Nat.le_of_ble_eq_true rfl⟩) (k_pv (j := 15) hK hN hO_6 (by decide) rfl rfl _) rfl rfl hl_2.1 rfl (lv_room (Nat.le_of_ble_eq_true rfl)) dX9_code_17 ⟨Nat.le_of_ble_eq_true rfl, Nat.le_of_ble_eq_true rfl⟩) hA hO_6 (fun H_9 locs_9 hO_9 => ?_)
  clear hO_6
  refine lv_imul hx hb dX9_code_20 ?_
  refine lv_iadd hx hb dX9_code_21 ?_
  replace hf := zl_some hf
  obtain ⟨v_10, hv_10, hf⟩ := hf
  refine lv_tope hv_10 ?_
  refine lv_istore_n (lv' := [(1, .int v_10), (2, .int 0), (0, .ref (L 15))]) hx hb dX9_code_22 rfl hl_2 (by decide) rfl (fun ls_11 hl_11 => ?_)
  clear hl_2
  refine lv_iinc (v := 1) (lv' := [(2, .int 1), (1, .int v_10), (0, .ref (L 15))]) hx hb dX9_code_23 hl_11 (k := 1) rfl (by decide) (by decide) rfl (fun ls_12 hl_12 => ?_)
  clear hl_11
  refine lv_goto (tgt := 4) hx hb dX9_code_26 (by decide) ?_
  refine lv_iload_n hx hb dX9_code_4 rfl (lv_at hl_12 0 rfl) ?_
  refine lv_iconst (v := 4) hx hb dX9_code_5 (by decide) ?_
  refine lv_icmp_ge (tgt := 29) hx hb dX9_code_6 (by decide) (fun c_13 => absurd c_13 (by decide)) (fun _ => ?_)
  refine lv_iload_n hx hb dX9_code_9 rfl (lv_at hl_12 1 rfl) ?_
  refine lv_iload_n hx hb dX9_code_10 rfl (lv_at hl_12 0 rfl) ?_
  replace hf := zi_some hf
  obtain ⟨r_15, X_14, hc_14, hf⟩ := hf
  refine k_ai (va_runS (As := [.int 1]) (rest := [.int v_10]) ⟨hx, hb, hml, hown, hts⟩ (mX9_unit l D L ac hL _ 1 _ _ hc_14) (va_cwS 1 hts gX9_code_X9_unit rfl rfl rfl (by decide +kernel) ⟨Nat.le_of_ble_eq_true rfl, Nat.le_of_ble_eq_true rfl⟩) (k_ps hK hN hO_9 _) rfl rfl hl_12.1 rfl (lv_room (Nat.le_of_ble_eq_true rfl)) dX9_code_11 ⟨Nat.le_of_ble_eq_true rfl, Nat.le_of_ble_eq_true rfl⟩) hA hO_9 (fun H_16 locs_16 hO_16 => ?_)
  clear hO_9
  refine lv_aload_n hx hb dX9_code_14 rfl (lv_at hl_12 2 rfl) ?_
  refine lv_iload_n hx hb dX9_code_15 rfl (lv_at hl_12 0 rfl) ?_
  refine lv_iconst (v := 0) hx hb dX9_code_16 (by decide) ?_
  replace hf := zi_some hf
  obtain ⟨r_18, X_17, hc_17, hf⟩ := hf
  refine k_ai (va_runV (As := [.int 1, .int 0]) (rest := [.int r_15, .int v_10]) ⟨hx, hb, hml, hown, hts⟩ (mX9_of l D L ac hL _ 1 0 _ _ hc_17) (cwV 2 hts gX9_code_X9_of rfl rfl rfl (by decide +kernel) ⟨Nat.le_of_ble_eq_true rfl, Nat.le_of_ble_eq_true rfl⟩) (k_pv (j := 15) hK hN hO_16 (by decide) rfl rfl _) rfl rfl hl_12.1 rfl (lv_room (Nat.le_of_ble_eq_true rfl)) dX9_code_17 ⟨Nat.le_of_ble_eq_true rfl, Nat.le_of_ble_eq_true rfl⟩) hA hO_16 (fun H_19 locs_19 hO_19 => ?_)
  clear hO_16
  refine lv_imul hx hb dX9_code_20 ?_
  refine lv_iadd hx hb dX9_code_21 ?_
  replace hf := zl_some hf
  obtain ⟨v_20, hv_20, hf⟩ := hf
  refine lv_tope hv_20 ?_
  refine lv_istore_n (lv' := [(1, .int v_20), (2, .int 1), (0, .ref (L 15))]) hx hb dX9_code_22 rfl hl_12 (by decide) rfl (fun ls_21 hl_21 => ?_)
  clear hl_12
  refine lv_iinc (v := 2) (lv' := [(2, .int 2), (1, .int v_20), (0, .ref (L 15))]) hx hb dX9_code_23 hl_21 (k := 1) rfl (by decide) (by decide) rfl (fun ls_22 hl_22 => ?_)
  clear hl_21
  refine lv_goto (tgt := 4) hx hb dX9_code_26 (by decide) ?_
  refine lv_iload_n hx hb dX9_code_4 rfl (lv_at hl_22 0 rfl) ?_
  refine lv_iconst (v := 4) hx hb dX9_code_5 (by decide) ?_
  refine lv_icmp_ge (tgt := 29) hx hb dX9_code_6 (by decide) (fun c_23 => absurd c_23 (by decide)) (fun _ => ?_)
  refine lv_iload_n hx hb dX9_code_9 rfl (lv_at hl_22 1 rfl) ?_
  refine lv_iload_n hx hb dX9_code_10 rfl (lv_at hl_22 0 rfl) ?_
  replace hf := zi_some hf
  obtain ⟨r_25, X_24, hc_24, hf⟩ := hf
  refine k_ai (va_runS (As := [.int 2]) (rest := [.int v_20]) ⟨hx, hb, hml, hown, hts⟩ (mX9_unit l D L ac hL _ 2 _ _ hc_24) (va_cwS 1 hts gX9_code_X9_unit rfl rfl rfl (by decide +kernel) ⟨Nat.le_of_ble_eq_true rfl, Nat.le_of_ble_eq_true rfl⟩) (k_ps hK hN hO_19 _) rfl rfl hl_22.1 rfl (lv_room (Nat.le_of_ble_eq_true rfl)) dX9_code_11 ⟨Nat.le_of_ble_eq_true rfl, Nat.le_of_ble_eq_true rfl⟩) hA hO_19 (fun H_26 locs_26 hO_26 => ?_)
  clear hO_19
  refine lv_aload_n hx hb dX9_code_14 rfl (lv_at hl_22 2 rfl) ?_
  refine lv_iload_n hx hb dX9_code_15 rfl (lv_at hl_22 0 rfl) ?_
  refine lv_iconst (v := 0) hx hb dX9_code_16 (by decide) ?_
  replace hf := zi_some hf
  obtain ⟨r_28, X_27, hc_27, hf⟩ := hf
  refine k_ai (va_runV (As := [.int 2, .int 0]) (rest := [.int r_25, .int v_20]) ⟨hx, hb, hml, hown, hts⟩ (mX9_of l D L ac hL _ 2 0 _ _ hc_27) (cwV 2 hts gX9_code_X9_of rfl rfl rfl (by decide +kernel) ⟨Nat.le_of_ble_eq_true rfl, Nat.le_of_ble_eq_true rfl⟩) (k_pv (j := 15) hK hN hO_26 (by decide) rfl rfl _) rfl rfl hl_22.1 rfl (lv_room (Nat.le_of_ble_eq_true rfl)) dX9_code_17 ⟨Nat.le_of_ble_eq_true rfl, Nat.le_of_ble_eq_true rfl⟩) hA hO_26 (fun H_29 locs_29 hO_29 => ?_)
  clear hO_26
  refine lv_imul hx hb dX9_code_20 ?_
  refine lv_iadd hx hb dX9_code_21 ?_
  replace hf := zl_some hf
  obtain ⟨v_30, hv_30, hf⟩ := hf
  refine lv_tope hv_30 ?_
  refine lv_istore_n (lv' := [(1, .int v_30), (2, .int 2), (0, .ref (L 15))]) hx hb dX9_code_22 rfl hl_22 (by decide) rfl (fun ls_31 hl_31 => ?_)
  clear hl_22
  refine lv_iinc (v := 3) (lv' := [(2, .int 3), (1, .int v_30), (0, .ref (L 15))]) hx hb dX9_code_23 hl_31 (k := 1) rfl (by decide) (by decide) rfl (fun ls_32 hl_32 => ?_)
  clear hl_31
  refine lv_goto (tgt := 4) hx hb dX9_code_26 (by decide) ?_
  refine lv_iload_n hx hb dX9_code_4 rfl (lv_at hl_32 0 rfl) ?_
  refine lv_iconst (v := 4) hx hb dX9_code_5 (by decide) ?_
  refine lv_icmp_ge (tgt := 29) hx hb dX9_code_6 (by decide) (fun c_33 => absurd c_33 (by decide)) (fun _ => ?_)
  refine lv_iload_n hx hb dX9_code_9 rfl (lv_at hl_32 1 rfl) ?_
  refine lv_iload_n hx hb dX9_code_10 rfl (lv_at hl_32 0 rfl) ?_
  replace hf := zi_some hf
  obtain ⟨r_35, X_34, hc_34, hf⟩ := hf
  refine k_ai (va_runS (As := [.int 3]) (rest := [.int v_30]) ⟨hx, hb, hml, hown, hts⟩ (mX9_unit l D L ac hL _ 3 _ _ hc_34) (va_cwS 1 hts gX9_code_X9_unit rfl rfl rfl (by decide +kernel) ⟨Nat.le_of_ble_eq_true rfl, Nat.le_of_ble_eq_true rfl⟩) (k_ps hK hN hO_29 _) rfl rfl hl_32.1 rfl (lv_room (Nat.le_of_ble_eq_true rfl)) dX9_code_11 ⟨Nat.le_of_ble_eq_true rfl, Nat.le_of_ble_eq_true rfl⟩) hA hO_29 (fun H_36 locs_36 hO_36 => ?_)
  clear hO_29
  refine lv_aload_n hx hb dX9_code_14 rfl (lv_at hl_32 2 rfl) ?_
  refine lv_iload_n hx hb dX9_code_15 rfl (lv_at hl_32 0 rfl) ?_
  refine lv_iconst (v := 0) hx hb dX9_code_16 (by decide) ?_
  replace hf := zi_some hf
  obtain ⟨r_38, X_37, hc_37, hf⟩ := hf
  refine k_ai (va_runV (As := [.int 3, .int 0]) (rest := [.int r_35, .int v_30]) ⟨hx, hb, hml, hown, hts⟩ (mX9_of l D L ac hL _ 3 0 _ _ hc_37) (cwV 2 hts gX9_code_X9_of rfl rfl rfl (by decide +kernel) ⟨Nat.le_of_ble_eq_true rfl, Nat.le_of_ble_eq_true rfl⟩) (k_pv (j := 15) hK hN hO_36 (by decide) rfl rfl _) rfl rfl hl_32.1 rfl (lv_room (Nat.le_of_ble_eq_true rfl)) dX9_code_17 ⟨Nat.le_of_ble_eq_true rfl, Nat.le_of_ble_eq_true rfl⟩) hA hO_36 (fun H_39 locs_39 hO_39 => ?_)
  clear hO_36
  refine lv_imul hx hb dX9_code_20 ?_
  refine lv_iadd hx hb dX9_code_21 ?_
  replace hf := zl_some hf
  obtain ⟨v_40, hv_40, hf⟩ := hf
  refine lv_tope hv_40 ?_
  refine lv_istore_n (lv' := [(1, .int v_40), (2, .int 3), (0, .ref (L 15))]) hx hb dX9_code_22 rfl hl_32 (by decide) rfl (fun ls_41 hl_41 => ?_)
  clear hl_32
  refine lv_iinc (v := 4) (lv' := [(2, .int 4), (1, .int v_40), (0, .ref (L 15))]) hx hb dX9_code_23 hl_41 (k := 1) rfl (by decide) (by decide) rfl (fun ls_42 hl_42 => ?_)
  clear hl_41
  refine lv_goto (tgt := 4) hx hb dX9_code_26 (by decide) ?_
  refine lv_iload_n hx hb dX9_code_4 rfl (lv_at hl_42 0 rfl) ?_
  refine lv_iconst (v := 4) hx hb dX9_code_5 (by decide) ?_
  refine lv_icmp_ge (tgt := 29) hx hb dX9_code_6 (by decide) (fun _ => ?_) (fun c_43 => absurd (by decide) c_43)
  refine lv_iload_n hx hb dX9_code_29 rfl (lv_at hl_42 1 rfl) ?_
  obtain ⟨rfl, rfl⟩ := Prod.mk.inj (Option.some.inj hf)
  exact e_i hx hb hr hK hN hO_39 hlocks dX9_code_30
theorem in_X9_own_X9 : ∀ w ∈ u_ws RX9 TX9 16, w ∈ wsX9_own := by decide +kernel
theorem lk_X9_own_f7 : Cond.fieldLink RX9 7 "PoisonPilesModel" "s" "[I" ∈ wsX9_own := by decide +kernel
def fX9_own   (X : XM) : Option (Int32 × XM) := zd (7 + (X 23 3)) 27 (some (X 23 (Int32.toNatClampNeg (7 + (X 23 3))), X))
set_option maxHeartbeats 4000000 in
set_option maxRecDepth 100000 in
theorem mX9_own (l : Launch) (D : va_G) (L : Nat → Nat) (ac : Nat → ClassId) (hL : LL L) (X : XM)  (r0 : Int32) (X0 : XM) (hf : fX9_own  X = some (r0, X0)) : Ci l yX9_own wsX9_own ({ frames := 0, cells := 0, slots := 0, locals := 0 }) D L ac X [.ref (L 15)] r0 X0 := by
  refine Met.ofK (cc := cX9_own) (maxL := 1) (ret := (some .int)) (lv := [(0, .ref (L 15))]) (by decide +kernel) rfl (Nat.le_of_ble_eq_true rfl) rfl ?_
  intro p e s m below meth c F hO ls hl
  obtain ⟨hx, hb, hr, hts, hown, hlocks, hml, hK, hN⟩ := id F
  have hA : ∀ q, fr L q → fr L q := fun q h => h
  unfold fX9_own at hf
  refine lv_aload_n hx hb dX9_own_0 rfl (lv_at hl 0 rfl) ?_
  refine k_get (k := 1) (v := .ref (L 16)) hx hb hts in_X9_own_X9 hown hK hO (by decide) rfl rfl (by decide) lk_X9_own_f7 rfl dX9_own_1 ?_
  refine lv_bipush (v := 7) hx hb dX9_own_4 (by decide) ?_
  refine lv_aload_n hx hb dX9_own_6 rfl (lv_at hl 0 rfl) ?_
  refine k_get (k := 1) (v := .ref (L 16)) hx hb hts in_X9_own_X9 hown hK hO (by decide) rfl rfl (by decide) lk_X9_own_f7 rfl dX9_own_7 ?_
  refine lv_iconst (v := 3) hx hb dX9_own_10 (by decide) ?_
  refine k_iald hx hb hK hO (by decide) (fun _ => rfl) (show vp_in 3 27 from by unfold vp_in; decide) dX9_own_11 ?_
  refine lv_tope (z := X 23 3) rfl ?_
  refine lv_iadd hx hb dX9_own_12 ?_
  replace hf := zd_some hf
  obtain ⟨hi_1, hf⟩ := hf
  refine k_iald hx hb hK hO (by decide) (fun _ => rfl) hi_1 dX9_own_13 ?_
  obtain ⟨rfl, rfl⟩ := Prod.mk.inj (Option.some.inj hf)
  exact e_i hx hb hr hK hN hO hlocks dX9_own_14
theorem in_X9_others_X9 : ∀ w ∈ u_ws RX9 TX9 16, w ∈ wsX9_others := by decide +kernel
theorem lk_X9_others_f7 : Cond.fieldLink RX9 7 "PoisonPilesModel" "s" "[I" ∈ wsX9_others := by decide +kernel
def fX9_others   (X : XM) : Option (Int32 × XM) := zd (8 - (X 23 3)) 27 (some (X 23 (Int32.toNatClampNeg (8 - (X 23 3))), X))
set_option maxHeartbeats 4000000 in
set_option maxRecDepth 100000 in
theorem mX9_others (l : Launch) (D : va_G) (L : Nat → Nat) (ac : Nat → ClassId) (hL : LL L) (X : XM)  (r0 : Int32) (X0 : XM) (hf : fX9_others  X = some (r0, X0)) : Ci l yX9_others wsX9_others ({ frames := 0, cells := 0, slots := 0, locals := 0 }) D L ac X [.ref (L 15)] r0 X0 := by
  refine Met.ofK (cc := cX9_others) (maxL := 1) (ret := (some .int)) (lv := [(0, .ref (L 15))]) (by decide +kernel) rfl (Nat.le_of_ble_eq_true rfl) rfl ?_
  intro p e s m below meth c F hO ls hl
  obtain ⟨hx, hb, hr, hts, hown, hlocks, hml, hK, hN⟩ := id F
  have hA : ∀ q, fr L q → fr L q := fun q h => h
  unfold fX9_others at hf
  refine lv_aload_n hx hb dX9_others_0 rfl (lv_at hl 0 rfl) ?_
  refine k_get (k := 1) (v := .ref (L 16)) hx hb hts in_X9_others_X9 hown hK hO (by decide) rfl rfl (by decide) lk_X9_others_f7 rfl dX9_others_1 ?_
  refine lv_bipush (v := 8) hx hb dX9_others_4 (by decide) ?_
  refine lv_aload_n hx hb dX9_others_6 rfl (lv_at hl 0 rfl) ?_
  refine k_get (k := 1) (v := .ref (L 16)) hx hb hts in_X9_others_X9 hown hK hO (by decide) rfl rfl (by decide) lk_X9_others_f7 rfl dX9_others_7 ?_
  refine lv_iconst (v := 3) hx hb dX9_others_10 (by decide) ?_
  refine k_iald hx hb hK hO (by decide) (fun _ => rfl) (show vp_in 3 27 from by unfold vp_in; decide) dX9_others_11 ?_
  refine lv_tope (z := X 23 3) rfl ?_
  refine lv_isub hx hb dX9_others_12 ?_
  replace hf := zd_some hf
  obtain ⟨hi_1, hf⟩ := hf
  refine k_iald hx hb hK hO (by decide) (fun _ => rfl) hi_1 dX9_others_13 ?_
  obtain ⟨rfl, rfl⟩ := Prod.mk.inj (Option.some.inj hf)
  exact e_i hx hb hr hK hN hO hlocks dX9_others_14
theorem in_X9_movesNow_X9 : ∀ w ∈ u_ws RX9 TX9 16, w ∈ wsX9_movesNow := by decide +kernel
theorem lk_X9_movesNow_f7 : Cond.fieldLink RX9 7 "PoisonPilesModel" "s" "[I" ∈ wsX9_movesNow := by decide +kernel
def fX9_movesNow_9   : Nat → Int32 → Int32 → Int32 → XM → Option (Int32 × XM)
  | 0, _, _, _, _ => none
  | n + 1, x1, x2, x3, X => if 21 ≤ x3 then some (x1, X) else if (X 23 5) = 0 then zi (fX9_own X) (fun r_4 X_3 => zi (fX9_can x3 x2 r_4 (X_3 23 4) X_3) (fun r_7 X_6 => if r_7 = 0 then zl (x1 ||| 0) (fun v_10 => fX9_movesNow_9 n v_10 x2 (x3 + 1) X_6) else zl (x1 ||| (o_shl 1 x3)) (fun v_13 => fX9_movesNow_9 n v_13 x2 (x3 + 1) X_6))) else some (x1, X)
set_option maxHeartbeats 4000000 in
set_option maxRecDepth 100000 in
theorem wX9_movesNow_9 {p : Program} {l : Launch} {e : Env} {s : State} {m : MethodId} {args : Array Value} {below : List Frame} {meth : Method} {c : Code} {D : va_G} {L : Nat → Nat} {ac : Nat → ClassId} {r0 : Int32} {X0 : XM} (hL : LL L) (F : Fx p s m args meth c cX9_movesNow 4 (some .int) wsX9_movesNow yX9_movesNow.cls D ac) : ∀ (n : Nat) (x1 : Int32) (x2 : Int32) (x3 : Int32) (X : XM) (H : Heap) (locs : List Loc) (ls : Array Slot), Oh D L ac X (fr L) s.heap H locs → lv_has ls 4 [(0, .ref (L 15)), (1, .int x1), (2, .int x2), (3, .int x3)] → fX9_movesNow_9 n x1 x2 x3 X = some (r0, X0) → W p l e (headSpec wsX9_movesNow ({ frames := 3, cells := 0, slots := 0, locals := 67 })).room s m args below meth c H locs 0 0 (MQ below (va_Qi (fun (r : Int32) (Y : XM) => r = r0 ∧ Y = X0) (fun (Y : XM) t => St D L ac Y t) (fr L)) args s 0 0 (fr L)) (F0 m 9 ls []) := by
  obtain ⟨hx, hb, hr, hts, hown, hlocks, hml, hK, hN⟩ := id F
  have hA : ∀ q, fr L q → fr L q := fun q h => h
  intro n
  induction n with
  | zero => intro x1 x2 x3 X H locs ls hO hl hf; simp [fX9_movesNow_9] at hf
  | succ n ih =>
    intro x1 x2 x3 X H locs ls hO hl hf
    rw [fX9_movesNow_9] at hf
    refine lv_iload_n hx hb dX9_movesNow_9 rfl (lv_at hl 3 rfl) ?_
    refine lv_bipush (v := 21) hx hb dX9_movesNow_10 (by decide) ?_
    refine lv_icmp_ge (tgt := 59) hx hb dX9_movesNow_12 (by decide) (fun c_1 => ?_) (fun c_1 => ?_)
    · rw [if_pos c_1] at hf
      refine lv_iload_n hx hb dX9_movesNow_59 rfl (lv_at hl 1 rfl) ?_
      obtain ⟨rfl, rfl⟩ := Prod.mk.inj (Option.some.inj hf)
      exact e_i hx hb hr hK hN hO hlocks dX9_movesNow_60
    · rw [if_neg c_1] at hf
      refine lv_aload_n hx hb dX9_movesNow_15 rfl (lv_at hl 0 rfl) ?_
      refine k_get (k := 1) (v := .ref (L 16)) hx hb hts in_X9_movesNow_X9 hown hK hO (by decide) rfl rfl (by decide) lk_X9_movesNow_f7 rfl dX9_movesNow_16 ?_
      refine lv_iconst (v := 5) hx hb dX9_movesNow_19 (by decide) ?_
      refine k_iald hx hb hK hO (by decide) (fun _ => rfl) (show vp_in 5 27 from by unfold vp_in; decide) dX9_movesNow_20 ?_
      refine lv_tope (z := X 23 5) rfl ?_
      refine lv_if_ne (tgt := 59) hx hb dX9_movesNow_21 (by decide) (fun c_2 => ?_) (fun c_2 => ?_)
      · rw [if_neg c_2] at hf
        refine lv_iload_n hx hb dX9_movesNow_59 rfl (lv_at hl 1 rfl) ?_
        obtain ⟨rfl, rfl⟩ := Prod.mk.inj (Option.some.inj hf)
        exact e_i hx hb hr hK hN hO hlocks dX9_movesNow_60
      · rw [if_pos c_2] at hf
        refine lv_iload_n hx hb dX9_movesNow_24 rfl (lv_at hl 1 rfl) ?_
        refine lv_aload_n hx hb dX9_movesNow_25 rfl (lv_at hl 0 rfl) ?_
        refine lv_iload_n hx hb dX9_movesNow_26 rfl (lv_at hl 3 rfl) ?_
        refine lv_iload_n hx hb dX9_movesNow_27 rfl (lv_at hl 2 rfl) ?_
        refine lv_aload_n hx hb dX9_movesNow_28 rfl (lv_at hl 0 rfl) ?_
        replace hf := zi_some hf
        obtain ⟨r_4, X_3, hc_3, hf⟩ := hf
        refine k_ai (va_runV (As := []) (rest := [.int x2, .int x3, .ref (L 15), .int x1]) ⟨hx, hb, hml, hown, hts⟩ (mX9_own l D L ac hL _  _ _ hc_3) (cwV 0 hts gX9_movesNow_X9_own rfl rfl rfl (by decide +kernel) ⟨Nat.le_of_ble_eq_true rfl, Nat.le_of_ble_eq_true rfl⟩) (k_pv (j := 15) hK hN hO (by decide) rfl rfl _) rfl rfl hl.1 rfl (lv_room (Nat.le_of_ble_eq_true rfl)) dX9_movesNow_29 ⟨Nat.le_of_ble_eq_true rfl, Nat.le_of_ble_eq_true rfl⟩) hA hO (fun H_5 locs_5 hO_5 => ?_)
        clear hO
        refine lv_aload_n hx hb dX9_movesNow_32 rfl (lv_at hl 0 rfl) ?_
        refine k_get (k := 1) (v := .ref (L 16)) hx hb hts in_X9_movesNow_X9 hown hK hO_5 (by decide) rfl rfl (by decide) lk_X9_movesNow_f7 rfl dX9_movesNow_33 ?_
        refine lv_iconst (v := 4) hx hb dX9_movesNow_36 (by decide) ?_
        refine k_iald hx hb hK hO_5 (by decide) (fun _ => rfl) (show vp_in 4 27 from by unfold vp_in; decide) dX9_movesNow_37 ?_
        refine lv_tope (z := X_3 23 4) rfl ?_
        replace hf := zi_some hf
        obtain ⟨r_7, X_6, hc_6, hf⟩ := hf
        refine k_ai (va_runV (As := [.int x3, .int x2, .int r_4, .int (X_3 23 4)]) (rest := [.int x1]) ⟨hx, hb, hml, hown, hts⟩ (mX9_can l D L ac hL _ x3 x2 r_4 (X_3 23 4) _ _ hc_6) (cwV 4 hts gX9_movesNow_X9_can rfl rfl rfl (by decide +kernel) ⟨Nat.le_of_ble_eq_true rfl, Nat.le_of_ble_eq_true rfl⟩) (k_pv (j := 15) hK hN hO_5 (by decide) rfl rfl _) rfl rfl hl.1 rfl (lv_room (Nat.le_of_ble_eq_true rfl)) dX9_movesNow_38 ⟨Nat.le_of_ble_eq_true rfl, Nat.le_of_ble_eq_true rfl⟩) hA hO_5 (fun H_8 locs_8 hO_8 => ?_)
        clear hO_5
        refine lv_if_eq (tgt := 50) hx hb dX9_movesNow_41 (by decide) (fun c_9 => ?_) (fun c_9 => ?_)
        · rw [if_pos c_9] at hf
          subst c_9
          refine lv_iconst (v := 0) hx hb dX9_movesNow_50 (by decide) ?_
          refine lv_ior hx hb dX9_movesNow_51 ?_
          replace hf := zl_some hf
          obtain ⟨v_10, hv_10, hf⟩ := hf
          refine lv_tope hv_10 ?_
          refine lv_istore_n (lv' := [(1, .int v_10), (0, .ref (L 15)), (2, .int x2), (3, .int x3)]) hx hb dX9_movesNow_52 rfl hl (by decide) rfl (fun ls_11 hl_11 => ?_)
          clear hl
          refine lv_iinc (v := x3 + 1) (lv' := [(3, .int (x3 + 1)), (1, .int v_10), (0, .ref (L 15)), (2, .int x2)]) hx hb dX9_movesNow_53 hl_11 (k := 3) rfl rfl (by decide) rfl (fun ls_12 hl_12 => ?_)
          clear hl_11
          refine lv_goto (tgt := 9) hx hb dX9_movesNow_56 (by decide) ?_
          exact ih _ _ _ _  _ _ _ hO_8 (lv_sub hl_12 [2, 1, 3, 0] rfl) hf
        · rw [if_neg c_9] at hf
          refine lv_iconst (v := 1) hx hb dX9_movesNow_44 (by decide) ?_
          refine lv_iload_n hx hb dX9_movesNow_45 rfl (lv_at hl 3 rfl) ?_
          refine lv_ishl hx hb dX9_movesNow_46 ?_
          refine lv_goto (tgt := 51) hx hb dX9_movesNow_47 (by decide) ?_
          refine lv_ior hx hb dX9_movesNow_51 ?_
          replace hf := zl_some hf
          obtain ⟨v_13, hv_13, hf⟩ := hf
          refine lv_tope hv_13 ?_
          refine lv_istore_n (lv' := [(1, .int v_13), (0, .ref (L 15)), (2, .int x2), (3, .int x3)]) hx hb dX9_movesNow_52 rfl hl (by decide) rfl (fun ls_14 hl_14 => ?_)
          clear hl
          refine lv_iinc (v := x3 + 1) (lv' := [(3, .int (x3 + 1)), (1, .int v_13), (0, .ref (L 15)), (2, .int x2)]) hx hb dX9_movesNow_53 hl_14 (k := 3) rfl rfl (by decide) rfl (fun ls_15 hl_15 => ?_)
          clear hl_14
          refine lv_goto (tgt := 9) hx hb dX9_movesNow_56 (by decide) ?_
          exact ih _ _ _ _  _ _ _ hO_8 (lv_sub hl_15 [2, 1, 3, 0] rfl) hf
def fX9_movesNow   (X : XM) : Option (Int32 × XM) := zi (fX9_code X) (fun r_18 X_17 => fX9_movesNow_9 fuel 0 r_18 0 X_17)
set_option maxHeartbeats 4000000 in
set_option maxRecDepth 100000 in
theorem mX9_movesNow (l : Launch) (D : va_G) (L : Nat → Nat) (ac : Nat → ClassId) (hL : LL L) (X : XM)  (r0 : Int32) (X0 : XM) (hf : fX9_movesNow  X = some (r0, X0)) : Ci l yX9_movesNow wsX9_movesNow ({ frames := 3, cells := 0, slots := 0, locals := 67 }) D L ac X [.ref (L 15)] r0 X0 := by
  refine Met.ofK (cc := cX9_movesNow) (maxL := 4) (ret := (some .int)) (lv := [(0, .ref (L 15))]) (by decide +kernel) rfl (Nat.le_of_ble_eq_true rfl) rfl ?_
  intro p e s m below meth c F hO ls hl
  obtain ⟨hx, hb, hr, hts, hown, hlocks, hml, hK, hN⟩ := id F
  have hA : ∀ q, fr L q → fr L q := fun q h => h
  unfold fX9_movesNow at hf
  refine lv_iconst (v := 0) hx hb dX9_movesNow_0 (by decide) ?_
  refine lv_istore_n (lv' := [(1, .int 0), (0, .ref (L 15))]) hx hb dX9_movesNow_1 rfl hl (by decide) rfl (fun ls_16 hl_16 => ?_)
  clear hl
  refine lv_aload_n hx hb dX9_movesNow_2 rfl (lv_at hl_16 1 rfl) ?_
  replace hf := zi_some hf
  obtain ⟨r_18, X_17, hc_17, hf⟩ := hf
  refine k_ai (va_runV (As := []) (rest := []) ⟨hx, hb, hml, hown, hts⟩ (mX9_code l D L ac hL _  _ _ hc_17) (cwV 0 hts gX9_movesNow_X9_code rfl rfl rfl (by decide +kernel) ⟨Nat.le_of_ble_eq_true rfl, Nat.le_of_ble_eq_true rfl⟩) (k_pv (j := 15) hK hN hO (by decide) rfl rfl _) rfl rfl hl_16.1 rfl (lv_room (Nat.le_of_ble_eq_true rfl)) dX9_movesNow_3 ⟨Nat.le_of_ble_eq_true rfl, Nat.le_of_ble_eq_true rfl⟩) hA hO (fun H_19 locs_19 hO_19 => ?_)
  clear hO
  refine lv_istore_n (lv' := [(2, .int r_18), (1, .int 0), (0, .ref (L 15))]) hx hb dX9_movesNow_6 rfl hl_16 (by decide) rfl (fun ls_20 hl_20 => ?_)
  clear hl_16
  refine lv_iconst (v := 0) hx hb dX9_movesNow_7 (by decide) ?_
  refine lv_istore_n (lv' := [(3, .int 0), (2, .int r_18), (1, .int 0), (0, .ref (L 15))]) hx hb dX9_movesNow_8 rfl hl_20 (by decide) rfl (fun ls_21 hl_21 => ?_)
  clear hl_20
  exact wX9_movesNow_9 hL F  fuel _ _ _ _  _ _ _ hO_19 (lv_sub hl_21 [3, 2, 1, 0] rfl) hf
def fX9_isOver   (X : XM) : Option (Int32 × XM) := zi (fX9_movesNow X) (fun r_2 X_1 => if r_2 = 0 then some (1, X_1) else some (0, X_1))
set_option maxHeartbeats 4000000 in
set_option maxRecDepth 100000 in
theorem mX9_isOver (l : Launch) (D : va_G) (L : Nat → Nat) (ac : Nat → ClassId) (hL : LL L) (X : XM)  (r0 : Int32) (X0 : XM) (hf : fX9_isOver  X = some (r0, X0)) : Ci l yX9_isOver wsX9_isOver ({ frames := 4, cells := 0, slots := 0, locals := 90 }) D L ac X [.ref (L 15)] r0 X0 := by
  refine Met.ofK (cc := cX9_isOver) (maxL := 1) (ret := (some .boolean)) (lv := [(0, .ref (L 15))]) (by decide +kernel) rfl (Nat.le_of_ble_eq_true rfl) rfl ?_
  intro p e s m below meth c F hO ls hl
  obtain ⟨hx, hb, hr, hts, hown, hlocks, hml, hK, hN⟩ := id F
  have hA : ∀ q, fr L q → fr L q := fun q h => h
  unfold fX9_isOver at hf
  refine lv_aload_n hx hb dX9_isOver_0 rfl (lv_at hl 0 rfl) ?_
  replace hf := zi_some hf
  obtain ⟨r_2, X_1, hc_1, hf⟩ := hf
  refine k_ai (va_runV (As := []) (rest := []) ⟨hx, hb, hml, hown, hts⟩ (mX9_movesNow l D L ac hL _  _ _ hc_1) (cwV 0 hts gX9_isOver_X9_movesNow rfl rfl rfl (by decide +kernel) ⟨Nat.le_of_ble_eq_true rfl, Nat.le_of_ble_eq_true rfl⟩) (k_pv (j := 15) hK hN hO (by decide) rfl rfl _) rfl rfl hl.1 rfl (lv_room (Nat.le_of_ble_eq_true rfl)) dX9_isOver_1 ⟨Nat.le_of_ble_eq_true rfl, Nat.le_of_ble_eq_true rfl⟩) hA hO (fun H_3 locs_3 hO_3 => ?_)
  clear hO
  refine lv_if_ne (tgt := 11) hx hb dX9_isOver_4 (by decide) (fun c_4 => ?_) (fun c_4 => ?_)
  · rw [if_neg c_4] at hf
    refine lv_iconst (v := 0) hx hb dX9_isOver_11 (by decide) ?_
    obtain ⟨rfl, rfl⟩ := Prod.mk.inj (Option.some.inj hf)
    exact e_n hx hb hr (bo_n (by decide)) hK hN hO_3 hlocks dX9_isOver_12
  · rw [if_pos c_4] at hf
    subst c_4
    refine lv_iconst (v := 1) hx hb dX9_isOver_7 (by decide) ?_
    refine lv_goto (tgt := 12) hx hb dX9_isOver_8 (by decide) ?_
    obtain ⟨rfl, rfl⟩ := Prod.mk.inj (Option.some.inj hf)
    exact e_n hx hb hr (bo_n (by decide)) hK hN hO_3 hlocks dX9_isOver_12
theorem in_X9_winner_X9 : ∀ w ∈ u_ws RX9 TX9 16, w ∈ wsX9_winner := by decide +kernel
theorem lk_X9_winner_f7 : Cond.fieldLink RX9 7 "PoisonPilesModel" "s" "[I" ∈ wsX9_winner := by decide +kernel
def fX9_winner   (X : XM) : Option (Int32 × XM) := zi (fX9_isOver X) (fun r_2 X_1 => if r_2 = 0 then some ((-6), X_1) else if (X_1 23 5) = 1 then some (X_1 23 3, X_1) else some (1 - (X_1 23 3), X_1))
set_option maxHeartbeats 4000000 in
set_option maxRecDepth 100000 in
theorem mX9_winner (l : Launch) (D : va_G) (L : Nat → Nat) (ac : Nat → ClassId) (hL : LL L) (X : XM)  (r0 : Int32) (X0 : XM) (hf : fX9_winner  X = some (r0, X0)) : Ci l yX9_winner wsX9_winner ({ frames := 5, cells := 0, slots := 0, locals := 110 }) D L ac X [.ref (L 15)] r0 X0 := by
  refine Met.ofK (cc := cX9_winner) (maxL := 1) (ret := (some .int)) (lv := [(0, .ref (L 15))]) (by decide +kernel) rfl (Nat.le_of_ble_eq_true rfl) rfl ?_
  intro p e s m below meth c F hO ls hl
  obtain ⟨hx, hb, hr, hts, hown, hlocks, hml, hK, hN⟩ := id F
  have hA : ∀ q, fr L q → fr L q := fun q h => h
  unfold fX9_winner at hf
  refine lv_aload_n hx hb dX9_winner_0 rfl (lv_at hl 0 rfl) ?_
  replace hf := zi_some hf
  obtain ⟨r_2, X_1, hc_1, hf⟩ := hf
  refine k_ai (va_runV (As := []) (rest := []) ⟨hx, hb, hml, hown, hts⟩ (mX9_isOver l D L ac hL _  _ _ hc_1) (cwV 0 hts gX9_winner_X9_isOver rfl rfl rfl (by decide +kernel) ⟨Nat.le_of_ble_eq_true rfl, Nat.le_of_ble_eq_true rfl⟩) (k_pv (j := 15) hK hN hO (by decide) rfl rfl _) rfl rfl hl.1 rfl (lv_room (Nat.le_of_ble_eq_true rfl)) dX9_winner_1 ⟨Nat.le_of_ble_eq_true rfl, Nat.le_of_ble_eq_true rfl⟩) hA hO (fun H_3 locs_3 hO_3 => ?_)
  clear hO
  refine lv_if_ne (tgt := 12) hx hb dX9_winner_4 (by decide) (fun c_4 => ?_) (fun c_4 => ?_)
  · rw [if_neg c_4] at hf
    refine lv_aload_n hx hb dX9_winner_12 rfl (lv_at hl 0 rfl) ?_
    refine k_get (k := 1) (v := .ref (L 16)) hx hb hts in_X9_winner_X9 hown hK hO_3 (by decide) rfl rfl (by decide) lk_X9_winner_f7 rfl dX9_winner_13 ?_
    refine lv_iconst (v := 5) hx hb dX9_winner_16 (by decide) ?_
    refine k_iald hx hb hK hO_3 (by decide) (fun _ => rfl) (show vp_in 5 27 from by unfold vp_in; decide) dX9_winner_17 ?_
    refine lv_tope (z := X_1 23 5) rfl ?_
    refine lv_iconst (v := 1) hx hb dX9_winner_18 (by decide) ?_
    refine lv_icmp_ne (tgt := 31) hx hb dX9_winner_19 (by decide) (fun c_5 => ?_) (fun c_5 => ?_)
    · rw [if_neg c_5] at hf
      refine lv_iconst (v := 1) hx hb dX9_winner_31 (by decide) ?_
      refine lv_aload_n hx hb dX9_winner_32 rfl (lv_at hl 0 rfl) ?_
      refine k_get (k := 1) (v := .ref (L 16)) hx hb hts in_X9_winner_X9 hown hK hO_3 (by decide) rfl rfl (by decide) lk_X9_winner_f7 rfl dX9_winner_33 ?_
      refine lv_iconst (v := 3) hx hb dX9_winner_36 (by decide) ?_
      refine k_iald hx hb hK hO_3 (by decide) (fun _ => rfl) (show vp_in 3 27 from by unfold vp_in; decide) dX9_winner_37 ?_
      refine lv_tope (z := X_1 23 3) rfl ?_
      refine lv_isub hx hb dX9_winner_38 ?_
      obtain ⟨rfl, rfl⟩ := Prod.mk.inj (Option.some.inj hf)
      exact e_i hx hb hr hK hN hO_3 hlocks dX9_winner_39
    · rw [if_pos c_5] at hf
      refine lv_aload_n hx hb dX9_winner_22 rfl (lv_at hl 0 rfl) ?_
      refine k_get (k := 1) (v := .ref (L 16)) hx hb hts in_X9_winner_X9 hown hK hO_3 (by decide) rfl rfl (by decide) lk_X9_winner_f7 rfl dX9_winner_23 ?_
      refine lv_iconst (v := 3) hx hb dX9_winner_26 (by decide) ?_
      refine k_iald hx hb hK hO_3 (by decide) (fun _ => rfl) (show vp_in 3 27 from by unfold vp_in; decide) dX9_winner_27 ?_
      refine lv_tope (z := X_1 23 3) rfl ?_
      refine lv_goto (tgt := 39) hx hb dX9_winner_28 (by decide) ?_
      obtain ⟨rfl, rfl⟩ := Prod.mk.inj (Option.some.inj hf)
      exact e_i hx hb hr hK hN hO_3 hlocks dX9_winner_39
  · rw [if_pos c_4] at hf
    subst c_4
    refine lv_bipush (v := (-6)) hx hb dX9_winner_7 (by decide) ?_
    refine lv_goto (tgt := 39) hx hb dX9_winner_9 (by decide) ?_
    obtain ⟨rfl, rfl⟩ := Prod.mk.inj (Option.some.inj hf)
    exact e_i hx hb hr hK hN hO_3 hlocks dX9_winner_39
theorem in_X9_does_X9 : ∀ w ∈ u_ws RX9 TX9 16, w ∈ wsX9_does := by decide +kernel
theorem lk_X9_does_f7 : Cond.fieldLink RX9 7 "PoisonPilesModel" "s" "[I" ∈ wsX9_does := by decide +kernel
def fX9_does  (a1 : Int32) (X : XM) : Option XM := zd (9 + (X 23 3)) 27 (zi (fX9_gain a1 X) (fun r_3 X_2 => zd (9 + (X 23 3)) 27 (zl (xup X_2 23 (Int32.toNatClampNeg (9 + (X 23 3))) ((X 23 (Int32.toNatClampNeg (9 + (X 23 3)))) + r_3)) (fun X_6 => zi (fX9_code X_6) (fun r_9 X_8 => zi (fX9_isPoisoned a1 r_9 X_8) (fun r_12 X_11 => if r_12 = 0 then zl (xup X_11 23 5 0) (fun X_15 => if a1 = 20 then zl (xup X_15 23 4 1) (fun X_30 => zd (7 + (X_30 23 3)) 27 (zd (7 + (X_30 23 3)) 27 (zl (xup X_30 23 (Int32.toNatClampNeg (7 + (X_30 23 3))) ((X_30 23 (Int32.toNatClampNeg (7 + (X_30 23 3)))) - 1)) (fun X_35 => zl (xup X_35 23 3 (1 - (X_35 23 3))) (fun X_37 => zl (xup X_37 23 6 ((X_37 23 6) + 1)) (fun X_39 => some X_39)))))) else zl (xup X_15 23 4 0) (fun X_18 => zi (fX9_of (a1 / 5) 0 X_18) (fun r_22 X_21 => zv (fX9_lay (a1 / 5) 0 (r_22 - ((o_rem a1 5) + 1)) X_21) (fun X_24 => zl (xup X_24 23 3 (1 - (X_24 23 3))) (fun X_26 => zl (xup X_26 23 6 ((X_26 23 6) + 1)) (fun X_28 => some X_28)))))) else zl (xup X_11 23 5 1) (fun X_41 => if a1 = 20 then zl (xup X_41 23 4 1) (fun X_56 => zd (7 + (X_56 23 3)) 27 (zd (7 + (X_56 23 3)) 27 (zl (xup X_56 23 (Int32.toNatClampNeg (7 + (X_56 23 3))) ((X_56 23 (Int32.toNatClampNeg (7 + (X_56 23 3)))) - 1)) (fun X_61 => zl (xup X_61 23 3 (1 - (X_61 23 3))) (fun X_63 => zl (xup X_63 23 6 ((X_63 23 6) + 1)) (fun X_65 => some X_65)))))) else zl (xup X_41 23 4 0) (fun X_44 => zi (fX9_of (a1 / 5) 0 X_44) (fun r_48 X_47 => zv (fX9_lay (a1 / 5) 0 (r_48 - ((o_rem a1 5) + 1)) X_47) (fun X_50 => zl (xup X_50 23 3 (1 - (X_50 23 3))) (fun X_52 => zl (xup X_52 23 6 ((X_52 23 6) + 1)) (fun X_54 => some X_54))))))))))))
set_option maxHeartbeats 4000000 in
set_option maxRecDepth 100000 in
theorem mX9_does (l : Launch) (D : va_G) (L : Nat → Nat) (ac : Nat → ClassId) (hL : LL L) (X : XM) (a1 : Int32) (X0 : XM) (hf : fX9_does a1 X = some X0) : Cv l yX9_does wsX9_does ({ frames := 3, cells := 0, slots := 0, locals := 63 }) D L ac X [.ref (L 15), .int a1] X0 := by
  refine Met.ofK (cc := cX9_does) (maxL := 2) (ret := none) (lv := [(0, .ref (L 15)), (1, .int a1)]) (by decide +kernel) rfl (Nat.le_of_ble_eq_true rfl) rfl ?_
  intro p e s m below meth c F hO ls hl
  obtain ⟨hx, hb, hr, hts, hown, hlocks, hml, hK, hN⟩ := id F
  have hA : ∀ q, fr L q → fr L q := fun q h => h
  unfold fX9_does at hf
  refine lv_aload_n hx hb dX9_does_0 rfl (lv_at hl 0 rfl) ?_
  refine k_get (k := 1) (v := .ref (L 16)) hx hb hts in_X9_does_X9 hown hK hO (by decide) rfl rfl (by decide) lk_X9_does_f7 rfl dX9_does_1 ?_
  refine lv_bipush (v := 9) hx hb dX9_does_4 (by decide) ?_
  refine lv_aload_n hx hb dX9_does_6 rfl (lv_at hl 0 rfl) ?_
  refine k_get (k := 1) (v := .ref (L 16)) hx hb hts in_X9_does_X9 hown hK hO (by decide) rfl rfl (by decide) lk_X9_does_f7 rfl dX9_does_7 ?_
  refine lv_iconst (v := 3) hx hb dX9_does_10 (by decide) ?_
  refine k_iald hx hb hK hO (by decide) (fun _ => rfl) (show vp_in 3 27 from by unfold vp_in; decide) dX9_does_11 ?_
  refine lv_tope (z := X 23 3) rfl ?_
  refine lv_iadd hx hb dX9_does_12 ?_
  refine lv_dup2_11 hx hb dX9_does_13 rfl rfl ?_
  replace hf := zd_some hf
  obtain ⟨hi_1, hf⟩ := hf
  refine k_iald hx hb hK hO (by decide) (fun _ => rfl) hi_1 dX9_does_14 ?_
  refine lv_aload_n hx hb dX9_does_15 rfl (lv_at hl 0 rfl) ?_
  refine lv_iload_n hx hb dX9_does_16 rfl (lv_at hl 1 rfl) ?_
  replace hf := zi_some hf
  obtain ⟨r_3, X_2, hc_2, hf⟩ := hf
  refine k_ai (va_runV (As := [.int a1]) (rest := [.int (X 23 (Int32.toNatClampNeg (9 + (X 23 3)))), .int (9 + (X 23 3)), .ref (L 16)]) ⟨hx, hb, hml, hown, hts⟩ (mX9_gain l D L ac hL _ a1 _ _ hc_2) (cwV 1 hts gX9_does_X9_gain rfl rfl rfl (by decide +kernel) ⟨Nat.le_of_ble_eq_true rfl, Nat.le_of_ble_eq_true rfl⟩) (k_pv (j := 15) hK hN hO (by decide) rfl rfl _) rfl rfl hl.1 rfl (lv_room (Nat.le_of_ble_eq_true rfl)) dX9_does_17 ⟨Nat.le_of_ble_eq_true rfl, Nat.le_of_ble_eq_true rfl⟩) hA hO (fun H_4 locs_4 hO_4 => ?_)
  clear hO
  refine lv_iadd hx hb dX9_does_20 ?_
  replace hf := zd_some hf
  obtain ⟨hi_5, hf⟩ := hf
  refine k_iast hx hb hK hL hA hO_4 (by decide) (by decide) rfl (fun _ => rfl) hi_5 dX9_does_21 (fun H_7 locs_7 hO_7 => ?_)
  replace hf := zl_some hf
  obtain ⟨X_6, hX_6, hf⟩ := hf
  have hQ_7 := zo_eq hX_6 hO_7
  clear hO_7 hO_4
  refine lv_aload_n hx hb dX9_does_22 rfl (lv_at hl 0 rfl) ?_
  refine k_get (k := 1) (v := .ref (L 16)) hx hb hts in_X9_does_X9 hown hK hQ_7 (by decide) rfl rfl (by decide) lk_X9_does_f7 rfl dX9_does_23 ?_
  refine lv_iconst (v := 5) hx hb dX9_does_26 (by decide) ?_
  refine lv_aload_n hx hb dX9_does_27 rfl (lv_at hl 0 rfl) ?_
  refine lv_iload_n hx hb dX9_does_28 rfl (lv_at hl 1 rfl) ?_
  refine lv_aload_n hx hb dX9_does_29 rfl (lv_at hl 0 rfl) ?_
  replace hf := zi_some hf
  obtain ⟨r_9, X_8, hc_8, hf⟩ := hf
  refine k_ai (va_runV (As := []) (rest := [.int a1, .ref (L 15), .int 5, .ref (L 16)]) ⟨hx, hb, hml, hown, hts⟩ (mX9_code l D L ac hL _  _ _ hc_8) (cwV 0 hts gX9_does_X9_code rfl rfl rfl (by decide +kernel) ⟨Nat.le_of_ble_eq_true rfl, Nat.le_of_ble_eq_true rfl⟩) (k_pv (j := 15) hK hN hQ_7 (by decide) rfl rfl _) rfl rfl hl.1 rfl (lv_room (Nat.le_of_ble_eq_true rfl)) dX9_does_30 ⟨Nat.le_of_ble_eq_true rfl, Nat.le_of_ble_eq_true rfl⟩) hA hQ_7 (fun H_10 locs_10 hO_10 => ?_)
  clear hQ_7
  replace hf := zi_some hf
  obtain ⟨r_12, X_11, hc_11, hf⟩ := hf
  refine k_ai (va_runV (As := [.int a1, .int r_9]) (rest := [.int 5, .ref (L 16)]) ⟨hx, hb, hml, hown, hts⟩ (mX9_isPoisoned l D L ac hL _ a1 r_9 _ _ hc_11) (cwV 2 hts gX9_does_X9_isPoisoned rfl rfl rfl (by decide +kernel) ⟨Nat.le_of_ble_eq_true rfl, Nat.le_of_ble_eq_true rfl⟩) (k_pv (j := 15) hK hN hO_10 (by decide) rfl rfl _) rfl rfl hl.1 rfl (lv_room (Nat.le_of_ble_eq_true rfl)) dX9_does_33 ⟨Nat.le_of_ble_eq_true rfl, Nat.le_of_ble_eq_true rfl⟩) hA hO_10 (fun H_13 locs_13 hO_13 => ?_)
  clear hO_10
  refine lv_if_eq (tgt := 43) hx hb dX9_does_36 (by decide) (fun c_14 => ?_) (fun c_14 => ?_)
  · rw [if_pos c_14] at hf
    subst c_14
    refine lv_iconst (v := 0) hx hb dX9_does_43 (by decide) ?_
    refine k_iast hx hb hK hL hA hO_13 (by decide) (by decide) rfl (fun _ => rfl) (show vp_in 5 27 from by unfold vp_in; decide) dX9_does_44 (fun H_16 locs_16 hO_16 => ?_)
    replace hf := zl_some hf
    obtain ⟨X_15, hX_15, hf⟩ := hf
    have hQ_16 := zo_eq hX_15 hO_16
    clear hO_16 hO_13
    refine lv_aload_n hx hb dX9_does_45 rfl (lv_at hl 0 rfl) ?_
    refine k_get (k := 1) (v := .ref (L 16)) hx hb hts in_X9_does_X9 hown hK hQ_16 (by decide) rfl rfl (by decide) lk_X9_does_f7 rfl dX9_does_46 ?_
    refine lv_iconst (v := 4) hx hb dX9_does_49 (by decide) ?_
    refine lv_iload_n hx hb dX9_does_50 rfl (lv_at hl 1 rfl) ?_
    refine lv_bipush (v := 20) hx hb dX9_does_51 (by decide) ?_
    refine lv_icmp_ne (tgt := 60) hx hb dX9_does_53 (by decide) (fun c_17 => ?_) (fun c_17 => ?_)
    · rw [if_neg c_17] at hf
      refine lv_iconst (v := 0) hx hb dX9_does_60 (by decide) ?_
      refine k_iast hx hb hK hL hA hQ_16 (by decide) (by decide) rfl (fun _ => rfl) (show vp_in 4 27 from by unfold vp_in; decide) dX9_does_61 (fun H_19 locs_19 hO_19 => ?_)
      replace hf := zl_some hf
      obtain ⟨X_18, hX_18, hf⟩ := hf
      have hQ_19 := zo_eq hX_18 hO_19
      clear hO_19 hQ_16
      refine lv_iload_n hx hb dX9_does_62 rfl (lv_at hl 1 rfl) ?_
      refine lv_bipush (v := 20) hx hb dX9_does_63 (by decide) ?_
      refine lv_icmp_ne (tgt := 89) hx hb dX9_does_65 (by decide) (fun _ => ?_) (fun c_20 => absurd c_20 c_17)
      refine lv_aload_n hx hb dX9_does_89 rfl (lv_at hl 0 rfl) ?_
      refine lv_iload_n hx hb dX9_does_90 rfl (lv_at hl 1 rfl) ?_
      refine lv_iconst (v := 5) hx hb dX9_does_91 (by decide) ?_
      refine lv_idiv hx hb dX9_does_92 (by decide) ?_
      refine lv_iconst (v := 0) hx hb dX9_does_93 (by decide) ?_
      refine lv_aload_n hx hb dX9_does_94 rfl (lv_at hl 0 rfl) ?_
      refine lv_iload_n hx hb dX9_does_95 rfl (lv_at hl 1 rfl) ?_
      refine lv_iconst (v := 5) hx hb dX9_does_96 (by decide) ?_
      refine lv_idiv hx hb dX9_does_97 (by decide) ?_
      refine lv_iconst (v := 0) hx hb dX9_does_98 (by decide) ?_
      replace hf := zi_some hf
      obtain ⟨r_22, X_21, hc_21, hf⟩ := hf
      refine k_ai (va_runV (As := [.int (a1 / 5), .int 0]) (rest := [.int 0, .int (a1 / 5), .ref (L 15)]) ⟨hx, hb, hml, hown, hts⟩ (mX9_of l D L ac hL _ (a1 / 5) 0 _ _ hc_21) (cwV 2 hts gX9_does_X9_of rfl rfl rfl (by decide +kernel) ⟨Nat.le_of_ble_eq_true rfl, Nat.le_of_ble_eq_true rfl⟩) (k_pv (j := 15) hK hN hQ_19 (by decide) rfl rfl _) rfl rfl hl.1 rfl (lv_room (Nat.le_of_ble_eq_true rfl)) dX9_does_99 ⟨Nat.le_of_ble_eq_true rfl, Nat.le_of_ble_eq_true rfl⟩) hA hQ_19 (fun H_23 locs_23 hO_23 => ?_)
      clear hQ_19
      refine lv_iload_n hx hb dX9_does_102 rfl (lv_at hl 1 rfl) ?_
      refine lv_iconst (v := 5) hx hb dX9_does_103 (by decide) ?_
      refine lv_irem hx hb dX9_does_104 (by decide) ?_
      refine lv_iconst (v := 1) hx hb dX9_does_105 (by decide) ?_
      refine lv_iadd hx hb dX9_does_106 ?_
      refine lv_isub hx hb dX9_does_107 ?_
      replace hf := zv_some hf
      obtain ⟨X_24, hc_24, hf⟩ := hf
      refine k_av (va_runV (As := [.int (a1 / 5), .int 0, .int (r_22 - ((o_rem a1 5) + 1))]) (rest := []) ⟨hx, hb, hml, hown, hts⟩ (mX9_lay l D L ac hL _ (a1 / 5) 0 (r_22 - ((o_rem a1 5) + 1)) _ hc_24) (cwV 3 hts gX9_does_X9_lay rfl rfl rfl (by decide +kernel) ⟨Nat.le_of_ble_eq_true rfl, Nat.le_of_ble_eq_true rfl⟩) (k_pv (j := 15) hK hN hO_23 (by decide) rfl rfl _) rfl rfl hl.1 rfl (lv_room (Nat.le_of_ble_eq_true rfl)) dX9_does_108 ⟨Nat.le_of_ble_eq_true rfl, Nat.le_of_ble_eq_true rfl⟩) hA hO_23 (fun H_25 locs_25 hO_25 => ?_)
      clear hO_23
      refine lv_aload_n hx hb dX9_does_111 rfl (lv_at hl 0 rfl) ?_
      refine k_get (k := 1) (v := .ref (L 16)) hx hb hts in_X9_does_X9 hown hK hO_25 (by decide) rfl rfl (by decide) lk_X9_does_f7 rfl dX9_does_112 ?_
      refine lv_iconst (v := 3) hx hb dX9_does_115 (by decide) ?_
      refine lv_iconst (v := 1) hx hb dX9_does_116 (by decide) ?_
      refine lv_aload_n hx hb dX9_does_117 rfl (lv_at hl 0 rfl) ?_
      refine k_get (k := 1) (v := .ref (L 16)) hx hb hts in_X9_does_X9 hown hK hO_25 (by decide) rfl rfl (by decide) lk_X9_does_f7 rfl dX9_does_118 ?_
      refine lv_iconst (v := 3) hx hb dX9_does_121 (by decide) ?_
      refine k_iald hx hb hK hO_25 (by decide) (fun _ => rfl) (show vp_in 3 27 from by unfold vp_in; decide) dX9_does_122 ?_
      refine lv_tope (z := X_24 23 3) rfl ?_
      refine lv_isub hx hb dX9_does_123 ?_
      refine k_iast hx hb hK hL hA hO_25 (by decide) (by decide) rfl (fun _ => rfl) (show vp_in 3 27 from by unfold vp_in; decide) dX9_does_124 (fun H_27 locs_27 hO_27 => ?_)
      replace hf := zl_some hf
      obtain ⟨X_26, hX_26, hf⟩ := hf
      have hQ_27 := zo_eq hX_26 hO_27
      clear hO_27 hO_25
      refine lv_aload_n hx hb dX9_does_125 rfl (lv_at hl 0 rfl) ?_
      refine k_get (k := 1) (v := .ref (L 16)) hx hb hts in_X9_does_X9 hown hK hQ_27 (by decide) rfl rfl (by decide) lk_X9_does_f7 rfl dX9_does_126 ?_
      refine lv_bipush (v := 6) hx hb dX9_does_129 (by decide) ?_
      refine lv_dup2_11 hx hb dX9_does_131 rfl rfl ?_
      refine k_iald hx hb hK hQ_27 (by decide) (fun _ => rfl) (show vp_in 6 27 from by unfold vp_in; decide) dX9_does_132 ?_
      refine lv_tope (z := X_26 23 6) rfl ?_
      refine lv_iconst (v := 1) hx hb dX9_does_133 (by decide) ?_
      refine lv_iadd hx hb dX9_does_134 ?_
      refine k_iast hx hb hK hL hA hQ_27 (by decide) (by decide) rfl (fun _ => rfl) (show vp_in 6 27 from by unfold vp_in; decide) dX9_does_135 (fun H_29 locs_29 hO_29 => ?_)
      replace hf := zl_some hf
      obtain ⟨X_28, hX_28, hf⟩ := hf
      have hQ_29 := zo_eq hX_28 hO_29
      clear hO_29 hQ_27
      obtain rfl := Option.some.inj hf
      exact e_v hx hb hr hK hN hQ_29 hlocks dX9_does_136
    · rw [if_pos c_17] at hf
      subst c_17
      refine lv_iconst (v := 1) hx hb dX9_does_56 (by decide) ?_
      refine lv_goto (tgt := 61) hx hb dX9_does_57 (by decide) ?_
      refine k_iast hx hb hK hL hA hQ_16 (by decide) (by decide) rfl (fun _ => rfl) (show vp_in 4 27 from by unfold vp_in; decide) dX9_does_61 (fun H_31 locs_31 hO_31 => ?_)
      replace hf := zl_some hf
      obtain ⟨X_30, hX_30, hf⟩ := hf
      have hQ_31 := zo_eq hX_30 hO_31
      clear hO_31 hQ_16
      refine lv_iload_n hx hb dX9_does_62 rfl (lv_at hl 1 rfl) ?_
      refine lv_bipush (v := 20) hx hb dX9_does_63 (by decide) ?_
      refine lv_icmp_ne (tgt := 89) hx hb dX9_does_65 (by decide) (fun c_32 => absurd (by decide) c_32) (fun _ => ?_)
      refine lv_aload_n hx hb dX9_does_68 rfl (lv_at hl 0 rfl) ?_
      refine k_get (k := 1) (v := .ref (L 16)) hx hb hts in_X9_does_X9 hown hK hQ_31 (by decide) rfl rfl (by decide) lk_X9_does_f7 rfl dX9_does_69 ?_
      refine lv_bipush (v := 7) hx hb dX9_does_72 (by decide) ?_
      refine lv_aload_n hx hb dX9_does_74 rfl (lv_at hl 0 rfl) ?_
      refine k_get (k := 1) (v := .ref (L 16)) hx hb hts in_X9_does_X9 hown hK hQ_31 (by decide) rfl rfl (by decide) lk_X9_does_f7 rfl dX9_does_75 ?_
      refine lv_iconst (v := 3) hx hb dX9_does_78 (by decide) ?_
      refine k_iald hx hb hK hQ_31 (by decide) (fun _ => rfl) (show vp_in 3 27 from by unfold vp_in; decide) dX9_does_79 ?_
      refine lv_tope (z := X_30 23 3) rfl ?_
      refine lv_iadd hx hb dX9_does_80 ?_
      refine lv_dup2_11 hx hb dX9_does_81 rfl rfl ?_
      replace hf := zd_some hf
      obtain ⟨hi_33, hf⟩ := hf
      refine k_iald hx hb hK hQ_31 (by decide) (fun _ => rfl) hi_33 dX9_does_82 ?_
      refine lv_iconst (v := 1) hx hb dX9_does_83 (by decide) ?_
      refine lv_isub hx hb dX9_does_84 ?_
      replace hf := zd_some hf
      obtain ⟨hi_34, hf⟩ := hf
      refine k_iast hx hb hK hL hA hQ_31 (by decide) (by decide) rfl (fun _ => rfl) hi_34 dX9_does_85 (fun H_36 locs_36 hO_36 => ?_)
      replace hf := zl_some hf
      obtain ⟨X_35, hX_35, hf⟩ := hf
      have hQ_36 := zo_eq hX_35 hO_36
      clear hO_36 hQ_31
      refine lv_goto (tgt := 111) hx hb dX9_does_86 (by decide) ?_
      refine lv_aload_n hx hb dX9_does_111 rfl (lv_at hl 0 rfl) ?_
      refine k_get (k := 1) (v := .ref (L 16)) hx hb hts in_X9_does_X9 hown hK hQ_36 (by decide) rfl rfl (by decide) lk_X9_does_f7 rfl dX9_does_112 ?_
      refine lv_iconst (v := 3) hx hb dX9_does_115 (by decide) ?_
      refine lv_iconst (v := 1) hx hb dX9_does_116 (by decide) ?_
      refine lv_aload_n hx hb dX9_does_117 rfl (lv_at hl 0 rfl) ?_
      refine k_get (k := 1) (v := .ref (L 16)) hx hb hts in_X9_does_X9 hown hK hQ_36 (by decide) rfl rfl (by decide) lk_X9_does_f7 rfl dX9_does_118 ?_
      refine lv_iconst (v := 3) hx hb dX9_does_121 (by decide) ?_
      refine k_iald hx hb hK hQ_36 (by decide) (fun _ => rfl) (show vp_in 3 27 from by unfold vp_in; decide) dX9_does_122 ?_
      refine lv_tope (z := X_35 23 3) rfl ?_
      refine lv_isub hx hb dX9_does_123 ?_
      refine k_iast hx hb hK hL hA hQ_36 (by decide) (by decide) rfl (fun _ => rfl) (show vp_in 3 27 from by unfold vp_in; decide) dX9_does_124 (fun H_38 locs_38 hO_38 => ?_)
      replace hf := zl_some hf
      obtain ⟨X_37, hX_37, hf⟩ := hf
      have hQ_38 := zo_eq hX_37 hO_38
      clear hO_38 hQ_36
      refine lv_aload_n hx hb dX9_does_125 rfl (lv_at hl 0 rfl) ?_
      refine k_get (k := 1) (v := .ref (L 16)) hx hb hts in_X9_does_X9 hown hK hQ_38 (by decide) rfl rfl (by decide) lk_X9_does_f7 rfl dX9_does_126 ?_
      refine lv_bipush (v := 6) hx hb dX9_does_129 (by decide) ?_
      refine lv_dup2_11 hx hb dX9_does_131 rfl rfl ?_
      refine k_iald hx hb hK hQ_38 (by decide) (fun _ => rfl) (show vp_in 6 27 from by unfold vp_in; decide) dX9_does_132 ?_
      refine lv_tope (z := X_37 23 6) rfl ?_
      refine lv_iconst (v := 1) hx hb dX9_does_133 (by decide) ?_
      refine lv_iadd hx hb dX9_does_134 ?_
      refine k_iast hx hb hK hL hA hQ_38 (by decide) (by decide) rfl (fun _ => rfl) (show vp_in 6 27 from by unfold vp_in; decide) dX9_does_135 (fun H_40 locs_40 hO_40 => ?_)
      replace hf := zl_some hf
      obtain ⟨X_39, hX_39, hf⟩ := hf
      have hQ_40 := zo_eq hX_39 hO_40
      clear hO_40 hQ_38
      obtain rfl := Option.some.inj hf
      exact e_v hx hb hr hK hN hQ_40 hlocks dX9_does_136
  · rw [if_neg c_14] at hf
    refine lv_iconst (v := 1) hx hb dX9_does_39 (by decide) ?_
    refine lv_goto (tgt := 44) hx hb dX9_does_40 (by decide) ?_
    refine k_iast hx hb hK hL hA hO_13 (by decide) (by decide) rfl (fun _ => rfl) (show vp_in 5 27 from by unfold vp_in; decide) dX9_does_44 (fun H_42 locs_42 hO_42 => ?_)
    replace hf := zl_some hf
    obtain ⟨X_41, hX_41, hf⟩ := hf
    have hQ_42 := zo_eq hX_41 hO_42
    clear hO_42 hO_13
    refine lv_aload_n hx hb dX9_does_45 rfl (lv_at hl 0 rfl) ?_
    refine k_get (k := 1) (v := .ref (L 16)) hx hb hts in_X9_does_X9 hown hK hQ_42 (by decide) rfl rfl (by decide) lk_X9_does_f7 rfl dX9_does_46 ?_
    refine lv_iconst (v := 4) hx hb dX9_does_49 (by decide) ?_
    refine lv_iload_n hx hb dX9_does_50 rfl (lv_at hl 1 rfl) ?_
    refine lv_bipush (v := 20) hx hb dX9_does_51 (by decide) ?_
    refine lv_icmp_ne (tgt := 60) hx hb dX9_does_53 (by decide) (fun c_43 => ?_) (fun c_43 => ?_)
    · rw [if_neg c_43] at hf
      refine lv_iconst (v := 0) hx hb dX9_does_60 (by decide) ?_
      refine k_iast hx hb hK hL hA hQ_42 (by decide) (by decide) rfl (fun _ => rfl) (show vp_in 4 27 from by unfold vp_in; decide) dX9_does_61 (fun H_45 locs_45 hO_45 => ?_)
      replace hf := zl_some hf
      obtain ⟨X_44, hX_44, hf⟩ := hf
      have hQ_45 := zo_eq hX_44 hO_45
      clear hO_45 hQ_42
      refine lv_iload_n hx hb dX9_does_62 rfl (lv_at hl 1 rfl) ?_
      refine lv_bipush (v := 20) hx hb dX9_does_63 (by decide) ?_
      refine lv_icmp_ne (tgt := 89) hx hb dX9_does_65 (by decide) (fun _ => ?_) (fun c_46 => absurd c_46 c_43)
      refine lv_aload_n hx hb dX9_does_89 rfl (lv_at hl 0 rfl) ?_
      refine lv_iload_n hx hb dX9_does_90 rfl (lv_at hl 1 rfl) ?_
      refine lv_iconst (v := 5) hx hb dX9_does_91 (by decide) ?_
      refine lv_idiv hx hb dX9_does_92 (by decide) ?_
      refine lv_iconst (v := 0) hx hb dX9_does_93 (by decide) ?_
      refine lv_aload_n hx hb dX9_does_94 rfl (lv_at hl 0 rfl) ?_
      refine lv_iload_n hx hb dX9_does_95 rfl (lv_at hl 1 rfl) ?_
      refine lv_iconst (v := 5) hx hb dX9_does_96 (by decide) ?_
      refine lv_idiv hx hb dX9_does_97 (by decide) ?_
      refine lv_iconst (v := 0) hx hb dX9_does_98 (by decide) ?_
      replace hf := zi_some hf
      obtain ⟨r_48, X_47, hc_47, hf⟩ := hf
      refine k_ai (va_runV (As := [.int (a1 / 5), .int 0]) (rest := [.int 0, .int (a1 / 5), .ref (L 15)]) ⟨hx, hb, hml, hown, hts⟩ (mX9_of l D L ac hL _ (a1 / 5) 0 _ _ hc_47) (cwV 2 hts gX9_does_X9_of rfl rfl rfl (by decide +kernel) ⟨Nat.le_of_ble_eq_true rfl, Nat.le_of_ble_eq_true rfl⟩) (k_pv (j := 15) hK hN hQ_45 (by decide) rfl rfl _) rfl rfl hl.1 rfl (lv_room (Nat.le_of_ble_eq_true rfl)) dX9_does_99 ⟨Nat.le_of_ble_eq_true rfl, Nat.le_of_ble_eq_true rfl⟩) hA hQ_45 (fun H_49 locs_49 hO_49 => ?_)
      clear hQ_45
      refine lv_iload_n hx hb dX9_does_102 rfl (lv_at hl 1 rfl) ?_
      refine lv_iconst (v := 5) hx hb dX9_does_103 (by decide) ?_
      refine lv_irem hx hb dX9_does_104 (by decide) ?_
      refine lv_iconst (v := 1) hx hb dX9_does_105 (by decide) ?_
      refine lv_iadd hx hb dX9_does_106 ?_
      refine lv_isub hx hb dX9_does_107 ?_
      replace hf := zv_some hf
      obtain ⟨X_50, hc_50, hf⟩ := hf
      refine k_av (va_runV (As := [.int (a1 / 5), .int 0, .int (r_48 - ((o_rem a1 5) + 1))]) (rest := []) ⟨hx, hb, hml, hown, hts⟩ (mX9_lay l D L ac hL _ (a1 / 5) 0 (r_48 - ((o_rem a1 5) + 1)) _ hc_50) (cwV 3 hts gX9_does_X9_lay rfl rfl rfl (by decide +kernel) ⟨Nat.le_of_ble_eq_true rfl, Nat.le_of_ble_eq_true rfl⟩) (k_pv (j := 15) hK hN hO_49 (by decide) rfl rfl _) rfl rfl hl.1 rfl (lv_room (Nat.le_of_ble_eq_true rfl)) dX9_does_108 ⟨Nat.le_of_ble_eq_true rfl, Nat.le_of_ble_eq_true rfl⟩) hA hO_49 (fun H_51 locs_51 hO_51 => ?_)
      clear hO_49
      refine lv_aload_n hx hb dX9_does_111 rfl (lv_at hl 0 rfl) ?_
      refine k_get (k := 1) (v := .ref (L 16)) hx hb hts in_X9_does_X9 hown hK hO_51 (by decide) rfl rfl (by decide) lk_X9_does_f7 rfl dX9_does_112 ?_
      refine lv_iconst (v := 3) hx hb dX9_does_115 (by decide) ?_
      refine lv_iconst (v := 1) hx hb dX9_does_116 (by decide) ?_
      refine lv_aload_n hx hb dX9_does_117 rfl (lv_at hl 0 rfl) ?_
      refine k_get (k := 1) (v := .ref (L 16)) hx hb hts in_X9_does_X9 hown hK hO_51 (by decide) rfl rfl (by decide) lk_X9_does_f7 rfl dX9_does_118 ?_
      refine lv_iconst (v := 3) hx hb dX9_does_121 (by decide) ?_
      refine k_iald hx hb hK hO_51 (by decide) (fun _ => rfl) (show vp_in 3 27 from by unfold vp_in; decide) dX9_does_122 ?_
      refine lv_tope (z := X_50 23 3) rfl ?_
      refine lv_isub hx hb dX9_does_123 ?_
      refine k_iast hx hb hK hL hA hO_51 (by decide) (by decide) rfl (fun _ => rfl) (show vp_in 3 27 from by unfold vp_in; decide) dX9_does_124 (fun H_53 locs_53 hO_53 => ?_)
      replace hf := zl_some hf
      obtain ⟨X_52, hX_52, hf⟩ := hf
      have hQ_53 := zo_eq hX_52 hO_53
      clear hO_53 hO_51
      refine lv_aload_n hx hb dX9_does_125 rfl (lv_at hl 0 rfl) ?_
      refine k_get (k := 1) (v := .ref (L 16)) hx hb hts in_X9_does_X9 hown hK hQ_53 (by decide) rfl rfl (by decide) lk_X9_does_f7 rfl dX9_does_126 ?_
      refine lv_bipush (v := 6) hx hb dX9_does_129 (by decide) ?_
      refine lv_dup2_11 hx hb dX9_does_131 rfl rfl ?_
      refine k_iald hx hb hK hQ_53 (by decide) (fun _ => rfl) (show vp_in 6 27 from by unfold vp_in; decide) dX9_does_132 ?_
      refine lv_tope (z := X_52 23 6) rfl ?_
      refine lv_iconst (v := 1) hx hb dX9_does_133 (by decide) ?_
      refine lv_iadd hx hb dX9_does_134 ?_
      refine k_iast hx hb hK hL hA hQ_53 (by decide) (by decide) rfl (fun _ => rfl) (show vp_in 6 27 from by unfold vp_in; decide) dX9_does_135 (fun H_55 locs_55 hO_55 => ?_)
      replace hf := zl_some hf
      obtain ⟨X_54, hX_54, hf⟩ := hf
      have hQ_55 := zo_eq hX_54 hO_55
      clear hO_55 hQ_53
      obtain rfl := Option.some.inj hf
      exact e_v hx hb hr hK hN hQ_55 hlocks dX9_does_136
    · rw [if_pos c_43] at hf
      subst c_43
      refine lv_iconst (v := 1) hx hb dX9_does_56 (by decide) ?_
      refine lv_goto (tgt := 61) hx hb dX9_does_57 (by decide) ?_
      refine k_iast hx hb hK hL hA hQ_42 (by decide) (by decide) rfl (fun _ => rfl) (show vp_in 4 27 from by unfold vp_in; decide) dX9_does_61 (fun H_57 locs_57 hO_57 => ?_)
      replace hf := zl_some hf
      obtain ⟨X_56, hX_56, hf⟩ := hf
      have hQ_57 := zo_eq hX_56 hO_57
      clear hO_57 hQ_42
      refine lv_iload_n hx hb dX9_does_62 rfl (lv_at hl 1 rfl) ?_
      refine lv_bipush (v := 20) hx hb dX9_does_63 (by decide) ?_
      refine lv_icmp_ne (tgt := 89) hx hb dX9_does_65 (by decide) (fun c_58 => absurd (by decide) c_58) (fun _ => ?_)
      refine lv_aload_n hx hb dX9_does_68 rfl (lv_at hl 0 rfl) ?_
      refine k_get (k := 1) (v := .ref (L 16)) hx hb hts in_X9_does_X9 hown hK hQ_57 (by decide) rfl rfl (by decide) lk_X9_does_f7 rfl dX9_does_69 ?_
      refine lv_bipush (v := 7) hx hb dX9_does_72 (by decide) ?_
      refine lv_aload_n hx hb dX9_does_74 rfl (lv_at hl 0 rfl) ?_
      refine k_get (k := 1) (v := .ref (L 16)) hx hb hts in_X9_does_X9 hown hK hQ_57 (by decide) rfl rfl (by decide) lk_X9_does_f7 rfl dX9_does_75 ?_
      refine lv_iconst (v := 3) hx hb dX9_does_78 (by decide) ?_
      refine k_iald hx hb hK hQ_57 (by decide) (fun _ => rfl) (show vp_in 3 27 from by unfold vp_in; decide) dX9_does_79 ?_
      refine lv_tope (z := X_56 23 3) rfl ?_
      refine lv_iadd hx hb dX9_does_80 ?_
      refine lv_dup2_11 hx hb dX9_does_81 rfl rfl ?_
      replace hf := zd_some hf
      obtain ⟨hi_59, hf⟩ := hf
      refine k_iald hx hb hK hQ_57 (by decide) (fun _ => rfl) hi_59 dX9_does_82 ?_
      refine lv_iconst (v := 1) hx hb dX9_does_83 (by decide) ?_
      refine lv_isub hx hb dX9_does_84 ?_
      replace hf := zd_some hf
      obtain ⟨hi_60, hf⟩ := hf
      refine k_iast hx hb hK hL hA hQ_57 (by decide) (by decide) rfl (fun _ => rfl) hi_60 dX9_does_85 (fun H_62 locs_62 hO_62 => ?_)
      replace hf := zl_some hf
      obtain ⟨X_61, hX_61, hf⟩ := hf
      have hQ_62 := zo_eq hX_61 hO_62
      clear hO_62 hQ_57
      refine lv_goto (tgt := 111) hx hb dX9_does_86 (by decide) ?_
      refine lv_aload_n hx hb dX9_does_111 rfl (lv_at hl 0 rfl) ?_
      refine k_get (k := 1) (v := .ref (L 16)) hx hb hts in_X9_does_X9 hown hK hQ_62 (by decide) rfl rfl (by decide) lk_X9_does_f7 rfl dX9_does_112 ?_
      refine lv_iconst (v := 3) hx hb dX9_does_115 (by decide) ?_
      refine lv_iconst (v := 1) hx hb dX9_does_116 (by decide) ?_
      refine lv_aload_n hx hb dX9_does_117 rfl (lv_at hl 0 rfl) ?_
      refine k_get (k := 1) (v := .ref (L 16)) hx hb hts in_X9_does_X9 hown hK hQ_62 (by decide) rfl rfl (by decide) lk_X9_does_f7 rfl dX9_does_118 ?_
      refine lv_iconst (v := 3) hx hb dX9_does_121 (by decide) ?_
      refine k_iald hx hb hK hQ_62 (by decide) (fun _ => rfl) (show vp_in 3 27 from by unfold vp_in; decide) dX9_does_122 ?_
      refine lv_tope (z := X_61 23 3) rfl ?_
      refine lv_isub hx hb dX9_does_123 ?_
      refine k_iast hx hb hK hL hA hQ_62 (by decide) (by decide) rfl (fun _ => rfl) (show vp_in 3 27 from by unfold vp_in; decide) dX9_does_124 (fun H_64 locs_64 hO_64 => ?_)
      replace hf := zl_some hf
      obtain ⟨X_63, hX_63, hf⟩ := hf
      have hQ_64 := zo_eq hX_63 hO_64
      clear hO_64 hQ_62
      refine lv_aload_n hx hb dX9_does_125 rfl (lv_at hl 0 rfl) ?_
      refine k_get (k := 1) (v := .ref (L 16)) hx hb hts in_X9_does_X9 hown hK hQ_64 (by decide) rfl rfl (by decide) lk_X9_does_f7 rfl dX9_does_126 ?_
      refine lv_bipush (v := 6) hx hb dX9_does_129 (by decide) ?_
      refine lv_dup2_11 hx hb dX9_does_131 rfl rfl ?_
      refine k_iald hx hb hK hQ_64 (by decide) (fun _ => rfl) (show vp_in 6 27 from by unfold vp_in; decide) dX9_does_132 ?_
      refine lv_tope (z := X_63 23 6) rfl ?_
      refine lv_iconst (v := 1) hx hb dX9_does_133 (by decide) ?_
      refine lv_iadd hx hb dX9_does_134 ?_
      refine k_iast hx hb hK hL hA hQ_64 (by decide) (by decide) rfl (fun _ => rfl) (show vp_in 6 27 from by unfold vp_in; decide) dX9_does_135 (fun H_66 locs_66 hO_66 => ?_)
      replace hf := zl_some hf
      obtain ⟨X_65, hX_65, hf⟩ := hf
      have hQ_66 := zo_eq hX_65 hO_66
      clear hO_66 hQ_64
      obtain rfl := Option.some.inj hf
      exact e_v hx hb hr hK hN hQ_66 hlocks dX9_does_136
def fX9_bestMove_19   : Nat → Int32 → Int32 → Int32 → Int32 → Int32 → XM → Option (Int32 × XM)
  | 0, _, _, _, _, _, _ => none
  | n + 1, x1, x2, x3, x4, x5, X => if 21 ≤ x5 then some (x3, X) else if ((o_shr x1 x5) &&& 1) = 1 then zi (fX9_own X) (fun r_5 X_4 => zi (fX9_others X_4) (fun r_8 X_7 => zi (fX9_worth x5 x2 r_5 r_8 X_7) (fun r_11 X_10 => if x3 = (-6) then fX9_bestMove_19 n x1 x2 x5 r_11 (x5 + 1) X_10 else if r_11 ≤ x4 then fX9_bestMove_19 n x1 x2 x3 x4 (x5 + 1) X_10 else fX9_bestMove_19 n x1 x2 x5 r_11 (x5 + 1) X_10))) else fX9_bestMove_19 n x1 x2 x3 x4 (x5 + 1) X
set_option maxHeartbeats 4000000 in
set_option maxRecDepth 100000 in
theorem wX9_bestMove_19 {p : Program} {l : Launch} {e : Env} {s : State} {m : MethodId} {args : Array Value} {below : List Frame} {meth : Method} {c : Code} {D : va_G} {L : Nat → Nat} {ac : Nat → ClassId} {r0 : Int32} {X0 : XM} (hL : LL L) (F : Fx p s m args meth c cX9_bestMove 8 (some .int) wsX9_bestMove yX9_bestMove.cls D ac) : ∀ (n : Nat) (x1 : Int32) (x2 : Int32) (x3 : Int32) (x4 : Int32) (x5 : Int32) (X : XM) (H : Heap) (locs : List Loc) (ls : Array Slot), Oh D L ac X (fr L) s.heap H locs → lv_has ls 8 [(0, .ref (L 15)), (1, .int x1), (2, .int x2), (3, .int x3), (4, .int x4), (5, .int x5)] → fX9_bestMove_19 n x1 x2 x3 x4 x5 X = some (r0, X0) → W p l e (headSpec wsX9_bestMove ({ frames := 4, cells := 0, slots := 0, locals := 90 })).room s m args below meth c H locs 0 0 (MQ below (va_Qi (fun (r : Int32) (Y : XM) => r = r0 ∧ Y = X0) (fun (Y : XM) t => St D L ac Y t) (fr L)) args s 0 0 (fr L)) (F0 m 19 ls []) := by
  obtain ⟨hx, hb, hr, hts, hown, hlocks, hml, hK, hN⟩ := id F
  have hA : ∀ q, fr L q → fr L q := fun q h => h
  intro n
  induction n with
  | zero => intro x1 x2 x3 x4 x5 X H locs ls hO hl hf; simp [fX9_bestMove_19] at hf
  | succ n ih =>
    intro x1 x2 x3 x4 x5 X H locs ls hO hl hf
    rw [fX9_bestMove_19] at hf
    refine lv_iload hx hb dX9_bestMove_19 (lv_at hl 5 rfl) ?_
    refine lv_bipush (v := 21) hx hb dX9_bestMove_21 (by decide) ?_
    refine lv_icmp_ge (tgt := 105) hx hb dX9_bestMove_23 (by decide) (fun c_1 => ?_) (fun c_1 => ?_)
    · rw [if_pos c_1] at hf
      refine lv_iload_n hx hb dX9_bestMove_105 rfl (lv_at hl 3 rfl) ?_
      obtain ⟨rfl, rfl⟩ := Prod.mk.inj (Option.some.inj hf)
      exact e_i hx hb hr hK hN hO hlocks dX9_bestMove_106
    · rw [if_neg c_1] at hf
      refine lv_iload_n hx hb dX9_bestMove_26 rfl (lv_at hl 1 rfl) ?_
      refine lv_iload hx hb dX9_bestMove_27 (lv_at hl 5 rfl) ?_
      refine lv_ishr hx hb dX9_bestMove_29 ?_
      refine lv_iconst (v := 1) hx hb dX9_bestMove_30 (by decide) ?_
      refine lv_iand hx hb dX9_bestMove_31 ?_
      refine lv_iconst (v := 1) hx hb dX9_bestMove_32 (by decide) ?_
      refine lv_icmp_ne (tgt := 99) hx hb dX9_bestMove_33 (by decide) (fun c_2 => ?_) (fun c_2 => ?_)
      · rw [if_neg c_2] at hf
        refine lv_iinc (v := x5 + 1) (lv' := [(5, .int (x5 + 1)), (0, .ref (L 15)), (1, .int x1), (2, .int x2), (3, .int x3), (4, .int x4)]) hx hb dX9_bestMove_99 hl (k := 5) rfl rfl (by decide) rfl (fun ls_3 hl_3 => ?_)
        clear hl
        refine lv_goto (tgt := 19) hx hb dX9_bestMove_102 (by decide) ?_
        exact ih _ _ _ _ _ _  _ _ _ hO (lv_sub hl_3 [1, 2, 3, 4, 5, 0] rfl) hf
      · rw [if_pos c_2] at hf
        refine lv_aload_n hx hb dX9_bestMove_36 rfl (lv_at hl 0 rfl) ?_
        refine lv_iload hx hb dX9_bestMove_37 (lv_at hl 5 rfl) ?_
        refine lv_iload_n hx hb dX9_bestMove_39 rfl (lv_at hl 2 rfl) ?_
        refine lv_aload_n hx hb dX9_bestMove_40 rfl (lv_at hl 0 rfl) ?_
        replace hf := zi_some hf
        obtain ⟨r_5, X_4, hc_4, hf⟩ := hf
        refine k_ai (va_runV (As := []) (rest := [.int x2, .int x5, .ref (L 15)]) ⟨hx, hb, hml, hown, hts⟩ (mX9_own l D L ac hL _  _ _ hc_4) (cwV 0 hts gX9_bestMove_X9_own rfl rfl rfl (by decide +kernel) ⟨Nat.le_of_ble_eq_true rfl, Nat.le_of_ble_eq_true rfl⟩) (k_pv (j := 15) hK hN hO (by decide) rfl rfl _) rfl rfl hl.1 rfl (lv_room (Nat.le_of_ble_eq_true rfl)) dX9_bestMove_41 ⟨Nat.le_of_ble_eq_true rfl, Nat.le_of_ble_eq_true rfl⟩) hA hO (fun H_6 locs_6 hO_6 => ?_)
        clear hO
        refine lv_aload_n hx hb dX9_bestMove_44 rfl (lv_at hl 0 rfl) ?_
        replace hf := zi_some hf
        obtain ⟨r_8, X_7, hc_7, hf⟩ := hf
        refine k_ai (va_runV (As := []) (rest := [.int r_5, .int x2, .int x5, .ref (L 15)]) ⟨hx, hb, hml, hown, hts⟩ (mX9_others l D L ac hL _  _ _ hc_7) (cwV 0 hts gX9_bestMove_X9_others rfl rfl rfl (by decide +kernel) ⟨Nat.le_of_ble_eq_true rfl, Nat.le_of_ble_eq_true rfl⟩) (k_pv (j := 15) hK hN hO_6 (by decide) rfl rfl _) rfl rfl hl.1 rfl (lv_room (Nat.le_of_ble_eq_true rfl)) dX9_bestMove_45 ⟨Nat.le_of_ble_eq_true rfl, Nat.le_of_ble_eq_true rfl⟩) hA hO_6 (fun H_9 locs_9 hO_9 => ?_)
        clear hO_6
        replace hf := zi_some hf
        obtain ⟨r_11, X_10, hc_10, hf⟩ := hf
        refine k_ai (va_runV (As := [.int x5, .int x2, .int r_5, .int r_8]) (rest := []) ⟨hx, hb, hml, hown, hts⟩ (mX9_worth l D L ac hL _ x5 x2 r_5 r_8 _ _ hc_10) (cwV 4 hts gX9_bestMove_X9_worth rfl rfl rfl (by decide +kernel) ⟨Nat.le_of_ble_eq_true rfl, Nat.le_of_ble_eq_true rfl⟩) (k_pv (j := 15) hK hN hO_9 (by decide) rfl rfl _) rfl rfl hl.1 rfl (lv_room (Nat.le_of_ble_eq_true rfl)) dX9_bestMove_48 ⟨Nat.le_of_ble_eq_true rfl, Nat.le_of_ble_eq_true rfl⟩) hA hO_9 (fun H_12 locs_12 hO_12 => ?_)
        clear hO_9
        refine lv_istore (lv' := [(6, .int r_11), (0, .ref (L 15)), (1, .int x1), (2, .int x2), (3, .int x3), (4, .int x4), (5, .int x5)]) hx hb dX9_bestMove_51 hl (by decide) rfl (fun ls_13 hl_13 => ?_)
        clear hl
        refine lv_iload_n hx hb dX9_bestMove_53 rfl (lv_at hl_13 4 rfl) ?_
        refine lv_bipush (v := (-6)) hx hb dX9_bestMove_54 (by decide) ?_
        refine lv_icmp_eq (tgt := 66) hx hb dX9_bestMove_56 (by decide) (fun c_14 => ?_) (fun c_14 => ?_)
        · rw [if_pos c_14] at hf
          subst c_14
          refine lv_iconst (v := 1) hx hb dX9_bestMove_66 (by decide) ?_
          refine lv_goto (tgt := 71) hx hb dX9_bestMove_67 (by decide) ?_
          refine lv_istore (lv' := [(7, .int 1), (6, .int r_11), (0, .ref (L 15)), (1, .int x1), (2, .int x2), (3, .int (-6)), (4, .int x4), (5, .int x5)]) hx hb dX9_bestMove_71 hl_13 (by decide) rfl (fun ls_15 hl_15 => ?_)
          clear hl_13
          refine lv_iload hx hb dX9_bestMove_73 (lv_at hl_15 0 rfl) ?_
          refine lv_if_eq (tgt := 83) hx hb dX9_bestMove_75 (by decide) (fun c_16 => absurd c_16 (by decide)) (fun _ => ?_)
          refine lv_iload hx hb dX9_bestMove_78 (lv_at hl_15 7 rfl) ?_
          refine lv_goto (tgt := 84) hx hb dX9_bestMove_80 (by decide) ?_
          refine lv_istore_n (lv' := [(3, .int x5), (7, .int 1), (6, .int r_11), (0, .ref (L 15)), (1, .int x1), (2, .int x2), (4, .int x4), (5, .int x5)]) hx hb dX9_bestMove_84 rfl hl_15 (by decide) rfl (fun ls_17 hl_17 => ?_)
          clear hl_15
          refine lv_iload hx hb dX9_bestMove_85 (lv_at hl_17 1 rfl) ?_
          refine lv_if_eq (tgt := 95) hx hb dX9_bestMove_87 (by decide) (fun c_18 => absurd c_18 (by decide)) (fun _ => ?_)
          refine lv_iload hx hb dX9_bestMove_90 (lv_at hl_17 2 rfl) ?_
          refine lv_goto (tgt := 97) hx hb dX9_bestMove_92 (by decide) ?_
          refine lv_istore (lv' := [(4, .int r_11), (3, .int x5), (7, .int 1), (6, .int r_11), (0, .ref (L 15)), (1, .int x1), (2, .int x2), (5, .int x5)]) hx hb dX9_bestMove_97 hl_17 (by decide) rfl (fun ls_19 hl_19 => ?_)
          clear hl_17
          refine lv_iinc (v := x5 + 1) (lv' := [(5, .int (x5 + 1)), (4, .int r_11), (3, .int x5), (7, .int 1), (6, .int r_11), (0, .ref (L 15)), (1, .int x1), (2, .int x2)]) hx hb dX9_bestMove_99 hl_19 (k := 7) rfl rfl (by decide) rfl (fun ls_20 hl_20 => ?_)
          clear hl_19
          refine lv_goto (tgt := 19) hx hb dX9_bestMove_102 (by decide) ?_
          exact ih _ _ _ _ _ _  _ _ _ hO_12 (lv_sub hl_20 [5, 6, 7, 2, 1, 0] rfl) hf
        · rw [if_neg c_14] at hf
          refine lv_iload hx hb dX9_bestMove_59 (lv_at hl_13 0 rfl) ?_
          refine lv_iload hx hb dX9_bestMove_61 (lv_at hl_13 5 rfl) ?_
          refine lv_icmp_le (tgt := 70) hx hb dX9_bestMove_63 (by decide) (fun c_21 => ?_) (fun c_21 => ?_)
          · rw [if_pos c_21] at hf
            refine lv_iconst (v := 0) hx hb dX9_bestMove_70 (by decide) ?_
            refine lv_istore (lv' := [(7, .int 0), (6, .int r_11), (0, .ref (L 15)), (1, .int x1), (2, .int x2), (3, .int x3), (4, .int x4), (5, .int x5)]) hx hb dX9_bestMove_71 hl_13 (by decide) rfl (fun ls_22 hl_22 => ?_)
            clear hl_13
            refine lv_iload hx hb dX9_bestMove_73 (lv_at hl_22 0 rfl) ?_
            refine lv_if_eq (tgt := 83) hx hb dX9_bestMove_75 (by decide) (fun _ => ?_) (fun c_23 => absurd (by decide) c_23)
            refine lv_iload_n hx hb dX9_bestMove_83 rfl (lv_at hl_22 5 rfl) ?_
            refine lv_istore_n (lv' := [(3, .int x3), (7, .int 0), (6, .int r_11), (0, .ref (L 15)), (1, .int x1), (2, .int x2), (4, .int x4), (5, .int x5)]) hx hb dX9_bestMove_84 rfl hl_22 (by decide) rfl (fun ls_24 hl_24 => ?_)
            clear hl_22
            refine lv_iload hx hb dX9_bestMove_85 (lv_at hl_24 1 rfl) ?_
            refine lv_if_eq (tgt := 95) hx hb dX9_bestMove_87 (by decide) (fun _ => ?_) (fun c_25 => absurd (by decide) c_25)
            refine lv_iload hx hb dX9_bestMove_95 (lv_at hl_24 6 rfl) ?_
            refine lv_istore (lv' := [(4, .int x4), (3, .int x3), (7, .int 0), (6, .int r_11), (0, .ref (L 15)), (1, .int x1), (2, .int x2), (5, .int x5)]) hx hb dX9_bestMove_97 hl_24 (by decide) rfl (fun ls_26 hl_26 => ?_)
            clear hl_24
            refine lv_iinc (v := x5 + 1) (lv' := [(5, .int (x5 + 1)), (4, .int x4), (3, .int x3), (7, .int 0), (6, .int r_11), (0, .ref (L 15)), (1, .int x1), (2, .int x2)]) hx hb dX9_bestMove_99 hl_26 (k := 7) rfl rfl (by decide) rfl (fun ls_27 hl_27 => ?_)
            clear hl_26
            refine lv_goto (tgt := 19) hx hb dX9_bestMove_102 (by decide) ?_
            exact ih _ _ _ _ _ _  _ _ _ hO_12 (lv_sub hl_27 [5, 6, 7, 2, 1, 0] rfl) hf
          · rw [if_neg c_21] at hf
            refine lv_iconst (v := 1) hx hb dX9_bestMove_66 (by decide) ?_
            refine lv_goto (tgt := 71) hx hb dX9_bestMove_67 (by decide) ?_
            refine lv_istore (lv' := [(7, .int 1), (6, .int r_11), (0, .ref (L 15)), (1, .int x1), (2, .int x2), (3, .int x3), (4, .int x4), (5, .int x5)]) hx hb dX9_bestMove_71 hl_13 (by decide) rfl (fun ls_28 hl_28 => ?_)
            clear hl_13
            refine lv_iload hx hb dX9_bestMove_73 (lv_at hl_28 0 rfl) ?_
            refine lv_if_eq (tgt := 83) hx hb dX9_bestMove_75 (by decide) (fun c_29 => absurd c_29 (by decide)) (fun _ => ?_)
            refine lv_iload hx hb dX9_bestMove_78 (lv_at hl_28 7 rfl) ?_
            refine lv_goto (tgt := 84) hx hb dX9_bestMove_80 (by decide) ?_
            refine lv_istore_n (lv' := [(3, .int x5), (7, .int 1), (6, .int r_11), (0, .ref (L 15)), (1, .int x1), (2, .int x2), (4, .int x4), (5, .int x5)]) hx hb dX9_bestMove_84 rfl hl_28 (by decide) rfl (fun ls_30 hl_30 => ?_)
            clear hl_28
            refine lv_iload hx hb dX9_bestMove_85 (lv_at hl_30 1 rfl) ?_
            refine lv_if_eq (tgt := 95) hx hb dX9_bestMove_87 (by decide) (fun c_31 => absurd c_31 (by decide)) (fun _ => ?_)
            refine lv_iload hx hb dX9_bestMove_90 (lv_at hl_30 2 rfl) ?_
            refine lv_goto (tgt := 97) hx hb dX9_bestMove_92 (by decide) ?_
            refine lv_istore (lv' := [(4, .int r_11), (3, .int x5), (7, .int 1), (6, .int r_11), (0, .ref (L 15)), (1, .int x1), (2, .int x2), (5, .int x5)]) hx hb dX9_bestMove_97 hl_30 (by decide) rfl (fun ls_32 hl_32 => ?_)
            clear hl_30
            refine lv_iinc (v := x5 + 1) (lv' := [(5, .int (x5 + 1)), (4, .int r_11), (3, .int x5), (7, .int 1), (6, .int r_11), (0, .ref (L 15)), (1, .int x1), (2, .int x2)]) hx hb dX9_bestMove_99 hl_32 (k := 7) rfl rfl (by decide) rfl (fun ls_33 hl_33 => ?_)
            clear hl_32
            refine lv_goto (tgt := 19) hx hb dX9_bestMove_102 (by decide) ?_
            exact ih _ _ _ _ _ _  _ _ _ hO_12 (lv_sub hl_33 [5, 6, 7, 2, 1, 0] rfl) hf
def fX9_bestMove   (X : XM) : Option (Int32 × XM) := zi (fX9_movesNow X) (fun r_35 X_34 => zi (fX9_code X_34) (fun r_39 X_38 => fX9_bestMove_19 fuel r_35 r_39 (-6) 0 0 X_38))
set_option maxHeartbeats 4000000 in
set_option maxRecDepth 100000 in
theorem mX9_bestMove (l : Launch) (D : va_G) (L : Nat → Nat) (ac : Nat → ClassId) (hL : LL L) (X : XM)  (r0 : Int32) (X0 : XM) (hf : fX9_bestMove  X = some (r0, X0)) : Ci l yX9_bestMove wsX9_bestMove ({ frames := 4, cells := 0, slots := 0, locals := 90 }) D L ac X [.ref (L 15)] r0 X0 := by
  refine Met.ofK (cc := cX9_bestMove) (maxL := 8) (ret := (some .int)) (lv := [(0, .ref (L 15))]) (by decide +kernel) rfl (Nat.le_of_ble_eq_true rfl) rfl ?_
  intro p e s m below meth c F hO ls hl
  obtain ⟨hx, hb, hr, hts, hown, hlocks, hml, hK, hN⟩ := id F
  have hA : ∀ q, fr L q → fr L q := fun q h => h
  unfold fX9_bestMove at hf
  refine lv_aload_n hx hb dX9_bestMove_0 rfl (lv_at hl 0 rfl) ?_
  replace hf := zi_some hf
  obtain ⟨r_35, X_34, hc_34, hf⟩ := hf
  refine k_ai (va_runV (As := []) (rest := []) ⟨hx, hb, hml, hown, hts⟩ (mX9_movesNow l D L ac hL _  _ _ hc_34) (cwV 0 hts gX9_bestMove_X9_movesNow rfl rfl rfl (by decide +kernel) ⟨Nat.le_of_ble_eq_true rfl, Nat.le_of_ble_eq_true rfl⟩) (k_pv (j := 15) hK hN hO (by decide) rfl rfl _) rfl rfl hl.1 rfl (lv_room (Nat.le_of_ble_eq_true rfl)) dX9_bestMove_1 ⟨Nat.le_of_ble_eq_true rfl, Nat.le_of_ble_eq_true rfl⟩) hA hO (fun H_36 locs_36 hO_36 => ?_)
  clear hO
  refine lv_istore_n (lv' := [(1, .int r_35), (0, .ref (L 15))]) hx hb dX9_bestMove_4 rfl hl (by decide) rfl (fun ls_37 hl_37 => ?_)
  clear hl
  refine lv_aload_n hx hb dX9_bestMove_5 rfl (lv_at hl_37 1 rfl) ?_
  replace hf := zi_some hf
  obtain ⟨r_39, X_38, hc_38, hf⟩ := hf
  refine k_ai (va_runV (As := []) (rest := []) ⟨hx, hb, hml, hown, hts⟩ (mX9_code l D L ac hL _  _ _ hc_38) (cwV 0 hts gX9_bestMove_X9_code rfl rfl rfl (by decide +kernel) ⟨Nat.le_of_ble_eq_true rfl, Nat.le_of_ble_eq_true rfl⟩) (k_pv (j := 15) hK hN hO_36 (by decide) rfl rfl _) rfl rfl hl_37.1 rfl (lv_room (Nat.le_of_ble_eq_true rfl)) dX9_bestMove_6 ⟨Nat.le_of_ble_eq_true rfl, Nat.le_of_ble_eq_true rfl⟩) hA hO_36 (fun H_40 locs_40 hO_40 => ?_)
  clear hO_36
  refine lv_istore_n (lv' := [(2, .int r_39), (1, .int r_35), (0, .ref (L 15))]) hx hb dX9_bestMove_9 rfl hl_37 (by decide) rfl (fun ls_41 hl_41 => ?_)
  clear hl_37
  refine lv_bipush (v := (-6)) hx hb dX9_bestMove_10 (by decide) ?_
  refine lv_istore_n (lv' := [(3, .int (-6)), (2, .int r_39), (1, .int r_35), (0, .ref (L 15))]) hx hb dX9_bestMove_12 rfl hl_41 (by decide) rfl (fun ls_42 hl_42 => ?_)
  clear hl_41
  refine lv_iconst (v := 0) hx hb dX9_bestMove_13 (by decide) ?_
  refine lv_istore (lv' := [(4, .int 0), (3, .int (-6)), (2, .int r_39), (1, .int r_35), (0, .ref (L 15))]) hx hb dX9_bestMove_14 hl_42 (by decide) rfl (fun ls_43 hl_43 => ?_)
  clear hl_42
  refine lv_iconst (v := 0) hx hb dX9_bestMove_16 (by decide) ?_
  refine lv_istore (lv' := [(5, .int 0), (4, .int 0), (3, .int (-6)), (2, .int r_39), (1, .int r_35), (0, .ref (L 15))]) hx hb dX9_bestMove_17 hl_43 (by decide) rfl (fun ls_44 hl_44 => ?_)
  clear hl_43
  exact wX9_bestMove_19 hL F  fuel _ _ _ _ _ _  _ _ _ hO_40 (lv_sub hl_44 [5, 4, 3, 2, 1, 0] rfl) hf
theorem in_X9_tokens_X9 : ∀ w ∈ u_ws RX9 TX9 16, w ∈ wsX9_tokens := by decide +kernel
theorem lk_X9_tokens_f7 : Cond.fieldLink RX9 7 "PoisonPilesModel" "s" "[I" ∈ wsX9_tokens := by decide +kernel
def fX9_tokens_4   : Nat → Int32 → Int32 → XM → Option (Int32 × XM)
  | 0, _, _, _ => none
  | n + 1, x1, x2, X => if (X 23 2) ≤ x2 then some (x1, X) else zi (fX9_of x2 0 X) (fun r_3 X_2 => zl (x1 + r_3) (fun v_5 => fX9_tokens_4 n v_5 (x2 + 1) X_2))
set_option maxHeartbeats 4000000 in
set_option maxRecDepth 100000 in
theorem wX9_tokens_4 {p : Program} {l : Launch} {e : Env} {s : State} {m : MethodId} {args : Array Value} {below : List Frame} {meth : Method} {c : Code} {D : va_G} {L : Nat → Nat} {ac : Nat → ClassId} {r0 : Int32} {X0 : XM} (hL : LL L) (F : Fx p s m args meth c cX9_tokens 3 (some .int) wsX9_tokens yX9_tokens.cls D ac) : ∀ (n : Nat) (x1 : Int32) (x2 : Int32) (X : XM) (H : Heap) (locs : List Loc) (ls : Array Slot), Oh D L ac X (fr L) s.heap H locs → lv_has ls 3 [(0, .ref (L 15)), (1, .int x1), (2, .int x2)] → fX9_tokens_4 n x1 x2 X = some (r0, X0) → W p l e (headSpec wsX9_tokens ({ frames := 1, cells := 0, slots := 0, locals := 22 })).room s m args below meth c H locs 0 0 (MQ below (va_Qi (fun (r : Int32) (Y : XM) => r = r0 ∧ Y = X0) (fun (Y : XM) t => St D L ac Y t) (fr L)) args s 0 0 (fr L)) (F0 m 4 ls []) := by
  obtain ⟨hx, hb, hr, hts, hown, hlocks, hml, hK, hN⟩ := id F
  have hA : ∀ q, fr L q → fr L q := fun q h => h
  intro n
  induction n with
  | zero => intro x1 x2 X H locs ls hO hl hf; simp [fX9_tokens_4] at hf
  | succ n ih =>
    intro x1 x2 X H locs ls hO hl hf
    rw [fX9_tokens_4] at hf
    refine lv_iload_n hx hb dX9_tokens_4 rfl (lv_at hl 2 rfl) ?_
    refine lv_aload_n hx hb dX9_tokens_5 rfl (lv_at hl 0 rfl) ?_
    refine k_get (k := 1) (v := .ref (L 16)) hx hb hts in_X9_tokens_X9 hown hK hO (by decide) rfl rfl (by decide) lk_X9_tokens_f7 rfl dX9_tokens_6 ?_
    refine lv_iconst (v := 2) hx hb dX9_tokens_9 (by decide) ?_
    refine k_iald hx hb hK hO (by decide) (fun _ => rfl) (show vp_in 2 27 from by unfold vp_in; decide) dX9_tokens_10 ?_
    refine lv_tope (z := X 23 2) rfl ?_
    refine lv_icmp_ge (tgt := 29) hx hb dX9_tokens_11 (by decide) (fun c_1 => ?_) (fun c_1 => ?_)
    · rw [if_pos c_1] at hf
      refine lv_iload_n hx hb dX9_tokens_29 rfl (lv_at hl 1 rfl) ?_
      obtain ⟨rfl, rfl⟩ := Prod.mk.inj (Option.some.inj hf)
      exact e_i hx hb hr hK hN hO hlocks dX9_tokens_30
    · rw [if_neg c_1] at hf
      refine lv_iload_n hx hb dX9_tokens_14 rfl (lv_at hl 1 rfl) ?_
      refine lv_aload_n hx hb dX9_tokens_15 rfl (lv_at hl 0 rfl) ?_
      refine lv_iload_n hx hb dX9_tokens_16 rfl (lv_at hl 2 rfl) ?_
      refine lv_iconst (v := 0) hx hb dX9_tokens_17 (by decide) ?_
      replace hf := zi_some hf
      obtain ⟨r_3, X_2, hc_2, hf⟩ := hf
      refine k_ai (va_runV (As := [.int x2, .int 0]) (rest := [.int x1]) ⟨hx, hb, hml, hown, hts⟩ (mX9_of l D L ac hL _ x2 0 _ _ hc_2) (cwV 2 hts gX9_tokens_X9_of rfl rfl rfl (by decide +kernel) ⟨Nat.le_of_ble_eq_true rfl, Nat.le_of_ble_eq_true rfl⟩) (k_pv (j := 15) hK hN hO (by decide) rfl rfl _) rfl rfl hl.1 rfl (lv_room (Nat.le_of_ble_eq_true rfl)) dX9_tokens_18 ⟨Nat.le_of_ble_eq_true rfl, Nat.le_of_ble_eq_true rfl⟩) hA hO (fun H_4 locs_4 hO_4 => ?_)
      clear hO
      refine lv_iadd hx hb dX9_tokens_21 ?_
      replace hf := zl_some hf
      obtain ⟨v_5, hv_5, hf⟩ := hf
      refine lv_tope hv_5 ?_
      refine lv_istore_n (lv' := [(1, .int v_5), (0, .ref (L 15)), (2, .int x2)]) hx hb dX9_tokens_22 rfl hl (by decide) rfl (fun ls_6 hl_6 => ?_)
      clear hl
      refine lv_iinc (v := x2 + 1) (lv' := [(2, .int (x2 + 1)), (1, .int v_5), (0, .ref (L 15))]) hx hb dX9_tokens_23 hl_6 (k := 2) rfl rfl (by decide) rfl (fun ls_7 hl_7 => ?_)
      clear hl_6
      refine lv_goto (tgt := 4) hx hb dX9_tokens_26 (by decide) ?_
      exact ih _ _ _  _ _ _ hO_4 (lv_sub hl_7 [2, 1, 0] rfl) hf
def fX9_tokens   (X : XM) : Option (Int32 × XM) := fX9_tokens_4 fuel 0 0 X
set_option maxHeartbeats 4000000 in
set_option maxRecDepth 100000 in
theorem mX9_tokens (l : Launch) (D : va_G) (L : Nat → Nat) (ac : Nat → ClassId) (hL : LL L) (X : XM)  (r0 : Int32) (X0 : XM) (hf : fX9_tokens  X = some (r0, X0)) : Ci l yX9_tokens wsX9_tokens ({ frames := 1, cells := 0, slots := 0, locals := 22 }) D L ac X [.ref (L 15)] r0 X0 := by
  refine Met.ofK (cc := cX9_tokens) (maxL := 3) (ret := (some .int)) (lv := [(0, .ref (L 15))]) (by decide +kernel) rfl (Nat.le_of_ble_eq_true rfl) rfl ?_
  intro p e s m below meth c F hO ls hl
  obtain ⟨hx, hb, hr, hts, hown, hlocks, hml, hK, hN⟩ := id F
  have hA : ∀ q, fr L q → fr L q := fun q h => h
  unfold fX9_tokens at hf
  refine lv_iconst (v := 0) hx hb dX9_tokens_0 (by decide) ?_
  refine lv_istore_n (lv' := [(1, .int 0), (0, .ref (L 15))]) hx hb dX9_tokens_1 rfl hl (by decide) rfl (fun ls_8 hl_8 => ?_)
  clear hl
  refine lv_iconst (v := 0) hx hb dX9_tokens_2 (by decide) ?_
  refine lv_istore_n (lv' := [(2, .int 0), (1, .int 0), (0, .ref (L 15))]) hx hb dX9_tokens_3 rfl hl_8 (by decide) rfl (fun ls_9 hl_9 => ?_)
  clear hl_8
  exact wX9_tokens_4 hL F  fuel _ _ _  _ _ _ hO (lv_sub hl_9 [2, 1, 0] rfl) hf
theorem in_X9_set_X9 : ∀ w ∈ u_ws RX9 TX9 16, w ∈ wsX9_set := by decide +kernel
theorem lk_X9_set_f41 : Cond.fieldLink RX9 41 "PoisonPilesModel" "thrown" "I" ∈ wsX9_set := by decide +kernel
theorem lk_X9_set_f7 : Cond.fieldLink RX9 7 "PoisonPilesModel" "s" "[I" ∈ wsX9_set := by decide +kernel
def fX9_set  (a1 : Int32) (a2 : Int32) (X : XM) : Option (Int32 × XM) := zl (xup X 22 0 0) (fun X_1 => if a1 = 0 then zi (fX9_in a2 1 31 X_1) (fun r_22 X_21 => if r_22 = 0 then some ((-2), X_21) else zv (fX9_records X_21) (fun X_26 => zl (X_26 23 0) (fun v_28 => zl (xup X_26 23 0 a2) (fun X_30 => some (v_28, X_30))))) else if a1 = 1 then zi (fX9_in a2 0 99 X_1) (fun r_8 X_7 => if r_8 = 0 then some ((-2), X_7) else zv (fX9_records X_7) (fun X_15 => zl (X_15 23 1) (fun v_17 => zl (xup X_15 23 1 a2) (fun X_19 => some (v_17, X_19))))) else some ((-2), X_1))
set_option maxHeartbeats 4000000 in
set_option maxRecDepth 100000 in
theorem mX9_set (l : Launch) (D : va_G) (L : Nat → Nat) (ac : Nat → ClassId) (hL : LL L) (X : XM) (a1 : Int32) (a2 : Int32) (r0 : Int32) (X0 : XM) (hf : fX9_set a1 a2 X = some (r0, X0)) : Ci l yX9_set wsX9_set ({ frames := 1, cells := 0, slots := 0, locals := 22 }) D L ac X [.ref (L 15), .int a1, .int a2] r0 X0 := by
  refine Met.ofK (cc := cX9_set) (maxL := 5) (ret := (some .int)) (lv := [(0, .ref (L 15)), (1, .int a1), (2, .int a2)]) (by decide +kernel) rfl (Nat.le_of_ble_eq_true rfl) rfl ?_
  intro p e s m below meth c F hO ls hl
  obtain ⟨hx, hb, hr, hts, hown, hlocks, hml, hK, hN⟩ := id F
  have hA : ∀ q, fr L q → fr L q := fun q h => h
  unfold fX9_set at hf
  refine lv_aload_n hx hb dX9_set_0 rfl (lv_at hl 0 rfl) ?_
  refine lv_iconst (v := 0) hx hb dX9_set_1 (by decide) ?_
  refine k_put (ty := .int) (k := 0) (r := 22) (k' := 0) hx hb tyX9 tyX9_ok nmX9 hts in_X9_set_X9 hown hK  hL hA hO (by decide) rfl (by omega) (fun Y => rfl) (by simp [xup]) rfl (by decide) lk_X9_set_f41 rfl (by decide +kernel) rfl rfl (Nat.le_of_ble_eq_true rfl) dX9_set_2 (fun H_2 locs_2 hO_2 => ?_)
  replace hf := zl_some hf
  obtain ⟨X_1, hX_1, hf⟩ := hf
  have hQ_2 := zo_eq hX_1 hO_2
  clear hO_2 hO
  refine lv_iload_n hx hb dX9_set_5 rfl (lv_at hl 1 rfl) ?_
  refine lv_if_ne (tgt := 19) hx hb dX9_set_6 (by decide) (fun c_3 => ?_) (fun c_3 => ?_)
  · rw [if_neg c_3] at hf
    refine lv_iload_n hx hb dX9_set_19 rfl (lv_at hl 1 rfl) ?_
    refine lv_iconst (v := 1) hx hb dX9_set_20 (by decide) ?_
    refine lv_icmp_ne (tgt := 38) hx hb dX9_set_21 (by decide) (fun c_4 => ?_) (fun c_4 => ?_)
    · rw [if_neg c_4] at hf
      refine lv_iconst (v := 0) hx hb dX9_set_38 (by decide) ?_
      refine lv_istore_n (lv' := [(3, .int 0), (0, .ref (L 15)), (1, .int a1), (2, .int a2)]) hx hb dX9_set_39 rfl hl (by decide) rfl (fun ls_5 hl_5 => ?_)
      clear hl
      refine lv_iload_n hx hb dX9_set_40 rfl (lv_at hl_5 0 rfl) ?_
      refine lv_if_ne (tgt := 47) hx hb dX9_set_41 (by decide) (fun c_6 => absurd (by decide) c_6) (fun _ => ?_)
      refine lv_bipush (v := (-2)) hx hb dX9_set_44 (by decide) ?_
      obtain ⟨rfl, rfl⟩ := Prod.mk.inj (Option.some.inj hf)
      exact e_i hx hb hr hK hN hQ_2 hlocks dX9_set_46
    · rw [if_pos c_4] at hf
      subst c_4
      refine lv_iload_n hx hb dX9_set_24 rfl (lv_at hl 2 rfl) ?_
      refine lv_iconst (v := 0) hx hb dX9_set_25 (by decide) ?_
      refine lv_bipush (v := 99) hx hb dX9_set_26 (by decide) ?_
      replace hf := zi_some hf
      obtain ⟨r_8, X_7, hc_7, hf⟩ := hf
      refine k_ai (va_runS (As := [.int a2, .int 0, .int 99]) (rest := []) ⟨hx, hb, hml, hown, hts⟩ (mX9_in l D L ac hL _ a2 0 99 _ _ hc_7) (va_cwS 3 hts gX9_set_X9_in rfl rfl rfl (by decide +kernel) ⟨Nat.le_of_ble_eq_true rfl, Nat.le_of_ble_eq_true rfl⟩) (k_ps hK hN hQ_2 _) rfl rfl hl.1 rfl (lv_room (Nat.le_of_ble_eq_true rfl)) dX9_set_28 ⟨Nat.le_of_ble_eq_true rfl, Nat.le_of_ble_eq_true rfl⟩) hA hQ_2 (fun H_9 locs_9 hO_9 => ?_)
      clear hQ_2
      refine lv_if_eq (tgt := 38) hx hb dX9_set_31 (by decide) (fun c_10 => ?_) (fun c_10 => ?_)
      · rw [if_pos c_10] at hf
        subst c_10
        refine lv_iconst (v := 0) hx hb dX9_set_38 (by decide) ?_
        refine lv_istore_n (lv' := [(3, .int 0), (0, .ref (L 15)), (1, .int 1), (2, .int a2)]) hx hb dX9_set_39 rfl hl (by decide) rfl (fun ls_11 hl_11 => ?_)
        clear hl
        refine lv_iload_n hx hb dX9_set_40 rfl (lv_at hl_11 0 rfl) ?_
        refine lv_if_ne (tgt := 47) hx hb dX9_set_41 (by decide) (fun c_12 => absurd (by decide) c_12) (fun _ => ?_)
        refine lv_bipush (v := (-2)) hx hb dX9_set_44 (by decide) ?_
        obtain ⟨rfl, rfl⟩ := Prod.mk.inj (Option.some.inj hf)
        exact e_i hx hb hr hK hN hO_9 hlocks dX9_set_46
      · rw [if_neg c_10] at hf
        refine lv_iconst (v := 1) hx hb dX9_set_34 (by decide) ?_
        refine lv_goto (tgt := 39) hx hb dX9_set_35 (by decide) ?_
        refine lv_istore_n (lv' := [(3, .int 1), (0, .ref (L 15)), (1, .int 1), (2, .int a2)]) hx hb dX9_set_39 rfl hl (by decide) rfl (fun ls_13 hl_13 => ?_)
        clear hl
        refine lv_iload_n hx hb dX9_set_40 rfl (lv_at hl_13 0 rfl) ?_
        refine lv_if_ne (tgt := 47) hx hb dX9_set_41 (by decide) (fun _ => ?_) (fun c_14 => absurd c_14 (by decide))
        refine lv_aload_n hx hb dX9_set_47 rfl (lv_at hl_13 1 rfl) ?_
        replace hf := zv_some hf
        obtain ⟨X_15, hc_15, hf⟩ := hf
        refine k_av (va_runV (As := []) (rest := []) ⟨hx, hb, hml, hown, hts⟩ (mX9_records l D L ac hL _  _ hc_15) (cwV 0 hts gX9_set_X9_records rfl rfl rfl (by decide +kernel) ⟨Nat.le_of_ble_eq_true rfl, Nat.le_of_ble_eq_true rfl⟩) (k_pv (j := 15) hK hN hO_9 (by decide) rfl rfl _) rfl rfl hl_13.1 rfl (lv_room (Nat.le_of_ble_eq_true rfl)) dX9_set_48 ⟨Nat.le_of_ble_eq_true rfl, Nat.le_of_ble_eq_true rfl⟩) hA hO_9 (fun H_16 locs_16 hO_16 => ?_)
        clear hO_9
        refine lv_aload_n hx hb dX9_set_51 rfl (lv_at hl_13 1 rfl) ?_
        refine k_get (k := 1) (v := .ref (L 16)) hx hb hts in_X9_set_X9 hown hK hO_16 (by decide) rfl rfl (by decide) lk_X9_set_f7 rfl dX9_set_52 ?_
        refine lv_iload_n hx hb dX9_set_55 rfl (lv_at hl_13 2 rfl) ?_
        refine k_iald hx hb hK hO_16 (by decide) (fun _ => rfl) (show vp_in 1 27 from by unfold vp_in; decide) dX9_set_56 ?_
        refine lv_tope (z := X_15 23 1) rfl ?_
        replace hf := zl_some hf
        obtain ⟨v_17, hv_17, hf⟩ := hf
        refine lv_tope hv_17 ?_
        refine lv_istore (lv' := [(4, .int v_17), (3, .int 1), (0, .ref (L 15)), (1, .int 1), (2, .int a2)]) hx hb dX9_set_57 hl_13 (by decide) rfl (fun ls_18 hl_18 => ?_)
        clear hl_13
        refine lv_aload_n hx hb dX9_set_59 rfl (lv_at hl_18 2 rfl) ?_
        refine k_get (k := 1) (v := .ref (L 16)) hx hb hts in_X9_set_X9 hown hK hO_16 (by decide) rfl rfl (by decide) lk_X9_set_f7 rfl dX9_set_60 ?_
        refine lv_iload_n hx hb dX9_set_63 rfl (lv_at hl_18 3 rfl) ?_
        refine lv_iload_n hx hb dX9_set_64 rfl (lv_at hl_18 4 rfl) ?_
        refine k_iast hx hb hK hL hA hO_16 (by decide) (by decide) rfl (fun _ => rfl) (show vp_in 1 27 from by unfold vp_in; decide) dX9_set_65 (fun H_20 locs_20 hO_20 => ?_)
        replace hf := zl_some hf
        obtain ⟨X_19, hX_19, hf⟩ := hf
        have hQ_20 := zo_eq hX_19 hO_20
        clear hO_20 hO_16
        refine lv_iload hx hb dX9_set_66 (lv_at hl_18 0 rfl) ?_
        obtain ⟨rfl, rfl⟩ := Prod.mk.inj (Option.some.inj hf)
        exact e_i hx hb hr hK hN hQ_20 hlocks dX9_set_68
  · rw [if_pos c_3] at hf
    subst c_3
    refine lv_iload_n hx hb dX9_set_9 rfl (lv_at hl 2 rfl) ?_
    refine lv_iconst (v := 1) hx hb dX9_set_10 (by decide) ?_
    refine lv_bipush (v := 31) hx hb dX9_set_11 (by decide) ?_
    replace hf := zi_some hf
    obtain ⟨r_22, X_21, hc_21, hf⟩ := hf
    refine k_ai (va_runS (As := [.int a2, .int 1, .int 31]) (rest := []) ⟨hx, hb, hml, hown, hts⟩ (mX9_in l D L ac hL _ a2 1 31 _ _ hc_21) (va_cwS 3 hts gX9_set_X9_in rfl rfl rfl (by decide +kernel) ⟨Nat.le_of_ble_eq_true rfl, Nat.le_of_ble_eq_true rfl⟩) (k_ps hK hN hQ_2 _) rfl rfl hl.1 rfl (lv_room (Nat.le_of_ble_eq_true rfl)) dX9_set_13 ⟨Nat.le_of_ble_eq_true rfl, Nat.le_of_ble_eq_true rfl⟩) hA hQ_2 (fun H_23 locs_23 hO_23 => ?_)
    clear hQ_2
    refine lv_goto (tgt := 39) hx hb dX9_set_16 (by decide) ?_
    refine lv_istore_n (lv' := [(3, .int r_22), (0, .ref (L 15)), (1, .int 0), (2, .int a2)]) hx hb dX9_set_39 rfl hl (by decide) rfl (fun ls_24 hl_24 => ?_)
    clear hl
    refine lv_iload_n hx hb dX9_set_40 rfl (lv_at hl_24 0 rfl) ?_
    refine lv_if_ne (tgt := 47) hx hb dX9_set_41 (by decide) (fun c_25 => ?_) (fun c_25 => ?_)
    · rw [if_neg c_25] at hf
      refine lv_aload_n hx hb dX9_set_47 rfl (lv_at hl_24 1 rfl) ?_
      replace hf := zv_some hf
      obtain ⟨X_26, hc_26, hf⟩ := hf
      refine k_av (va_runV (As := []) (rest := []) ⟨hx, hb, hml, hown, hts⟩ (mX9_records l D L ac hL _  _ hc_26) (cwV 0 hts gX9_set_X9_records rfl rfl rfl (by decide +kernel) ⟨Nat.le_of_ble_eq_true rfl, Nat.le_of_ble_eq_true rfl⟩) (k_pv (j := 15) hK hN hO_23 (by decide) rfl rfl _) rfl rfl hl_24.1 rfl (lv_room (Nat.le_of_ble_eq_true rfl)) dX9_set_48 ⟨Nat.le_of_ble_eq_true rfl, Nat.le_of_ble_eq_true rfl⟩) hA hO_23 (fun H_27 locs_27 hO_27 => ?_)
      clear hO_23
      refine lv_aload_n hx hb dX9_set_51 rfl (lv_at hl_24 1 rfl) ?_
      refine k_get (k := 1) (v := .ref (L 16)) hx hb hts in_X9_set_X9 hown hK hO_27 (by decide) rfl rfl (by decide) lk_X9_set_f7 rfl dX9_set_52 ?_
      refine lv_iload_n hx hb dX9_set_55 rfl (lv_at hl_24 2 rfl) ?_
      refine k_iald hx hb hK hO_27 (by decide) (fun _ => rfl) (show vp_in 0 27 from by unfold vp_in; decide) dX9_set_56 ?_
      refine lv_tope (z := X_26 23 0) rfl ?_
      replace hf := zl_some hf
      obtain ⟨v_28, hv_28, hf⟩ := hf
      refine lv_tope hv_28 ?_
      refine lv_istore (lv' := [(4, .int v_28), (3, .int r_22), (0, .ref (L 15)), (1, .int 0), (2, .int a2)]) hx hb dX9_set_57 hl_24 (by decide) rfl (fun ls_29 hl_29 => ?_)
      clear hl_24
      refine lv_aload_n hx hb dX9_set_59 rfl (lv_at hl_29 2 rfl) ?_
      refine k_get (k := 1) (v := .ref (L 16)) hx hb hts in_X9_set_X9 hown hK hO_27 (by decide) rfl rfl (by decide) lk_X9_set_f7 rfl dX9_set_60 ?_
      refine lv_iload_n hx hb dX9_set_63 rfl (lv_at hl_29 3 rfl) ?_
      refine lv_iload_n hx hb dX9_set_64 rfl (lv_at hl_29 4 rfl) ?_
      refine k_iast hx hb hK hL hA hO_27 (by decide) (by decide) rfl (fun _ => rfl) (show vp_in 0 27 from by unfold vp_in; decide) dX9_set_65 (fun H_31 locs_31 hO_31 => ?_)
      replace hf := zl_some hf
      obtain ⟨X_30, hX_30, hf⟩ := hf
      have hQ_31 := zo_eq hX_30 hO_31
      clear hO_31 hO_27
      refine lv_iload hx hb dX9_set_66 (lv_at hl_29 0 rfl) ?_
      obtain ⟨rfl, rfl⟩ := Prod.mk.inj (Option.some.inj hf)
      exact e_i hx hb hr hK hN hQ_31 hlocks dX9_set_68
    · rw [if_pos c_25] at hf
      subst c_25
      refine lv_bipush (v := (-2)) hx hb dX9_set_44 (by decide) ?_
      obtain ⟨rfl, rfl⟩ := Prod.mk.inj (Option.some.inj hf)
      exact e_i hx hb hr hK hN hO_23 hlocks dX9_set_46
theorem in_X9_refusesPile_X9 : ∀ w ∈ u_ws RX9 TX9 16, w ∈ wsX9_refusesPile := by decide +kernel
theorem lk_X9_refusesPile_f7 : Cond.fieldLink RX9 7 "PoisonPilesModel" "s" "[I" ∈ wsX9_refusesPile := by decide +kernel
def fX9_refusesPile  (a1 : Int32) (a2 : Int32) (a3 : Int32) (X : XM) : Option (Int32 × XM) := zi (fX9_in a1 0 5 X) (fun r_2 X_1 => if r_2 = 0 then some ((-2), X_1) else zi (fX9_in a2 0 9 X_1) (fun r_8 X_7 => if r_8 = 0 then some ((-2), X_7) else zi (fX9_in a3 0 1 X_7) (fun r_14 X_13 => if r_14 = 0 then some ((-2), X_13) else if (X_13 23 2) = 4 then some ((-4), X_13) else some (0, X_13))))
set_option maxHeartbeats 4000000 in
set_option maxRecDepth 100000 in
theorem mX9_refusesPile (l : Launch) (D : va_G) (L : Nat → Nat) (ac : Nat → ClassId) (hL : LL L) (X : XM) (a1 : Int32) (a2 : Int32) (a3 : Int32) (r0 : Int32) (X0 : XM) (hf : fX9_refusesPile a1 a2 a3 X = some (r0, X0)) : Ci l yX9_refusesPile wsX9_refusesPile ({ frames := 1, cells := 0, slots := 0, locals := 22 }) D L ac X [.ref (L 15), .int a1, .int a2, .int a3] r0 X0 := by
  refine Met.ofK (cc := cX9_refusesPile) (maxL := 5) (ret := (some .int)) (lv := [(0, .ref (L 15)), (1, .int a1), (2, .int a2), (3, .int a3)]) (by decide +kernel) rfl (Nat.le_of_ble_eq_true rfl) rfl ?_
  intro p e s m below meth c F hO ls hl
  obtain ⟨hx, hb, hr, hts, hown, hlocks, hml, hK, hN⟩ := id F
  have hA : ∀ q, fr L q → fr L q := fun q h => h
  unfold fX9_refusesPile at hf
  refine lv_iload_n hx hb dX9_refusesPile_0 rfl (lv_at hl 1 rfl) ?_
  refine lv_iconst (v := 0) hx hb dX9_refusesPile_1 (by decide) ?_
  refine lv_iconst (v := 5) hx hb dX9_refusesPile_2 (by decide) ?_
  replace hf := zi_some hf
  obtain ⟨r_2, X_1, hc_1, hf⟩ := hf
  refine k_ai (va_runS (As := [.int a1, .int 0, .int 5]) (rest := []) ⟨hx, hb, hml, hown, hts⟩ (mX9_in l D L ac hL _ a1 0 5 _ _ hc_1) (va_cwS 3 hts gX9_refusesPile_X9_in rfl rfl rfl (by decide +kernel) ⟨Nat.le_of_ble_eq_true rfl, Nat.le_of_ble_eq_true rfl⟩) (k_ps hK hN hO _) rfl rfl hl.1 rfl (lv_room (Nat.le_of_ble_eq_true rfl)) dX9_refusesPile_3 ⟨Nat.le_of_ble_eq_true rfl, Nat.le_of_ble_eq_true rfl⟩) hA hO (fun H_3 locs_3 hO_3 => ?_)
  clear hO
  refine lv_if_eq (tgt := 32) hx hb dX9_refusesPile_6 (by decide) (fun c_4 => ?_) (fun c_4 => ?_)
  · rw [if_pos c_4] at hf
    subst c_4
    refine lv_iconst (v := 0) hx hb dX9_refusesPile_32 (by decide) ?_
    refine lv_istore (lv' := [(4, .int 0), (0, .ref (L 15)), (1, .int a1), (2, .int a2), (3, .int a3)]) hx hb dX9_refusesPile_33 hl (by decide) rfl (fun ls_5 hl_5 => ?_)
    clear hl
    refine lv_iload hx hb dX9_refusesPile_35 (lv_at hl_5 0 rfl) ?_
    refine lv_if_ne (tgt := 45) hx hb dX9_refusesPile_37 (by decide) (fun c_6 => absurd (by decide) c_6) (fun _ => ?_)
    refine lv_bipush (v := (-2)) hx hb dX9_refusesPile_40 (by decide) ?_
    refine lv_goto (tgt := 61) hx hb dX9_refusesPile_42 (by decide) ?_
    obtain ⟨rfl, rfl⟩ := Prod.mk.inj (Option.some.inj hf)
    exact e_i hx hb hr hK hN hO_3 hlocks dX9_refusesPile_61
  · rw [if_neg c_4] at hf
    refine lv_iload_n hx hb dX9_refusesPile_9 rfl (lv_at hl 2 rfl) ?_
    refine lv_iconst (v := 0) hx hb dX9_refusesPile_10 (by decide) ?_
    refine lv_bipush (v := 9) hx hb dX9_refusesPile_11 (by decide) ?_
    replace hf := zi_some hf
    obtain ⟨r_8, X_7, hc_7, hf⟩ := hf
    refine k_ai (va_runS (As := [.int a2, .int 0, .int 9]) (rest := []) ⟨hx, hb, hml, hown, hts⟩ (mX9_in l D L ac hL _ a2 0 9 _ _ hc_7) (va_cwS 3 hts gX9_refusesPile_X9_in rfl rfl rfl (by decide +kernel) ⟨Nat.le_of_ble_eq_true rfl, Nat.le_of_ble_eq_true rfl⟩) (k_ps hK hN hO_3 _) rfl rfl hl.1 rfl (lv_room (Nat.le_of_ble_eq_true rfl)) dX9_refusesPile_13 ⟨Nat.le_of_ble_eq_true rfl, Nat.le_of_ble_eq_true rfl⟩) hA hO_3 (fun H_9 locs_9 hO_9 => ?_)
    clear hO_3
    refine lv_if_eq (tgt := 32) hx hb dX9_refusesPile_16 (by decide) (fun c_10 => ?_) (fun c_10 => ?_)
    · rw [if_pos c_10] at hf
      subst c_10
      refine lv_iconst (v := 0) hx hb dX9_refusesPile_32 (by decide) ?_
      refine lv_istore (lv' := [(4, .int 0), (0, .ref (L 15)), (1, .int a1), (2, .int a2), (3, .int a3)]) hx hb dX9_refusesPile_33 hl (by decide) rfl (fun ls_11 hl_11 => ?_)
      clear hl
      refine lv_iload hx hb dX9_refusesPile_35 (lv_at hl_11 0 rfl) ?_
      refine lv_if_ne (tgt := 45) hx hb dX9_refusesPile_37 (by decide) (fun c_12 => absurd (by decide) c_12) (fun _ => ?_)
      refine lv_bipush (v := (-2)) hx hb dX9_refusesPile_40 (by decide) ?_
      refine lv_goto (tgt := 61) hx hb dX9_refusesPile_42 (by decide) ?_
      obtain ⟨rfl, rfl⟩ := Prod.mk.inj (Option.some.inj hf)
      exact e_i hx hb hr hK hN hO_9 hlocks dX9_refusesPile_61
    · rw [if_neg c_10] at hf
      refine lv_iload_n hx hb dX9_refusesPile_19 rfl (lv_at hl 3 rfl) ?_
      refine lv_iconst (v := 0) hx hb dX9_refusesPile_20 (by decide) ?_
      refine lv_iconst (v := 1) hx hb dX9_refusesPile_21 (by decide) ?_
      replace hf := zi_some hf
      obtain ⟨r_14, X_13, hc_13, hf⟩ := hf
      refine k_ai (va_runS (As := [.int a3, .int 0, .int 1]) (rest := []) ⟨hx, hb, hml, hown, hts⟩ (mX9_in l D L ac hL _ a3 0 1 _ _ hc_13) (va_cwS 3 hts gX9_refusesPile_X9_in rfl rfl rfl (by decide +kernel) ⟨Nat.le_of_ble_eq_true rfl, Nat.le_of_ble_eq_true rfl⟩) (k_ps hK hN hO_9 _) rfl rfl hl.1 rfl (lv_room (Nat.le_of_ble_eq_true rfl)) dX9_refusesPile_22 ⟨Nat.le_of_ble_eq_true rfl, Nat.le_of_ble_eq_true rfl⟩) hA hO_9 (fun H_15 locs_15 hO_15 => ?_)
      clear hO_9
      refine lv_if_eq (tgt := 32) hx hb dX9_refusesPile_25 (by decide) (fun c_16 => ?_) (fun c_16 => ?_)
      · rw [if_pos c_16] at hf
        subst c_16
        refine lv_iconst (v := 0) hx hb dX9_refusesPile_32 (by decide) ?_
        refine lv_istore (lv' := [(4, .int 0), (0, .ref (L 15)), (1, .int a1), (2, .int a2), (3, .int a3)]) hx hb dX9_refusesPile_33 hl (by decide) rfl (fun ls_17 hl_17 => ?_)
        clear hl
        refine lv_iload hx hb dX9_refusesPile_35 (lv_at hl_17 0 rfl) ?_
        refine lv_if_ne (tgt := 45) hx hb dX9_refusesPile_37 (by decide) (fun c_18 => absurd (by decide) c_18) (fun _ => ?_)
        refine lv_bipush (v := (-2)) hx hb dX9_refusesPile_40 (by decide) ?_
        refine lv_goto (tgt := 61) hx hb dX9_refusesPile_42 (by decide) ?_
        obtain ⟨rfl, rfl⟩ := Prod.mk.inj (Option.some.inj hf)
        exact e_i hx hb hr hK hN hO_15 hlocks dX9_refusesPile_61
      · rw [if_neg c_16] at hf
        refine lv_iconst (v := 1) hx hb dX9_refusesPile_28 (by decide) ?_
        refine lv_goto (tgt := 33) hx hb dX9_refusesPile_29 (by decide) ?_
        refine lv_istore (lv' := [(4, .int 1), (0, .ref (L 15)), (1, .int a1), (2, .int a2), (3, .int a3)]) hx hb dX9_refusesPile_33 hl (by decide) rfl (fun ls_19 hl_19 => ?_)
        clear hl
        refine lv_iload hx hb dX9_refusesPile_35 (lv_at hl_19 0 rfl) ?_
        refine lv_if_ne (tgt := 45) hx hb dX9_refusesPile_37 (by decide) (fun _ => ?_) (fun c_20 => absurd c_20 (by decide))
        refine lv_aload_n hx hb dX9_refusesPile_45 rfl (lv_at hl_19 1 rfl) ?_
        refine k_get (k := 1) (v := .ref (L 16)) hx hb hts in_X9_refusesPile_X9 hown hK hO_15 (by decide) rfl rfl (by decide) lk_X9_refusesPile_f7 rfl dX9_refusesPile_46 ?_
        refine lv_iconst (v := 2) hx hb dX9_refusesPile_49 (by decide) ?_
        refine k_iald hx hb hK hO_15 (by decide) (fun _ => rfl) (show vp_in 2 27 from by unfold vp_in; decide) dX9_refusesPile_50 ?_
        refine lv_tope (z := X_13 23 2) rfl ?_
        refine lv_iconst (v := 4) hx hb dX9_refusesPile_51 (by decide) ?_
        refine lv_icmp_ne (tgt := 60) hx hb dX9_refusesPile_52 (by decide) (fun c_21 => ?_) (fun c_21 => ?_)
        · rw [if_neg c_21] at hf
          refine lv_iconst (v := 0) hx hb dX9_refusesPile_60 (by decide) ?_
          obtain ⟨rfl, rfl⟩ := Prod.mk.inj (Option.some.inj hf)
          exact e_i hx hb hr hK hN hO_15 hlocks dX9_refusesPile_61
        · rw [if_pos c_21] at hf
          refine lv_bipush (v := (-4)) hx hb dX9_refusesPile_55 (by decide) ?_
          refine lv_goto (tgt := 61) hx hb dX9_refusesPile_57 (by decide) ?_
          obtain ⟨rfl, rfl⟩ := Prod.mk.inj (Option.some.inj hf)
          exact e_i hx hb hr hK hN hO_15 hlocks dX9_refusesPile_61
theorem in_X9_comes_X9 : ∀ w ∈ u_ws RX9 TX9 16, w ∈ wsX9_comes := by decide +kernel
theorem lk_X9_comes_f7 : Cond.fieldLink RX9 7 "PoisonPilesModel" "s" "[I" ∈ wsX9_comes := by decide +kernel
def fX9_comes  (a1 : Int32) (a2 : Int32) (a3 : Int32) (X : XM) : Option (Int32 × XM) := zl (X 23 2) (fun v_1 => zv (fX9_lay v_1 0 a1 X) (fun X_3 => zv (fX9_lay v_1 1 a2 X_3) (fun X_5 => zv (fX9_lay v_1 2 a3 X_5) (fun X_7 => zv (fX9_lay v_1 3 a1 X_7) (fun X_9 => zl (xup X_9 23 2 ((X_9 23 2) + 1)) (fun X_11 => some (v_1, X_11)))))))
set_option maxHeartbeats 4000000 in
set_option maxRecDepth 100000 in
theorem mX9_comes (l : Launch) (D : va_G) (L : Nat → Nat) (ac : Nat → ClassId) (hL : LL L) (X : XM) (a1 : Int32) (a2 : Int32) (a3 : Int32) (r0 : Int32) (X0 : XM) (hf : fX9_comes a1 a2 a3 X = some (r0, X0)) : Ci l yX9_comes wsX9_comes ({ frames := 1, cells := 0, slots := 0, locals := 23 }) D L ac X [.ref (L 15), .int a1, .int a2, .int a3] r0 X0 := by
  refine Met.ofK (cc := cX9_comes) (maxL := 5) (ret := (some .int)) (lv := [(0, .ref (L 15)), (1, .int a1), (2, .int a2), (3, .int a3)]) (by decide +kernel) rfl (Nat.le_of_ble_eq_true rfl) rfl ?_
  intro p e s m below meth c F hO ls hl
  obtain ⟨hx, hb, hr, hts, hown, hlocks, hml, hK, hN⟩ := id F
  have hA : ∀ q, fr L q → fr L q := fun q h => h
  unfold fX9_comes at hf
  refine lv_aload_n hx hb dX9_comes_0 rfl (lv_at hl 0 rfl) ?_
  refine k_get (k := 1) (v := .ref (L 16)) hx hb hts in_X9_comes_X9 hown hK hO (by decide) rfl rfl (by decide) lk_X9_comes_f7 rfl dX9_comes_1 ?_
  refine lv_iconst (v := 2) hx hb dX9_comes_4 (by decide) ?_
  refine k_iald hx hb hK hO (by decide) (fun _ => rfl) (show vp_in 2 27 from by unfold vp_in; decide) dX9_comes_5 ?_
  refine lv_tope (z := X 23 2) rfl ?_
  replace hf := zl_some hf
  obtain ⟨v_1, hv_1, hf⟩ := hf
  refine lv_tope hv_1 ?_
  refine lv_istore (lv' := [(4, .int v_1), (0, .ref (L 15)), (1, .int a1), (2, .int a2), (3, .int a3)]) hx hb dX9_comes_6 hl (by decide) rfl (fun ls_2 hl_2 => ?_)
  clear hl
  refine lv_aload_n hx hb dX9_comes_8 rfl (lv_at hl_2 1 rfl) ?_
  refine lv_iload hx hb dX9_comes_9 (lv_at hl_2 0 rfl) ?_
  refine lv_iconst (v := 0) hx hb dX9_comes_11 (by decide) ?_
  refine lv_iload_n hx hb dX9_comes_12 rfl (lv_at hl_2 2 rfl) ?_
  replace hf := zv_some hf
  obtain ⟨X_3, hc_3, hf⟩ := hf
  refine k_av (va_runV (As := [.int v_1, .int 0, .int a1]) (rest := []) ⟨hx, hb, hml, hown, hts⟩ (mX9_lay l D L ac hL _ v_1 0 a1 _ hc_3) (cwV 3 hts gX9_comes_X9_lay rfl rfl rfl (by decide +kernel) ⟨Nat.le_of_ble_eq_true rfl, Nat.le_of_ble_eq_true rfl⟩) (k_pv (j := 15) hK hN hO (by decide) rfl rfl _) rfl rfl hl_2.1 rfl (lv_room (Nat.le_of_ble_eq_true rfl)) dX9_comes_13 ⟨Nat.le_of_ble_eq_true rfl, Nat.le_of_ble_eq_true rfl⟩) hA hO (fun H_4 locs_4 hO_4 => ?_)
  clear hO
  refine lv_aload_n hx hb dX9_comes_16 rfl (lv_at hl_2 1 rfl) ?_
  refine lv_iload hx hb dX9_comes_17 (lv_at hl_2 0 rfl) ?_
  refine lv_iconst (v := 1) hx hb dX9_comes_19 (by decide) ?_
  refine lv_iload_n hx hb dX9_comes_20 rfl (lv_at hl_2 3 rfl) ?_
  replace hf := zv_some hf
  obtain ⟨X_5, hc_5, hf⟩ := hf
  refine k_av (va_runV (As := [.int v_1, .int 1, .int a2]) (rest := []) ⟨hx, hb, hml, hown, hts⟩ (mX9_lay l D L ac hL _ v_1 1 a2 _ hc_5) (cwV 3 hts gX9_comes_X9_lay rfl rfl rfl (by decide +kernel) ⟨Nat.le_of_ble_eq_true rfl, Nat.le_of_ble_eq_true rfl⟩) (k_pv (j := 15) hK hN hO_4 (by decide) rfl rfl _) rfl rfl hl_2.1 rfl (lv_room (Nat.le_of_ble_eq_true rfl)) dX9_comes_21 ⟨Nat.le_of_ble_eq_true rfl, Nat.le_of_ble_eq_true rfl⟩) hA hO_4 (fun H_6 locs_6 hO_6 => ?_)
  clear hO_4
  refine lv_aload_n hx hb dX9_comes_24 rfl (lv_at hl_2 1 rfl) ?_
  refine lv_iload hx hb dX9_comes_25 (lv_at hl_2 0 rfl) ?_
  refine lv_iconst (v := 2) hx hb dX9_comes_27 (by decide) ?_
  refine lv_iload_n hx hb dX9_comes_28 rfl (lv_at hl_2 4 rfl) ?_
  replace hf := zv_some hf
  obtain ⟨X_7, hc_7, hf⟩ := hf
  refine k_av (va_runV (As := [.int v_1, .int 2, .int a3]) (rest := []) ⟨hx, hb, hml, hown, hts⟩ (mX9_lay l D L ac hL _ v_1 2 a3 _ hc_7) (cwV 3 hts gX9_comes_X9_lay rfl rfl rfl (by decide +kernel) ⟨Nat.le_of_ble_eq_true rfl, Nat.le_of_ble_eq_true rfl⟩) (k_pv (j := 15) hK hN hO_6 (by decide) rfl rfl _) rfl rfl hl_2.1 rfl (lv_room (Nat.le_of_ble_eq_true rfl)) dX9_comes_29 ⟨Nat.le_of_ble_eq_true rfl, Nat.le_of_ble_eq_true rfl⟩) hA hO_6 (fun H_8 locs_8 hO_8 => ?_)
  clear hO_6
  refine lv_aload_n hx hb dX9_comes_32 rfl (lv_at hl_2 1 rfl) ?_
  refine lv_iload hx hb dX9_comes_33 (lv_at hl_2 0 rfl) ?_
  refine lv_iconst (v := 3) hx hb dX9_comes_35 (by decide) ?_
  refine lv_iload_n hx hb dX9_comes_36 rfl (lv_at hl_2 2 rfl) ?_
  replace hf := zv_some hf
  obtain ⟨X_9, hc_9, hf⟩ := hf
  refine k_av (va_runV (As := [.int v_1, .int 3, .int a1]) (rest := []) ⟨hx, hb, hml, hown, hts⟩ (mX9_lay l D L ac hL _ v_1 3 a1 _ hc_9) (cwV 3 hts gX9_comes_X9_lay rfl rfl rfl (by decide +kernel) ⟨Nat.le_of_ble_eq_true rfl, Nat.le_of_ble_eq_true rfl⟩) (k_pv (j := 15) hK hN hO_8 (by decide) rfl rfl _) rfl rfl hl_2.1 rfl (lv_room (Nat.le_of_ble_eq_true rfl)) dX9_comes_37 ⟨Nat.le_of_ble_eq_true rfl, Nat.le_of_ble_eq_true rfl⟩) hA hO_8 (fun H_10 locs_10 hO_10 => ?_)
  clear hO_8
  refine lv_aload_n hx hb dX9_comes_40 rfl (lv_at hl_2 1 rfl) ?_
  refine k_get (k := 1) (v := .ref (L 16)) hx hb hts in_X9_comes_X9 hown hK hO_10 (by decide) rfl rfl (by decide) lk_X9_comes_f7 rfl dX9_comes_41 ?_
  refine lv_iconst (v := 2) hx hb dX9_comes_44 (by decide) ?_
  refine lv_dup2_11 hx hb dX9_comes_45 rfl rfl ?_
  refine k_iald hx hb hK hO_10 (by decide) (fun _ => rfl) (show vp_in 2 27 from by unfold vp_in; decide) dX9_comes_46 ?_
  refine lv_tope (z := X_9 23 2) rfl ?_
  refine lv_iconst (v := 1) hx hb dX9_comes_47 (by decide) ?_
  refine lv_iadd hx hb dX9_comes_48 ?_
  refine k_iast hx hb hK hL hA hO_10 (by decide) (by decide) rfl (fun _ => rfl) (show vp_in 2 27 from by unfold vp_in; decide) dX9_comes_49 (fun H_12 locs_12 hO_12 => ?_)
  replace hf := zl_some hf
  obtain ⟨X_11, hX_11, hf⟩ := hf
  have hQ_12 := zo_eq hX_11 hO_12
  clear hO_12 hO_10
  refine lv_iload hx hb dX9_comes_50 (lv_at hl_2 0 rfl) ?_
  obtain ⟨rfl, rfl⟩ := Prod.mk.inj (Option.some.inj hf)
  exact e_i hx hb hr hK hN hQ_12 hlocks dX9_comes_52
theorem in_X9_pile_X9 : ∀ w ∈ u_ws RX9 TX9 16, w ∈ wsX9_pile := by decide +kernel
theorem lk_X9_pile_f41 : Cond.fieldLink RX9 41 "PoisonPilesModel" "thrown" "I" ∈ wsX9_pile := by decide +kernel
def fX9_pile  (a1 : Int32) (a2 : Int32) (a3 : Int32) (X : XM) : Option (Int32 × XM) := zl (xup X 22 0 0) (fun X_1 => zi (fX9_refusesPile a1 a2 a3 X_1) (fun r_4 X_3 => if r_4 = 0 then zv (fX9_records X_3) (fun X_8 => zi (fX9_comes a1 a2 a3 X_8) (fun r_11 X_10 => some (r_11, X_10))) else some (r_4, X_3)))
set_option maxHeartbeats 4000000 in
set_option maxRecDepth 100000 in
theorem mX9_pile (l : Launch) (D : va_G) (L : Nat → Nat) (ac : Nat → ClassId) (hL : LL L) (X : XM) (a1 : Int32) (a2 : Int32) (a3 : Int32) (r0 : Int32) (X0 : XM) (hf : fX9_pile a1 a2 a3 X = some (r0, X0)) : Ci l yX9_pile wsX9_pile ({ frames := 2, cells := 0, slots := 0, locals := 47 }) D L ac X [.ref (L 15), .int a1, .int a2, .int a3] r0 X0 := by
  refine Met.ofK (cc := cX9_pile) (maxL := 5) (ret := (some .int)) (lv := [(0, .ref (L 15)), (1, .int a1), (2, .int a2), (3, .int a3)]) (by decide +kernel) rfl (Nat.le_of_ble_eq_true rfl) rfl ?_
  intro p e s m below meth c F hO ls hl
  obtain ⟨hx, hb, hr, hts, hown, hlocks, hml, hK, hN⟩ := id F
  have hA : ∀ q, fr L q → fr L q := fun q h => h
  unfold fX9_pile at hf
  refine lv_aload_n hx hb dX9_pile_0 rfl (lv_at hl 0 rfl) ?_
  refine lv_iconst (v := 0) hx hb dX9_pile_1 (by decide) ?_
  refine k_put (ty := .int) (k := 0) (r := 22) (k' := 0) hx hb tyX9 tyX9_ok nmX9 hts in_X9_pile_X9 hown hK  hL hA hO (by decide) rfl (by omega) (fun Y => rfl) (by simp [xup]) rfl (by decide) lk_X9_pile_f41 rfl (by decide +kernel) rfl rfl (Nat.le_of_ble_eq_true rfl) dX9_pile_2 (fun H_2 locs_2 hO_2 => ?_)
  replace hf := zl_some hf
  obtain ⟨X_1, hX_1, hf⟩ := hf
  have hQ_2 := zo_eq hX_1 hO_2
  clear hO_2 hO
  refine lv_aload_n hx hb dX9_pile_5 rfl (lv_at hl 0 rfl) ?_
  refine lv_iload_n hx hb dX9_pile_6 rfl (lv_at hl 1 rfl) ?_
  refine lv_iload_n hx hb dX9_pile_7 rfl (lv_at hl 2 rfl) ?_
  refine lv_iload_n hx hb dX9_pile_8 rfl (lv_at hl 3 rfl) ?_
  replace hf := zi_some hf
  obtain ⟨r_4, X_3, hc_3, hf⟩ := hf
  refine k_ai (va_runV (As := [.int a1, .int a2, .int a3]) (rest := []) ⟨hx, hb, hml, hown, hts⟩ (mX9_refusesPile l D L ac hL _ a1 a2 a3 _ _ hc_3) (cwV 3 hts gX9_pile_X9_refusesPile rfl rfl rfl (by decide +kernel) ⟨Nat.le_of_ble_eq_true rfl, Nat.le_of_ble_eq_true rfl⟩) (k_pv (j := 15) hK hN hQ_2 (by decide) rfl rfl _) rfl rfl hl.1 rfl (lv_room (Nat.le_of_ble_eq_true rfl)) dX9_pile_9 ⟨Nat.le_of_ble_eq_true rfl, Nat.le_of_ble_eq_true rfl⟩) hA hQ_2 (fun H_5 locs_5 hO_5 => ?_)
  clear hQ_2
  refine lv_istore (lv' := [(4, .int r_4), (0, .ref (L 15)), (1, .int a1), (2, .int a2), (3, .int a3)]) hx hb dX9_pile_12 hl (by decide) rfl (fun ls_6 hl_6 => ?_)
  clear hl
  refine lv_iload hx hb dX9_pile_14 (lv_at hl_6 0 rfl) ?_
  refine lv_if_eq (tgt := 22) hx hb dX9_pile_16 (by decide) (fun c_7 => ?_) (fun c_7 => ?_)
  · rw [if_pos c_7] at hf
    subst c_7
    refine lv_aload_n hx hb dX9_pile_22 rfl (lv_at hl_6 1 rfl) ?_
    replace hf := zv_some hf
    obtain ⟨X_8, hc_8, hf⟩ := hf
    refine k_av (va_runV (As := []) (rest := []) ⟨hx, hb, hml, hown, hts⟩ (mX9_records l D L ac hL _  _ hc_8) (cwV 0 hts gX9_pile_X9_records rfl rfl rfl (by decide +kernel) ⟨Nat.le_of_ble_eq_true rfl, Nat.le_of_ble_eq_true rfl⟩) (k_pv (j := 15) hK hN hO_5 (by decide) rfl rfl _) rfl rfl hl_6.1 rfl (lv_room (Nat.le_of_ble_eq_true rfl)) dX9_pile_23 ⟨Nat.le_of_ble_eq_true rfl, Nat.le_of_ble_eq_true rfl⟩) hA hO_5 (fun H_9 locs_9 hO_9 => ?_)
    clear hO_5
    refine lv_aload_n hx hb dX9_pile_26 rfl (lv_at hl_6 1 rfl) ?_
    refine lv_iload_n hx hb dX9_pile_27 rfl (lv_at hl_6 2 rfl) ?_
    refine lv_iload_n hx hb dX9_pile_28 rfl (lv_at hl_6 3 rfl) ?_
    refine lv_iload_n hx hb dX9_pile_29 rfl (lv_at hl_6 4 rfl) ?_
    replace hf := zi_some hf
    obtain ⟨r_11, X_10, hc_10, hf⟩ := hf
    refine k_ai (va_runV (As := [.int a1, .int a2, .int a3]) (rest := []) ⟨hx, hb, hml, hown, hts⟩ (mX9_comes l D L ac hL _ a1 a2 a3 _ _ hc_10) (cwV 3 hts gX9_pile_X9_comes rfl rfl rfl (by decide +kernel) ⟨Nat.le_of_ble_eq_true rfl, Nat.le_of_ble_eq_true rfl⟩) (k_pv (j := 15) hK hN hO_9 (by decide) rfl rfl _) rfl rfl hl_6.1 rfl (lv_room (Nat.le_of_ble_eq_true rfl)) dX9_pile_30 ⟨Nat.le_of_ble_eq_true rfl, Nat.le_of_ble_eq_true rfl⟩) hA hO_9 (fun H_12 locs_12 hO_12 => ?_)
    clear hO_9
    obtain ⟨rfl, rfl⟩ := Prod.mk.inj (Option.some.inj hf)
    exact e_i hx hb hr hK hN hO_12 hlocks dX9_pile_33
  · rw [if_neg c_7] at hf
    refine lv_iload hx hb dX9_pile_19 (lv_at hl_6 0 rfl) ?_
    obtain ⟨rfl, rfl⟩ := Prod.mk.inj (Option.some.inj hf)
    exact e_i hx hb hr hK hN hO_5 hlocks dX9_pile_21
def fX9_refusesPasses  (a1 : Int32) (a2 : Int32) (X : XM) : Option (Int32 × XM) := zi (fX9_in a1 0 2 X) (fun r_2 X_1 => if r_2 = 0 then some ((-2), X_1) else zi (fX9_in a2 0 2 X_1) (fun r_6 X_5 => if r_6 = 0 then some ((-2), X_5) else some (0, X_5)))
set_option maxHeartbeats 4000000 in
set_option maxRecDepth 100000 in
theorem mX9_refusesPasses (l : Launch) (D : va_G) (L : Nat → Nat) (ac : Nat → ClassId) (hL : LL L) (X : XM) (a1 : Int32) (a2 : Int32) (r0 : Int32) (X0 : XM) (hf : fX9_refusesPasses a1 a2 X = some (r0, X0)) : Ci l yX9_refusesPasses wsX9_refusesPasses ({ frames := 1, cells := 0, slots := 0, locals := 22 }) D L ac X [.int a1, .int a2] r0 X0 := by
  refine Met.ofK (cc := cX9_refusesPasses) (maxL := 2) (ret := (some .int)) (lv := [(0, .int a1), (1, .int a2)]) (by decide +kernel) rfl (Nat.le_of_ble_eq_true rfl) rfl ?_
  intro p e s m below meth c F hO ls hl
  obtain ⟨hx, hb, hr, hts, hown, hlocks, hml, hK, hN⟩ := id F
  have hA : ∀ q, fr L q → fr L q := fun q h => h
  unfold fX9_refusesPasses at hf
  refine lv_iload_n hx hb dX9_refusesPasses_0 rfl (lv_at hl 0 rfl) ?_
  refine lv_iconst (v := 0) hx hb dX9_refusesPasses_1 (by decide) ?_
  refine lv_iconst (v := 2) hx hb dX9_refusesPasses_2 (by decide) ?_
  replace hf := zi_some hf
  obtain ⟨r_2, X_1, hc_1, hf⟩ := hf
  refine k_ai (va_runS (As := [.int a1, .int 0, .int 2]) (rest := []) ⟨hx, hb, hml, hown, hts⟩ (mX9_in l D L ac hL _ a1 0 2 _ _ hc_1) (va_cwS 3 hts gX9_refusesPasses_X9_in rfl rfl rfl (by decide +kernel) ⟨Nat.le_of_ble_eq_true rfl, Nat.le_of_ble_eq_true rfl⟩) (k_ps hK hN hO _) rfl rfl hl.1 rfl (lv_room (Nat.le_of_ble_eq_true rfl)) dX9_refusesPasses_3 ⟨Nat.le_of_ble_eq_true rfl, Nat.le_of_ble_eq_true rfl⟩) hA hO (fun H_3 locs_3 hO_3 => ?_)
  clear hO
  refine lv_if_eq (tgt := 22) hx hb dX9_refusesPasses_6 (by decide) (fun c_4 => ?_) (fun c_4 => ?_)
  · rw [if_pos c_4] at hf
    subst c_4
    refine lv_bipush (v := (-2)) hx hb dX9_refusesPasses_22 (by decide) ?_
    obtain ⟨rfl, rfl⟩ := Prod.mk.inj (Option.some.inj hf)
    exact e_i hx hb hr hK hN hO_3 hlocks dX9_refusesPasses_24
  · rw [if_neg c_4] at hf
    refine lv_iload_n hx hb dX9_refusesPasses_9 rfl (lv_at hl 1 rfl) ?_
    refine lv_iconst (v := 0) hx hb dX9_refusesPasses_10 (by decide) ?_
    refine lv_iconst (v := 2) hx hb dX9_refusesPasses_11 (by decide) ?_
    replace hf := zi_some hf
    obtain ⟨r_6, X_5, hc_5, hf⟩ := hf
    refine k_ai (va_runS (As := [.int a2, .int 0, .int 2]) (rest := []) ⟨hx, hb, hml, hown, hts⟩ (mX9_in l D L ac hL _ a2 0 2 _ _ hc_5) (va_cwS 3 hts gX9_refusesPasses_X9_in rfl rfl rfl (by decide +kernel) ⟨Nat.le_of_ble_eq_true rfl, Nat.le_of_ble_eq_true rfl⟩) (k_ps hK hN hO_3 _) rfl rfl hl.1 rfl (lv_room (Nat.le_of_ble_eq_true rfl)) dX9_refusesPasses_12 ⟨Nat.le_of_ble_eq_true rfl, Nat.le_of_ble_eq_true rfl⟩) hA hO_3 (fun H_7 locs_7 hO_7 => ?_)
    clear hO_3
    refine lv_if_eq (tgt := 22) hx hb dX9_refusesPasses_15 (by decide) (fun c_8 => ?_) (fun c_8 => ?_)
    · rw [if_pos c_8] at hf
      subst c_8
      refine lv_bipush (v := (-2)) hx hb dX9_refusesPasses_22 (by decide) ?_
      obtain ⟨rfl, rfl⟩ := Prod.mk.inj (Option.some.inj hf)
      exact e_i hx hb hr hK hN hO_7 hlocks dX9_refusesPasses_24
    · rw [if_neg c_8] at hf
      refine lv_iconst (v := 0) hx hb dX9_refusesPasses_18 (by decide) ?_
      refine lv_goto (tgt := 24) hx hb dX9_refusesPasses_19 (by decide) ?_
      obtain ⟨rfl, rfl⟩ := Prod.mk.inj (Option.some.inj hf)
      exact e_i hx hb hr hK hN hO_7 hlocks dX9_refusesPasses_24
theorem in_X9_gives_X9 : ∀ w ∈ u_ws RX9 TX9 16, w ∈ wsX9_gives := by decide +kernel
theorem lk_X9_gives_f7 : Cond.fieldLink RX9 7 "PoisonPilesModel" "s" "[I" ∈ wsX9_gives := by decide +kernel
def fX9_gives  (a1 : Int32) (a2 : Int32) (X : XM) : Option XM := zl (xup X 23 7 a1) (fun X_1 => zl (xup X_1 23 8 a2) (fun X_3 => some X_3))
set_option maxHeartbeats 4000000 in
set_option maxRecDepth 100000 in
theorem mX9_gives (l : Launch) (D : va_G) (L : Nat → Nat) (ac : Nat → ClassId) (hL : LL L) (X : XM) (a1 : Int32) (a2 : Int32) (X0 : XM) (hf : fX9_gives a1 a2 X = some X0) : Cv l yX9_gives wsX9_gives ({ frames := 0, cells := 0, slots := 0, locals := 0 }) D L ac X [.ref (L 15), .int a1, .int a2] X0 := by
  refine Met.ofK (cc := cX9_gives) (maxL := 3) (ret := none) (lv := [(0, .ref (L 15)), (1, .int a1), (2, .int a2)]) (by decide +kernel) rfl (Nat.le_of_ble_eq_true rfl) rfl ?_
  intro p e s m below meth c F hO ls hl
  obtain ⟨hx, hb, hr, hts, hown, hlocks, hml, hK, hN⟩ := id F
  have hA : ∀ q, fr L q → fr L q := fun q h => h
  unfold fX9_gives at hf
  refine lv_aload_n hx hb dX9_gives_0 rfl (lv_at hl 0 rfl) ?_
  refine k_get (k := 1) (v := .ref (L 16)) hx hb hts in_X9_gives_X9 hown hK hO (by decide) rfl rfl (by decide) lk_X9_gives_f7 rfl dX9_gives_1 ?_
  refine lv_bipush (v := 7) hx hb dX9_gives_4 (by decide) ?_
  refine lv_iload_n hx hb dX9_gives_6 rfl (lv_at hl 1 rfl) ?_
  refine k_iast hx hb hK hL hA hO (by decide) (by decide) rfl (fun _ => rfl) (show vp_in 7 27 from by unfold vp_in; decide) dX9_gives_7 (fun H_2 locs_2 hO_2 => ?_)
  replace hf := zl_some hf
  obtain ⟨X_1, hX_1, hf⟩ := hf
  have hQ_2 := zo_eq hX_1 hO_2
  clear hO_2 hO
  refine lv_aload_n hx hb dX9_gives_8 rfl (lv_at hl 0 rfl) ?_
  refine k_get (k := 1) (v := .ref (L 16)) hx hb hts in_X9_gives_X9 hown hK hQ_2 (by decide) rfl rfl (by decide) lk_X9_gives_f7 rfl dX9_gives_9 ?_
  refine lv_bipush (v := 8) hx hb dX9_gives_12 (by decide) ?_
  refine lv_iload_n hx hb dX9_gives_14 rfl (lv_at hl 2 rfl) ?_
  refine k_iast hx hb hK hL hA hQ_2 (by decide) (by decide) rfl (fun _ => rfl) (show vp_in 8 27 from by unfold vp_in; decide) dX9_gives_15 (fun H_4 locs_4 hO_4 => ?_)
  replace hf := zl_some hf
  obtain ⟨X_3, hX_3, hf⟩ := hf
  have hQ_4 := zo_eq hX_3 hO_4
  clear hO_4 hQ_2
  obtain rfl := Option.some.inj hf
  exact e_v hx hb hr hK hN hQ_4 hlocks dX9_gives_16
theorem in_X9_passes_X9 : ∀ w ∈ u_ws RX9 TX9 16, w ∈ wsX9_passes := by decide +kernel
theorem lk_X9_passes_f41 : Cond.fieldLink RX9 41 "PoisonPilesModel" "thrown" "I" ∈ wsX9_passes := by decide +kernel
theorem lk_X9_passes_f7 : Cond.fieldLink RX9 7 "PoisonPilesModel" "s" "[I" ∈ wsX9_passes := by decide +kernel
def fX9_passes  (a1 : Int32) (a2 : Int32) (X : XM) : Option (Int32 × XM) := zl (xup X 22 0 0) (fun X_1 => zi (fX9_refusesPasses a1 a2 X_1) (fun r_4 X_3 => if r_4 = 0 then zv (fX9_records X_3) (fun X_7 => zl ((X_7 23 7) + (X_7 23 8)) (fun v_9 => zv (fX9_gives a1 a2 X_7) (fun X_11 => some (v_9, X_11)))) else some ((-2), X_3)))
set_option maxHeartbeats 4000000 in
set_option maxRecDepth 100000 in
theorem mX9_passes (l : Launch) (D : va_G) (L : Nat → Nat) (ac : Nat → ClassId) (hL : LL L) (X : XM) (a1 : Int32) (a2 : Int32) (r0 : Int32) (X0 : XM) (hf : fX9_passes a1 a2 X = some (r0, X0)) : Ci l yX9_passes wsX9_passes ({ frames := 2, cells := 0, slots := 0, locals := 43 }) D L ac X [.ref (L 15), .int a1, .int a2] r0 X0 := by
  refine Met.ofK (cc := cX9_passes) (maxL := 4) (ret := (some .int)) (lv := [(0, .ref (L 15)), (1, .int a1), (2, .int a2)]) (by decide +kernel) rfl (Nat.le_of_ble_eq_true rfl) rfl ?_
  intro p e s m below meth c F hO ls hl
  obtain ⟨hx, hb, hr, hts, hown, hlocks, hml, hK, hN⟩ := id F
  have hA : ∀ q, fr L q → fr L q := fun q h => h
  unfold fX9_passes at hf
  refine lv_aload_n hx hb dX9_passes_0 rfl (lv_at hl 0 rfl) ?_
  refine lv_iconst (v := 0) hx hb dX9_passes_1 (by decide) ?_
  refine k_put (ty := .int) (k := 0) (r := 22) (k' := 0) hx hb tyX9 tyX9_ok nmX9 hts in_X9_passes_X9 hown hK  hL hA hO (by decide) rfl (by omega) (fun Y => rfl) (by simp [xup]) rfl (by decide) lk_X9_passes_f41 rfl (by decide +kernel) rfl rfl (Nat.le_of_ble_eq_true rfl) dX9_passes_2 (fun H_2 locs_2 hO_2 => ?_)
  replace hf := zl_some hf
  obtain ⟨X_1, hX_1, hf⟩ := hf
  have hQ_2 := zo_eq hX_1 hO_2
  clear hO_2 hO
  refine lv_iload_n hx hb dX9_passes_5 rfl (lv_at hl 1 rfl) ?_
  refine lv_iload_n hx hb dX9_passes_6 rfl (lv_at hl 2 rfl) ?_
  replace hf := zi_some hf
  obtain ⟨r_4, X_3, hc_3, hf⟩ := hf
  refine k_ai (va_runS (As := [.int a1, .int a2]) (rest := []) ⟨hx, hb, hml, hown, hts⟩ (mX9_refusesPasses l D L ac hL _ a1 a2 _ _ hc_3) (va_cwS 2 hts gX9_passes_X9_refusesPasses rfl rfl rfl (by decide +kernel) ⟨Nat.le_of_ble_eq_true rfl, Nat.le_of_ble_eq_true rfl⟩) (k_ps hK hN hQ_2 _) rfl rfl hl.1 rfl (lv_room (Nat.le_of_ble_eq_true rfl)) dX9_passes_7 ⟨Nat.le_of_ble_eq_true rfl, Nat.le_of_ble_eq_true rfl⟩) hA hQ_2 (fun H_5 locs_5 hO_5 => ?_)
  clear hQ_2
  refine lv_if_eq (tgt := 16) hx hb dX9_passes_10 (by decide) (fun c_6 => ?_) (fun c_6 => ?_)
  · rw [if_pos c_6] at hf
    subst c_6
    refine lv_aload_n hx hb dX9_passes_16 rfl (lv_at hl 0 rfl) ?_
    replace hf := zv_some hf
    obtain ⟨X_7, hc_7, hf⟩ := hf
    refine k_av (va_runV (As := []) (rest := []) ⟨hx, hb, hml, hown, hts⟩ (mX9_records l D L ac hL _  _ hc_7) (cwV 0 hts gX9_passes_X9_records rfl rfl rfl (by decide +kernel) ⟨Nat.le_of_ble_eq_true rfl, Nat.le_of_ble_eq_true rfl⟩) (k_pv (j := 15) hK hN hO_5 (by decide) rfl rfl _) rfl rfl hl.1 rfl (lv_room (Nat.le_of_ble_eq_true rfl)) dX9_passes_17 ⟨Nat.le_of_ble_eq_true rfl, Nat.le_of_ble_eq_true rfl⟩) hA hO_5 (fun H_8 locs_8 hO_8 => ?_)
    clear hO_5
    refine lv_aload_n hx hb dX9_passes_20 rfl (lv_at hl 0 rfl) ?_
    refine k_get (k := 1) (v := .ref (L 16)) hx hb hts in_X9_passes_X9 hown hK hO_8 (by decide) rfl rfl (by decide) lk_X9_passes_f7 rfl dX9_passes_21 ?_
    refine lv_bipush (v := 7) hx hb dX9_passes_24 (by decide) ?_
    refine k_iald hx hb hK hO_8 (by decide) (fun _ => rfl) (show vp_in 7 27 from by unfold vp_in; decide) dX9_passes_26 ?_
    refine lv_tope (z := X_7 23 7) rfl ?_
    refine lv_aload_n hx hb dX9_passes_27 rfl (lv_at hl 0 rfl) ?_
    refine k_get (k := 1) (v := .ref (L 16)) hx hb hts in_X9_passes_X9 hown hK hO_8 (by decide) rfl rfl (by decide) lk_X9_passes_f7 rfl dX9_passes_28 ?_
    refine lv_bipush (v := 8) hx hb dX9_passes_31 (by decide) ?_
    refine k_iald hx hb hK hO_8 (by decide) (fun _ => rfl) (show vp_in 8 27 from by unfold vp_in; decide) dX9_passes_33 ?_
    refine lv_tope (z := X_7 23 8) rfl ?_
    refine lv_iadd hx hb dX9_passes_34 ?_
    replace hf := zl_some hf
    obtain ⟨v_9, hv_9, hf⟩ := hf
    refine lv_tope hv_9 ?_
    refine lv_istore_n (lv' := [(3, .int v_9), (0, .ref (L 15)), (1, .int a1), (2, .int a2)]) hx hb dX9_passes_35 rfl hl (by decide) rfl (fun ls_10 hl_10 => ?_)
    clear hl
    refine lv_aload_n hx hb dX9_passes_36 rfl (lv_at hl_10 1 rfl) ?_
    refine lv_iload_n hx hb dX9_passes_37 rfl (lv_at hl_10 2 rfl) ?_
    refine lv_iload_n hx hb dX9_passes_38 rfl (lv_at hl_10 3 rfl) ?_
    replace hf := zv_some hf
    obtain ⟨X_11, hc_11, hf⟩ := hf
    refine k_av (va_runV (As := [.int a1, .int a2]) (rest := []) ⟨hx, hb, hml, hown, hts⟩ (mX9_gives l D L ac hL _ a1 a2 _ hc_11) (cwV 2 hts gX9_passes_X9_gives rfl rfl rfl (by decide +kernel) ⟨Nat.le_of_ble_eq_true rfl, Nat.le_of_ble_eq_true rfl⟩) (k_pv (j := 15) hK hN hO_8 (by decide) rfl rfl _) rfl rfl hl_10.1 rfl (lv_room (Nat.le_of_ble_eq_true rfl)) dX9_passes_39 ⟨Nat.le_of_ble_eq_true rfl, Nat.le_of_ble_eq_true rfl⟩) hA hO_8 (fun H_12 locs_12 hO_12 => ?_)
    clear hO_8
    refine lv_iload_n hx hb dX9_passes_42 rfl (lv_at hl_10 0 rfl) ?_
    obtain ⟨rfl, rfl⟩ := Prod.mk.inj (Option.some.inj hf)
    exact e_i hx hb hr hK hN hO_12 hlocks dX9_passes_43
  · rw [if_neg c_6] at hf
    refine lv_bipush (v := (-2)) hx hb dX9_passes_13 (by decide) ?_
    obtain ⟨rfl, rfl⟩ := Prod.mk.inj (Option.some.inj hf)
    exact e_i hx hb hr hK hN hO_5 hlocks dX9_passes_15
theorem in_X9_begin_X9 : ∀ w ∈ u_ws RX9 TX9 16, w ∈ wsX9_begin := by decide +kernel
theorem lk_X9_begin_f41 : Cond.fieldLink RX9 41 "PoisonPilesModel" "thrown" "I" ∈ wsX9_begin := by decide +kernel
theorem lk_X9_begin_f7 : Cond.fieldLink RX9 7 "PoisonPilesModel" "s" "[I" ∈ wsX9_begin := by decide +kernel
def fX9_begin_11   : Nat → Int32 → XM → Option (Int32 × XM)
  | 0, _, _ => none
  | n + 1, x1, X => if (X 23 2) ≤ x1 then zl (xup X 23 9 0) (fun X_2 => zl (xup X_2 23 10 0) (fun X_4 => zl (xup X_4 23 3 0) (fun X_6 => zl (xup X_6 23 4 0) (fun X_8 => zl (xup X_8 23 5 0) (fun X_10 => zl (xup X_10 23 6 0) (fun X_12 => zi (fX9_tokens X_12) (fun r_15 X_14 => some (r_15, X_14)))))))) else zi (fX9_of x1 3 X) (fun r_18 X_17 => zv (fX9_lay x1 0 r_18 X_17) (fun X_20 => fX9_begin_11 n (x1 + 1) X_20))
set_option maxHeartbeats 4000000 in
set_option maxRecDepth 100000 in
theorem wX9_begin_11 {p : Program} {l : Launch} {e : Env} {s : State} {m : MethodId} {args : Array Value} {below : List Frame} {meth : Method} {c : Code} {D : va_G} {L : Nat → Nat} {ac : Nat → ClassId} {r0 : Int32} {X0 : XM} (hL : LL L) (F : Fx p s m args meth c cX9_begin 2 (some .int) wsX9_begin yX9_begin.cls D ac) : ∀ (n : Nat) (x1 : Int32) (X : XM) (H : Heap) (locs : List Loc) (ls : Array Slot), Oh D L ac X (fr L) s.heap H locs → lv_has ls 2 [(0, .ref (L 15)), (1, .int x1)] → fX9_begin_11 n x1 X = some (r0, X0) → W p l e (headSpec wsX9_begin ({ frames := 2, cells := 0, slots := 0, locals := 44 })).room s m args below meth c H locs 0 0 (MQ below (va_Qi (fun (r : Int32) (Y : XM) => r = r0 ∧ Y = X0) (fun (Y : XM) t => St D L ac Y t) (fr L)) args s 0 0 (fr L)) (F0 m 11 ls []) := by
  obtain ⟨hx, hb, hr, hts, hown, hlocks, hml, hK, hN⟩ := id F
  have hA : ∀ q, fr L q → fr L q := fun q h => h
  intro n
  induction n with
  | zero => intro x1 X H locs ls hO hl hf; simp [fX9_begin_11] at hf
  | succ n ih =>
    intro x1 X H locs ls hO hl hf
    rw [fX9_begin_11] at hf
    refine lv_iload_n hx hb dX9_begin_11 rfl (lv_at hl 1 rfl) ?_
    refine lv_aload_n hx hb dX9_begin_12 rfl (lv_at hl 0 rfl) ?_
    refine k_get (k := 1) (v := .ref (L 16)) hx hb hts in_X9_begin_X9 hown hK hO (by decide) rfl rfl (by decide) lk_X9_begin_f7 rfl dX9_begin_13 ?_
    refine lv_iconst (v := 2) hx hb dX9_begin_16 (by decide) ?_
    refine k_iald hx hb hK hO (by decide) (fun _ => rfl) (show vp_in 2 27 from by unfold vp_in; decide) dX9_begin_17 ?_
    refine lv_tope (z := X 23 2) rfl ?_
    refine lv_icmp_ge (tgt := 39) hx hb dX9_begin_18 (by decide) (fun c_1 => ?_) (fun c_1 => ?_)
    · rw [if_pos c_1] at hf
      refine lv_aload_n hx hb dX9_begin_39 rfl (lv_at hl 0 rfl) ?_
      refine k_get (k := 1) (v := .ref (L 16)) hx hb hts in_X9_begin_X9 hown hK hO (by decide) rfl rfl (by decide) lk_X9_begin_f7 rfl dX9_begin_40 ?_
      refine lv_bipush (v := 9) hx hb dX9_begin_43 (by decide) ?_
      refine lv_iconst (v := 0) hx hb dX9_begin_45 (by decide) ?_
      refine k_iast hx hb hK hL hA hO (by decide) (by decide) rfl (fun _ => rfl) (show vp_in 9 27 from by unfold vp_in; decide) dX9_begin_46 (fun H_3 locs_3 hO_3 => ?_)
      replace hf := zl_some hf
      obtain ⟨X_2, hX_2, hf⟩ := hf
      have hQ_3 := zo_eq hX_2 hO_3
      clear hO_3 hO
      refine lv_aload_n hx hb dX9_begin_47 rfl (lv_at hl 0 rfl) ?_
      refine k_get (k := 1) (v := .ref (L 16)) hx hb hts in_X9_begin_X9 hown hK hQ_3 (by decide) rfl rfl (by decide) lk_X9_begin_f7 rfl dX9_begin_48 ?_
      refine lv_bipush (v := 10) hx hb dX9_begin_51 (by decide) ?_
      refine lv_iconst (v := 0) hx hb dX9_begin_53 (by decide) ?_
      refine k_iast hx hb hK hL hA hQ_3 (by decide) (by decide) rfl (fun _ => rfl) (show vp_in 10 27 from by unfold vp_in; decide) dX9_begin_54 (fun H_5 locs_5 hO_5 => ?_)
      replace hf := zl_some hf
      obtain ⟨X_4, hX_4, hf⟩ := hf
      have hQ_5 := zo_eq hX_4 hO_5
      clear hO_5 hQ_3
      refine lv_aload_n hx hb dX9_begin_55 rfl (lv_at hl 0 rfl) ?_
      refine k_get (k := 1) (v := .ref (L 16)) hx hb hts in_X9_begin_X9 hown hK hQ_5 (by decide) rfl rfl (by decide) lk_X9_begin_f7 rfl dX9_begin_56 ?_
      refine lv_iconst (v := 3) hx hb dX9_begin_59 (by decide) ?_
      refine lv_iconst (v := 0) hx hb dX9_begin_60 (by decide) ?_
      refine k_iast hx hb hK hL hA hQ_5 (by decide) (by decide) rfl (fun _ => rfl) (show vp_in 3 27 from by unfold vp_in; decide) dX9_begin_61 (fun H_7 locs_7 hO_7 => ?_)
      replace hf := zl_some hf
      obtain ⟨X_6, hX_6, hf⟩ := hf
      have hQ_7 := zo_eq hX_6 hO_7
      clear hO_7 hQ_5
      refine lv_aload_n hx hb dX9_begin_62 rfl (lv_at hl 0 rfl) ?_
      refine k_get (k := 1) (v := .ref (L 16)) hx hb hts in_X9_begin_X9 hown hK hQ_7 (by decide) rfl rfl (by decide) lk_X9_begin_f7 rfl dX9_begin_63 ?_
      refine lv_iconst (v := 4) hx hb dX9_begin_66 (by decide) ?_
      refine lv_iconst (v := 0) hx hb dX9_begin_67 (by decide) ?_
      refine k_iast hx hb hK hL hA hQ_7 (by decide) (by decide) rfl (fun _ => rfl) (show vp_in 4 27 from by unfold vp_in; decide) dX9_begin_68 (fun H_9 locs_9 hO_9 => ?_)
      replace hf := zl_some hf
      obtain ⟨X_8, hX_8, hf⟩ := hf
      have hQ_9 := zo_eq hX_8 hO_9
      clear hO_9 hQ_7
      refine lv_aload_n hx hb dX9_begin_69 rfl (lv_at hl 0 rfl) ?_
      refine k_get (k := 1) (v := .ref (L 16)) hx hb hts in_X9_begin_X9 hown hK hQ_9 (by decide) rfl rfl (by decide) lk_X9_begin_f7 rfl dX9_begin_70 ?_
      refine lv_iconst (v := 5) hx hb dX9_begin_73 (by decide) ?_
      refine lv_iconst (v := 0) hx hb dX9_begin_74 (by decide) ?_
      refine k_iast hx hb hK hL hA hQ_9 (by decide) (by decide) rfl (fun _ => rfl) (show vp_in 5 27 from by unfold vp_in; decide) dX9_begin_75 (fun H_11 locs_11 hO_11 => ?_)
      replace hf := zl_some hf
      obtain ⟨X_10, hX_10, hf⟩ := hf
      have hQ_11 := zo_eq hX_10 hO_11
      clear hO_11 hQ_9
      refine lv_aload_n hx hb dX9_begin_76 rfl (lv_at hl 0 rfl) ?_
      refine k_get (k := 1) (v := .ref (L 16)) hx hb hts in_X9_begin_X9 hown hK hQ_11 (by decide) rfl rfl (by decide) lk_X9_begin_f7 rfl dX9_begin_77 ?_
      refine lv_bipush (v := 6) hx hb dX9_begin_80 (by decide) ?_
      refine lv_iconst (v := 0) hx hb dX9_begin_82 (by decide) ?_
      refine k_iast hx hb hK hL hA hQ_11 (by decide) (by decide) rfl (fun _ => rfl) (show vp_in 6 27 from by unfold vp_in; decide) dX9_begin_83 (fun H_13 locs_13 hO_13 => ?_)
      replace hf := zl_some hf
      obtain ⟨X_12, hX_12, hf⟩ := hf
      have hQ_13 := zo_eq hX_12 hO_13
      clear hO_13 hQ_11
      refine lv_aload_n hx hb dX9_begin_84 rfl (lv_at hl 0 rfl) ?_
      replace hf := zi_some hf
      obtain ⟨r_15, X_14, hc_14, hf⟩ := hf
      refine k_ai (va_runV (As := []) (rest := []) ⟨hx, hb, hml, hown, hts⟩ (mX9_tokens l D L ac hL _  _ _ hc_14) (cwV 0 hts gX9_begin_X9_tokens rfl rfl rfl (by decide +kernel) ⟨Nat.le_of_ble_eq_true rfl, Nat.le_of_ble_eq_true rfl⟩) (k_pv (j := 15) hK hN hQ_13 (by decide) rfl rfl _) rfl rfl hl.1 rfl (lv_room (Nat.le_of_ble_eq_true rfl)) dX9_begin_85 ⟨Nat.le_of_ble_eq_true rfl, Nat.le_of_ble_eq_true rfl⟩) hA hQ_13 (fun H_16 locs_16 hO_16 => ?_)
      clear hQ_13
      obtain ⟨rfl, rfl⟩ := Prod.mk.inj (Option.some.inj hf)
      exact e_i hx hb hr hK hN hO_16 hlocks dX9_begin_88
    · rw [if_neg c_1] at hf
      refine lv_aload_n hx hb dX9_begin_21 rfl (lv_at hl 0 rfl) ?_
      refine lv_iload_n hx hb dX9_begin_22 rfl (lv_at hl 1 rfl) ?_
      refine lv_iconst (v := 0) hx hb dX9_begin_23 (by decide) ?_
      refine lv_aload_n hx hb dX9_begin_24 rfl (lv_at hl 0 rfl) ?_
      refine lv_iload_n hx hb dX9_begin_25 rfl (lv_at hl 1 rfl) ?_
      refine lv_iconst (v := 3) hx hb dX9_begin_26 (by decide) ?_
      replace hf := zi_some hf
      obtain ⟨r_18, X_17, hc_17, hf⟩ := hf
      refine k_ai (va_runV (As := [.int x1, .int 3]) (rest := [.int 0, .int x1, .ref (L 15)]) ⟨hx, hb, hml, hown, hts⟩ (mX9_of l D L ac hL _ x1 3 _ _ hc_17) (cwV 2 hts gX9_begin_X9_of rfl rfl rfl (by decide +kernel) ⟨Nat.le_of_ble_eq_true rfl, Nat.le_of_ble_eq_true rfl⟩) (k_pv (j := 15) hK hN hO (by decide) rfl rfl _) rfl rfl hl.1 rfl (lv_room (Nat.le_of_ble_eq_true rfl)) dX9_begin_27 ⟨Nat.le_of_ble_eq_true rfl, Nat.le_of_ble_eq_true rfl⟩) hA hO (fun H_19 locs_19 hO_19 => ?_)
      clear hO
      replace hf := zv_some hf
      obtain ⟨X_20, hc_20, hf⟩ := hf
      refine k_av (va_runV (As := [.int x1, .int 0, .int r_18]) (rest := []) ⟨hx, hb, hml, hown, hts⟩ (mX9_lay l D L ac hL _ x1 0 r_18 _ hc_20) (cwV 3 hts gX9_begin_X9_lay rfl rfl rfl (by decide +kernel) ⟨Nat.le_of_ble_eq_true rfl, Nat.le_of_ble_eq_true rfl⟩) (k_pv (j := 15) hK hN hO_19 (by decide) rfl rfl _) rfl rfl hl.1 rfl (lv_room (Nat.le_of_ble_eq_true rfl)) dX9_begin_30 ⟨Nat.le_of_ble_eq_true rfl, Nat.le_of_ble_eq_true rfl⟩) hA hO_19 (fun H_21 locs_21 hO_21 => ?_)
      clear hO_19
      refine lv_iinc (v := x1 + 1) (lv' := [(1, .int (x1 + 1)), (0, .ref (L 15))]) hx hb dX9_begin_33 hl (k := 1) rfl rfl (by decide) rfl (fun ls_22 hl_22 => ?_)
      clear hl
      refine lv_goto (tgt := 11) hx hb dX9_begin_36 (by decide) ?_
      exact ih _ _  _ _ _ hO_21 (lv_sub hl_22 [1, 0] rfl) hf
def fX9_begin   (X : XM) : Option (Int32 × XM) := zl (xup X 22 0 0) (fun X_23 => zv (fX9_records X_23) (fun X_25 => fX9_begin_11 fuel 0 X_25))
set_option maxHeartbeats 4000000 in
set_option maxRecDepth 100000 in
theorem mX9_begin (l : Launch) (D : va_G) (L : Nat → Nat) (ac : Nat → ClassId) (hL : LL L) (X : XM)  (r0 : Int32) (X0 : XM) (hf : fX9_begin  X = some (r0, X0)) : Ci l yX9_begin wsX9_begin ({ frames := 2, cells := 0, slots := 0, locals := 44 }) D L ac X [.ref (L 15)] r0 X0 := by
  refine Met.ofK (cc := cX9_begin) (maxL := 2) (ret := (some .int)) (lv := [(0, .ref (L 15))]) (by decide +kernel) rfl (Nat.le_of_ble_eq_true rfl) rfl ?_
  intro p e s m below meth c F hO ls hl
  obtain ⟨hx, hb, hr, hts, hown, hlocks, hml, hK, hN⟩ := id F
  have hA : ∀ q, fr L q → fr L q := fun q h => h
  unfold fX9_begin at hf
  refine lv_aload_n hx hb dX9_begin_0 rfl (lv_at hl 0 rfl) ?_
  refine lv_iconst (v := 0) hx hb dX9_begin_1 (by decide) ?_
  refine k_put (ty := .int) (k := 0) (r := 22) (k' := 0) hx hb tyX9 tyX9_ok nmX9 hts in_X9_begin_X9 hown hK  hL hA hO (by decide) rfl (by omega) (fun Y => rfl) (by simp [xup]) rfl (by decide) lk_X9_begin_f41 rfl (by decide +kernel) rfl rfl (Nat.le_of_ble_eq_true rfl) dX9_begin_2 (fun H_24 locs_24 hO_24 => ?_)
  replace hf := zl_some hf
  obtain ⟨X_23, hX_23, hf⟩ := hf
  have hQ_24 := zo_eq hX_23 hO_24
  clear hO_24 hO
  refine lv_aload_n hx hb dX9_begin_5 rfl (lv_at hl 0 rfl) ?_
  replace hf := zv_some hf
  obtain ⟨X_25, hc_25, hf⟩ := hf
  refine k_av (va_runV (As := []) (rest := []) ⟨hx, hb, hml, hown, hts⟩ (mX9_records l D L ac hL _  _ hc_25) (cwV 0 hts gX9_begin_X9_records rfl rfl rfl (by decide +kernel) ⟨Nat.le_of_ble_eq_true rfl, Nat.le_of_ble_eq_true rfl⟩) (k_pv (j := 15) hK hN hQ_24 (by decide) rfl rfl _) rfl rfl hl.1 rfl (lv_room (Nat.le_of_ble_eq_true rfl)) dX9_begin_6 ⟨Nat.le_of_ble_eq_true rfl, Nat.le_of_ble_eq_true rfl⟩) hA hQ_24 (fun H_26 locs_26 hO_26 => ?_)
  clear hQ_24
  refine lv_iconst (v := 0) hx hb dX9_begin_9 (by decide) ?_
  refine lv_istore_n (lv' := [(1, .int 0), (0, .ref (L 15))]) hx hb dX9_begin_10 rfl hl (by decide) rfl (fun ls_27 hl_27 => ?_)
  clear hl
  exact wX9_begin_11 hL F  fuel _ _  _ _ _ hO_26 (lv_sub hl_27 [1, 0] rfl) hf
theorem in_X9_refusesTake_X9 : ∀ w ∈ u_ws RX9 TX9 16, w ∈ wsX9_refusesTake := by decide +kernel
theorem lk_X9_refusesTake_f7 : Cond.fieldLink RX9 7 "PoisonPilesModel" "s" "[I" ∈ wsX9_refusesTake := by decide +kernel
def fX9_refusesTake  (a1 : Int32) (a2 : Int32) (X : XM) : Option (Int32 × XM) := zi (fX9_isPile a1 X) (fun r_2 X_1 => if r_2 = 0 then some ((-1), X_1) else if (X_1 23 5) = 0 then zi (fX9_isAllowed a2 X_1) (fun r_9 X_8 => if r_9 = 0 then some ((-5), X_8) else zi (fX9_of a1 0 X_8) (fun r_15 X_14 => if r_15 < a2 then some ((-5), X_14) else some (0, X_14))) else some ((-5), X_1))
set_option maxHeartbeats 4000000 in
set_option maxRecDepth 100000 in
theorem mX9_refusesTake (l : Launch) (D : va_G) (L : Nat → Nat) (ac : Nat → ClassId) (hL : LL L) (X : XM) (a1 : Int32) (a2 : Int32) (r0 : Int32) (X0 : XM) (hf : fX9_refusesTake a1 a2 X = some (r0, X0)) : Ci l yX9_refusesTake wsX9_refusesTake ({ frames := 2, cells := 0, slots := 0, locals := 43 }) D L ac X [.ref (L 15), .int a1, .int a2] r0 X0 := by
  refine Met.ofK (cc := cX9_refusesTake) (maxL := 4) (ret := (some .int)) (lv := [(0, .ref (L 15)), (1, .int a1), (2, .int a2)]) (by decide +kernel) rfl (Nat.le_of_ble_eq_true rfl) rfl ?_
  intro p e s m below meth c F hO ls hl
  obtain ⟨hx, hb, hr, hts, hown, hlocks, hml, hK, hN⟩ := id F
  have hA : ∀ q, fr L q → fr L q := fun q h => h
  unfold fX9_refusesTake at hf
  refine lv_aload_n hx hb dX9_refusesTake_0 rfl (lv_at hl 0 rfl) ?_
  refine lv_iload_n hx hb dX9_refusesTake_1 rfl (lv_at hl 1 rfl) ?_
  replace hf := zi_some hf
  obtain ⟨r_2, X_1, hc_1, hf⟩ := hf
  refine k_ai (va_runV (As := [.int a1]) (rest := []) ⟨hx, hb, hml, hown, hts⟩ (mX9_isPile l D L ac hL _ a1 _ _ hc_1) (cwV 1 hts gX9_refusesTake_X9_isPile rfl rfl rfl (by decide +kernel) ⟨Nat.le_of_ble_eq_true rfl, Nat.le_of_ble_eq_true rfl⟩) (k_pv (j := 15) hK hN hO (by decide) rfl rfl _) rfl rfl hl.1 rfl (lv_room (Nat.le_of_ble_eq_true rfl)) dX9_refusesTake_2 ⟨Nat.le_of_ble_eq_true rfl, Nat.le_of_ble_eq_true rfl⟩) hA hO (fun H_3 locs_3 hO_3 => ?_)
  clear hO
  refine lv_if_ne (tgt := 10) hx hb dX9_refusesTake_5 (by decide) (fun c_4 => ?_) (fun c_4 => ?_)
  · rw [if_neg c_4] at hf
    refine lv_aload_n hx hb dX9_refusesTake_10 rfl (lv_at hl 0 rfl) ?_
    refine k_get (k := 1) (v := .ref (L 16)) hx hb hts in_X9_refusesTake_X9 hown hK hO_3 (by decide) rfl rfl (by decide) lk_X9_refusesTake_f7 rfl dX9_refusesTake_11 ?_
    refine lv_iconst (v := 5) hx hb dX9_refusesTake_14 (by decide) ?_
    refine k_iald hx hb hK hO_3 (by decide) (fun _ => rfl) (show vp_in 5 27 from by unfold vp_in; decide) dX9_refusesTake_15 ?_
    refine lv_tope (z := X_1 23 5) rfl ?_
    refine lv_if_ne (tgt := 41) hx hb dX9_refusesTake_16 (by decide) (fun c_5 => ?_) (fun c_5 => ?_)
    · rw [if_neg c_5] at hf
      refine lv_iconst (v := 0) hx hb dX9_refusesTake_41 (by decide) ?_
      refine lv_istore_n (lv' := [(3, .int 0), (0, .ref (L 15)), (1, .int a1), (2, .int a2)]) hx hb dX9_refusesTake_42 rfl hl (by decide) rfl (fun ls_6 hl_6 => ?_)
      clear hl
      refine lv_iload_n hx hb dX9_refusesTake_43 rfl (lv_at hl_6 0 rfl) ?_
      refine lv_if_eq (tgt := 51) hx hb dX9_refusesTake_44 (by decide) (fun _ => ?_) (fun c_7 => absurd (by decide) c_7)
      refine lv_bipush (v := (-5)) hx hb dX9_refusesTake_51 (by decide) ?_
      obtain ⟨rfl, rfl⟩ := Prod.mk.inj (Option.some.inj hf)
      exact e_i hx hb hr hK hN hO_3 hlocks dX9_refusesTake_53
    · rw [if_pos c_5] at hf
      refine lv_aload_n hx hb dX9_refusesTake_19 rfl (lv_at hl 0 rfl) ?_
      refine lv_iload_n hx hb dX9_refusesTake_20 rfl (lv_at hl 2 rfl) ?_
      replace hf := zi_some hf
      obtain ⟨r_9, X_8, hc_8, hf⟩ := hf
      refine k_ai (va_runV (As := [.int a2]) (rest := []) ⟨hx, hb, hml, hown, hts⟩ (mX9_isAllowed l D L ac hL _ a2 _ _ hc_8) (cwV 1 hts gX9_refusesTake_X9_isAllowed rfl rfl rfl (by decide +kernel) ⟨Nat.le_of_ble_eq_true rfl, Nat.le_of_ble_eq_true rfl⟩) (k_pv (j := 15) hK hN hO_3 (by decide) rfl rfl _) rfl rfl hl.1 rfl (lv_room (Nat.le_of_ble_eq_true rfl)) dX9_refusesTake_21 ⟨Nat.le_of_ble_eq_true rfl, Nat.le_of_ble_eq_true rfl⟩) hA hO_3 (fun H_10 locs_10 hO_10 => ?_)
      clear hO_3
      refine lv_if_eq (tgt := 41) hx hb dX9_refusesTake_24 (by decide) (fun c_11 => ?_) (fun c_11 => ?_)
      · rw [if_pos c_11] at hf
        subst c_11
        refine lv_iconst (v := 0) hx hb dX9_refusesTake_41 (by decide) ?_
        refine lv_istore_n (lv' := [(3, .int 0), (0, .ref (L 15)), (1, .int a1), (2, .int a2)]) hx hb dX9_refusesTake_42 rfl hl (by decide) rfl (fun ls_12 hl_12 => ?_)
        clear hl
        refine lv_iload_n hx hb dX9_refusesTake_43 rfl (lv_at hl_12 0 rfl) ?_
        refine lv_if_eq (tgt := 51) hx hb dX9_refusesTake_44 (by decide) (fun _ => ?_) (fun c_13 => absurd (by decide) c_13)
        refine lv_bipush (v := (-5)) hx hb dX9_refusesTake_51 (by decide) ?_
        obtain ⟨rfl, rfl⟩ := Prod.mk.inj (Option.some.inj hf)
        exact e_i hx hb hr hK hN hO_10 hlocks dX9_refusesTake_53
      · rw [if_neg c_11] at hf
        refine lv_aload_n hx hb dX9_refusesTake_27 rfl (lv_at hl 0 rfl) ?_
        refine lv_iload_n hx hb dX9_refusesTake_28 rfl (lv_at hl 1 rfl) ?_
        refine lv_iconst (v := 0) hx hb dX9_refusesTake_29 (by decide) ?_
        replace hf := zi_some hf
        obtain ⟨r_15, X_14, hc_14, hf⟩ := hf
        refine k_ai (va_runV (As := [.int a1, .int 0]) (rest := []) ⟨hx, hb, hml, hown, hts⟩ (mX9_of l D L ac hL _ a1 0 _ _ hc_14) (cwV 2 hts gX9_refusesTake_X9_of rfl rfl rfl (by decide +kernel) ⟨Nat.le_of_ble_eq_true rfl, Nat.le_of_ble_eq_true rfl⟩) (k_pv (j := 15) hK hN hO_10 (by decide) rfl rfl _) rfl rfl hl.1 rfl (lv_room (Nat.le_of_ble_eq_true rfl)) dX9_refusesTake_30 ⟨Nat.le_of_ble_eq_true rfl, Nat.le_of_ble_eq_true rfl⟩) hA hO_10 (fun H_16 locs_16 hO_16 => ?_)
        clear hO_10
        refine lv_iload_n hx hb dX9_refusesTake_33 rfl (lv_at hl 2 rfl) ?_
        refine lv_icmp_lt (tgt := 41) hx hb dX9_refusesTake_34 (by decide) (fun c_17 => ?_) (fun c_17 => ?_)
        · rw [if_pos c_17] at hf
          refine lv_iconst (v := 0) hx hb dX9_refusesTake_41 (by decide) ?_
          refine lv_istore_n (lv' := [(3, .int 0), (0, .ref (L 15)), (1, .int a1), (2, .int a2)]) hx hb dX9_refusesTake_42 rfl hl (by decide) rfl (fun ls_18 hl_18 => ?_)
          clear hl
          refine lv_iload_n hx hb dX9_refusesTake_43 rfl (lv_at hl_18 0 rfl) ?_
          refine lv_if_eq (tgt := 51) hx hb dX9_refusesTake_44 (by decide) (fun _ => ?_) (fun c_19 => absurd (by decide) c_19)
          refine lv_bipush (v := (-5)) hx hb dX9_refusesTake_51 (by decide) ?_
          obtain ⟨rfl, rfl⟩ := Prod.mk.inj (Option.some.inj hf)
          exact e_i hx hb hr hK hN hO_16 hlocks dX9_refusesTake_53
        · rw [if_neg c_17] at hf
          refine lv_iconst (v := 1) hx hb dX9_refusesTake_37 (by decide) ?_
          refine lv_goto (tgt := 42) hx hb dX9_refusesTake_38 (by decide) ?_
          refine lv_istore_n (lv' := [(3, .int 1), (0, .ref (L 15)), (1, .int a1), (2, .int a2)]) hx hb dX9_refusesTake_42 rfl hl (by decide) rfl (fun ls_20 hl_20 => ?_)
          clear hl
          refine lv_iload_n hx hb dX9_refusesTake_43 rfl (lv_at hl_20 0 rfl) ?_
          refine lv_if_eq (tgt := 51) hx hb dX9_refusesTake_44 (by decide) (fun c_21 => absurd c_21 (by decide)) (fun _ => ?_)
          refine lv_iconst (v := 0) hx hb dX9_refusesTake_47 (by decide) ?_
          refine lv_goto (tgt := 53) hx hb dX9_refusesTake_48 (by decide) ?_
          obtain ⟨rfl, rfl⟩ := Prod.mk.inj (Option.some.inj hf)
          exact e_i hx hb hr hK hN hO_16 hlocks dX9_refusesTake_53
  · rw [if_pos c_4] at hf
    subst c_4
    refine lv_iconst (v := (-1)) hx hb dX9_refusesTake_8 (by decide) ?_
    obtain ⟨rfl, rfl⟩ := Prod.mk.inj (Option.some.inj hf)
    exact e_i hx hb hr hK hN hO_3 hlocks dX9_refusesTake_9
theorem in_X9_take_X9 : ∀ w ∈ u_ws RX9 TX9 16, w ∈ wsX9_take := by decide +kernel
theorem lk_X9_take_f41 : Cond.fieldLink RX9 41 "PoisonPilesModel" "thrown" "I" ∈ wsX9_take := by decide +kernel
def fX9_take  (a1 : Int32) (a2 : Int32) (X : XM) : Option (Int32 × XM) := zl (xup X 22 0 0) (fun X_1 => zi (fX9_refusesTake a1 a2 X_1) (fun r_4 X_3 => if r_4 = 0 then zv (fX9_records X_3) (fun X_8 => zv (fX9_does (((5 * a1) + a2) - 1) X_8) (fun X_10 => zi (fX9_of a1 1 X_10) (fun r_13 X_12 => some (a2 * r_13, X_12)))) else some (r_4, X_3)))
set_option maxHeartbeats 4000000 in
set_option maxRecDepth 100000 in
theorem mX9_take (l : Launch) (D : va_G) (L : Nat → Nat) (ac : Nat → ClassId) (hL : LL L) (X : XM) (a1 : Int32) (a2 : Int32) (r0 : Int32) (X0 : XM) (hf : fX9_take a1 a2 X = some (r0, X0)) : Ci l yX9_take wsX9_take ({ frames := 4, cells := 0, slots := 0, locals := 84 }) D L ac X [.ref (L 15), .int a1, .int a2] r0 X0 := by
  refine Met.ofK (cc := cX9_take) (maxL := 4) (ret := (some .int)) (lv := [(0, .ref (L 15)), (1, .int a1), (2, .int a2)]) (by decide +kernel) rfl (Nat.le_of_ble_eq_true rfl) rfl ?_
  intro p e s m below meth c F hO ls hl
  obtain ⟨hx, hb, hr, hts, hown, hlocks, hml, hK, hN⟩ := id F
  have hA : ∀ q, fr L q → fr L q := fun q h => h
  unfold fX9_take at hf
  refine lv_aload_n hx hb dX9_take_0 rfl (lv_at hl 0 rfl) ?_
  refine lv_iconst (v := 0) hx hb dX9_take_1 (by decide) ?_
  refine k_put (ty := .int) (k := 0) (r := 22) (k' := 0) hx hb tyX9 tyX9_ok nmX9 hts in_X9_take_X9 hown hK  hL hA hO (by decide) rfl (by omega) (fun Y => rfl) (by simp [xup]) rfl (by decide) lk_X9_take_f41 rfl (by decide +kernel) rfl rfl (Nat.le_of_ble_eq_true rfl) dX9_take_2 (fun H_2 locs_2 hO_2 => ?_)
  replace hf := zl_some hf
  obtain ⟨X_1, hX_1, hf⟩ := hf
  have hQ_2 := zo_eq hX_1 hO_2
  clear hO_2 hO
  refine lv_aload_n hx hb dX9_take_5 rfl (lv_at hl 0 rfl) ?_
  refine lv_iload_n hx hb dX9_take_6 rfl (lv_at hl 1 rfl) ?_
  refine lv_iload_n hx hb dX9_take_7 rfl (lv_at hl 2 rfl) ?_
  replace hf := zi_some hf
  obtain ⟨r_4, X_3, hc_3, hf⟩ := hf
  refine k_ai (va_runV (As := [.int a1, .int a2]) (rest := []) ⟨hx, hb, hml, hown, hts⟩ (mX9_refusesTake l D L ac hL _ a1 a2 _ _ hc_3) (cwV 2 hts gX9_take_X9_refusesTake rfl rfl rfl (by decide +kernel) ⟨Nat.le_of_ble_eq_true rfl, Nat.le_of_ble_eq_true rfl⟩) (k_pv (j := 15) hK hN hQ_2 (by decide) rfl rfl _) rfl rfl hl.1 rfl (lv_room (Nat.le_of_ble_eq_true rfl)) dX9_take_8 ⟨Nat.le_of_ble_eq_true rfl, Nat.le_of_ble_eq_true rfl⟩) hA hQ_2 (fun H_5 locs_5 hO_5 => ?_)
  clear hQ_2
  refine lv_istore_n (lv' := [(3, .int r_4), (0, .ref (L 15)), (1, .int a1), (2, .int a2)]) hx hb dX9_take_11 rfl hl (by decide) rfl (fun ls_6 hl_6 => ?_)
  clear hl
  refine lv_iload_n hx hb dX9_take_12 rfl (lv_at hl_6 0 rfl) ?_
  refine lv_if_eq (tgt := 18) hx hb dX9_take_13 (by decide) (fun c_7 => ?_) (fun c_7 => ?_)
  · rw [if_pos c_7] at hf
    subst c_7
    refine lv_aload_n hx hb dX9_take_18 rfl (lv_at hl_6 1 rfl) ?_
    replace hf := zv_some hf
    obtain ⟨X_8, hc_8, hf⟩ := hf
    refine k_av (va_runV (As := []) (rest := []) ⟨hx, hb, hml, hown, hts⟩ (mX9_records l D L ac hL _  _ hc_8) (cwV 0 hts gX9_take_X9_records rfl rfl rfl (by decide +kernel) ⟨Nat.le_of_ble_eq_true rfl, Nat.le_of_ble_eq_true rfl⟩) (k_pv (j := 15) hK hN hO_5 (by decide) rfl rfl _) rfl rfl hl_6.1 rfl (lv_room (Nat.le_of_ble_eq_true rfl)) dX9_take_19 ⟨Nat.le_of_ble_eq_true rfl, Nat.le_of_ble_eq_true rfl⟩) hA hO_5 (fun H_9 locs_9 hO_9 => ?_)
    clear hO_5
    refine lv_aload_n hx hb dX9_take_22 rfl (lv_at hl_6 1 rfl) ?_
    refine lv_iconst (v := 5) hx hb dX9_take_23 (by decide) ?_
    refine lv_iload_n hx hb dX9_take_24 rfl (lv_at hl_6 2 rfl) ?_
    refine lv_imul hx hb dX9_take_25 ?_
    refine lv_iload_n hx hb dX9_take_26 rfl (lv_at hl_6 3 rfl) ?_
    refine lv_iadd hx hb dX9_take_27 ?_
    refine lv_iconst (v := 1) hx hb dX9_take_28 (by decide) ?_
    refine lv_isub hx hb dX9_take_29 ?_
    replace hf := zv_some hf
    obtain ⟨X_10, hc_10, hf⟩ := hf
    refine k_av (va_runV (As := [.int (((5 * a1) + a2) - 1)]) (rest := []) ⟨hx, hb, hml, hown, hts⟩ (mX9_does l D L ac hL _ (((5 * a1) + a2) - 1) _ hc_10) (cwV 1 hts gX9_take_X9_does rfl rfl rfl (by decide +kernel) ⟨Nat.le_of_ble_eq_true rfl, Nat.le_of_ble_eq_true rfl⟩) (k_pv (j := 15) hK hN hO_9 (by decide) rfl rfl _) rfl rfl hl_6.1 rfl (lv_room (Nat.le_of_ble_eq_true rfl)) dX9_take_30 ⟨Nat.le_of_ble_eq_true rfl, Nat.le_of_ble_eq_true rfl⟩) hA hO_9 (fun H_11 locs_11 hO_11 => ?_)
    clear hO_9
    refine lv_iload_n hx hb dX9_take_33 rfl (lv_at hl_6 3 rfl) ?_
    refine lv_aload_n hx hb dX9_take_34 rfl (lv_at hl_6 1 rfl) ?_
    refine lv_iload_n hx hb dX9_take_35 rfl (lv_at hl_6 2 rfl) ?_
    refine lv_iconst (v := 1) hx hb dX9_take_36 (by decide) ?_
    replace hf := zi_some hf
    obtain ⟨r_13, X_12, hc_12, hf⟩ := hf
    refine k_ai (va_runV (As := [.int a1, .int 1]) (rest := [.int a2]) ⟨hx, hb, hml, hown, hts⟩ (mX9_of l D L ac hL _ a1 1 _ _ hc_12) (cwV 2 hts gX9_take_X9_of rfl rfl rfl (by decide +kernel) ⟨Nat.le_of_ble_eq_true rfl, Nat.le_of_ble_eq_true rfl⟩) (k_pv (j := 15) hK hN hO_11 (by decide) rfl rfl _) rfl rfl hl_6.1 rfl (lv_room (Nat.le_of_ble_eq_true rfl)) dX9_take_37 ⟨Nat.le_of_ble_eq_true rfl, Nat.le_of_ble_eq_true rfl⟩) hA hO_11 (fun H_14 locs_14 hO_14 => ?_)
    clear hO_11
    refine lv_imul hx hb dX9_take_40 ?_
    obtain ⟨rfl, rfl⟩ := Prod.mk.inj (Option.some.inj hf)
    exact e_i hx hb hr hK hN hO_14 hlocks dX9_take_41
  · rw [if_neg c_7] at hf
    refine lv_iload_n hx hb dX9_take_16 rfl (lv_at hl_6 0 rfl) ?_
    obtain ⟨rfl, rfl⟩ := Prod.mk.inj (Option.some.inj hf)
    exact e_i hx hb hr hK hN hO_5 hlocks dX9_take_17
def fX9_canPass   (X : XM) : Option (Int32 × XM) := zi (fX9_movesNow X) (fun r_2 X_1 => if ((o_shr r_2 20) &&& 1) = 1 then some (1, X_1) else some (0, X_1))
set_option maxHeartbeats 4000000 in
set_option maxRecDepth 100000 in
theorem mX9_canPass (l : Launch) (D : va_G) (L : Nat → Nat) (ac : Nat → ClassId) (hL : LL L) (X : XM)  (r0 : Int32) (X0 : XM) (hf : fX9_canPass  X = some (r0, X0)) : Ci l yX9_canPass wsX9_canPass ({ frames := 4, cells := 0, slots := 0, locals := 90 }) D L ac X [.ref (L 15)] r0 X0 := by
  refine Met.ofK (cc := cX9_canPass) (maxL := 1) (ret := (some .boolean)) (lv := [(0, .ref (L 15))]) (by decide +kernel) rfl (Nat.le_of_ble_eq_true rfl) rfl ?_
  intro p e s m below meth c F hO ls hl
  obtain ⟨hx, hb, hr, hts, hown, hlocks, hml, hK, hN⟩ := id F
  have hA : ∀ q, fr L q → fr L q := fun q h => h
  unfold fX9_canPass at hf
  refine lv_aload_n hx hb dX9_canPass_0 rfl (lv_at hl 0 rfl) ?_
  replace hf := zi_some hf
  obtain ⟨r_2, X_1, hc_1, hf⟩ := hf
  refine k_ai (va_runV (As := []) (rest := []) ⟨hx, hb, hml, hown, hts⟩ (mX9_movesNow l D L ac hL _  _ _ hc_1) (cwV 0 hts gX9_canPass_X9_movesNow rfl rfl rfl (by decide +kernel) ⟨Nat.le_of_ble_eq_true rfl, Nat.le_of_ble_eq_true rfl⟩) (k_pv (j := 15) hK hN hO (by decide) rfl rfl _) rfl rfl hl.1 rfl (lv_room (Nat.le_of_ble_eq_true rfl)) dX9_canPass_1 ⟨Nat.le_of_ble_eq_true rfl, Nat.le_of_ble_eq_true rfl⟩) hA hO (fun H_3 locs_3 hO_3 => ?_)
  clear hO
  refine lv_bipush (v := 20) hx hb dX9_canPass_4 (by decide) ?_
  refine lv_ishr hx hb dX9_canPass_6 ?_
  refine lv_iconst (v := 1) hx hb dX9_canPass_7 (by decide) ?_
  refine lv_iand hx hb dX9_canPass_8 ?_
  refine lv_iconst (v := 1) hx hb dX9_canPass_9 (by decide) ?_
  refine lv_icmp_ne (tgt := 17) hx hb dX9_canPass_10 (by decide) (fun c_4 => ?_) (fun c_4 => ?_)
  · rw [if_neg c_4] at hf
    refine lv_iconst (v := 0) hx hb dX9_canPass_17 (by decide) ?_
    obtain ⟨rfl, rfl⟩ := Prod.mk.inj (Option.some.inj hf)
    exact e_n hx hb hr (bo_n (by decide)) hK hN hO_3 hlocks dX9_canPass_18
  · rw [if_pos c_4] at hf
    refine lv_iconst (v := 1) hx hb dX9_canPass_13 (by decide) ?_
    refine lv_goto (tgt := 18) hx hb dX9_canPass_14 (by decide) ?_
    obtain ⟨rfl, rfl⟩ := Prod.mk.inj (Option.some.inj hf)
    exact e_n hx hb hr (bo_n (by decide)) hK hN hO_3 hlocks dX9_canPass_18
theorem in_X9_pass_X9 : ∀ w ∈ u_ws RX9 TX9 16, w ∈ wsX9_pass := by decide +kernel
theorem lk_X9_pass_f41 : Cond.fieldLink RX9 41 "PoisonPilesModel" "thrown" "I" ∈ wsX9_pass := by decide +kernel
theorem lk_X9_pass_f7 : Cond.fieldLink RX9 7 "PoisonPilesModel" "s" "[I" ∈ wsX9_pass := by decide +kernel
def fX9_pass   (X : XM) : Option (Int32 × XM) := zl (xup X 22 0 0) (fun X_1 => zi (fX9_canPass X_1) (fun r_4 X_3 => if r_4 = 0 then some ((-5), X_3) else zv (fX9_records X_3) (fun X_7 => zv (fX9_does 20 X_7) (fun X_9 => zd (8 - (X_9 23 3)) 27 (some (X_9 23 (Int32.toNatClampNeg (8 - (X_9 23 3))), X_9))))))
set_option maxHeartbeats 4000000 in
set_option maxRecDepth 100000 in
theorem mX9_pass (l : Launch) (D : va_G) (L : Nat → Nat) (ac : Nat → ClassId) (hL : LL L) (X : XM)  (r0 : Int32) (X0 : XM) (hf : fX9_pass  X = some (r0, X0)) : Ci l yX9_pass wsX9_pass ({ frames := 5, cells := 0, slots := 0, locals := 110 }) D L ac X [.ref (L 15)] r0 X0 := by
  refine Met.ofK (cc := cX9_pass) (maxL := 1) (ret := (some .int)) (lv := [(0, .ref (L 15))]) (by decide +kernel) rfl (Nat.le_of_ble_eq_true rfl) rfl ?_
  intro p e s m below meth c F hO ls hl
  obtain ⟨hx, hb, hr, hts, hown, hlocks, hml, hK, hN⟩ := id F
  have hA : ∀ q, fr L q → fr L q := fun q h => h
  unfold fX9_pass at hf
  refine lv_aload_n hx hb dX9_pass_0 rfl (lv_at hl 0 rfl) ?_
  refine lv_iconst (v := 0) hx hb dX9_pass_1 (by decide) ?_
  refine k_put (ty := .int) (k := 0) (r := 22) (k' := 0) hx hb tyX9 tyX9_ok nmX9 hts in_X9_pass_X9 hown hK  hL hA hO (by decide) rfl (by omega) (fun Y => rfl) (by simp [xup]) rfl (by decide) lk_X9_pass_f41 rfl (by decide +kernel) rfl rfl (Nat.le_of_ble_eq_true rfl) dX9_pass_2 (fun H_2 locs_2 hO_2 => ?_)
  replace hf := zl_some hf
  obtain ⟨X_1, hX_1, hf⟩ := hf
  have hQ_2 := zo_eq hX_1 hO_2
  clear hO_2 hO
  refine lv_aload_n hx hb dX9_pass_5 rfl (lv_at hl 0 rfl) ?_
  replace hf := zi_some hf
  obtain ⟨r_4, X_3, hc_3, hf⟩ := hf
  refine k_ai (va_runV (As := []) (rest := []) ⟨hx, hb, hml, hown, hts⟩ (mX9_canPass l D L ac hL _  _ _ hc_3) (cwV 0 hts gX9_pass_X9_canPass rfl rfl rfl (by decide +kernel) ⟨Nat.le_of_ble_eq_true rfl, Nat.le_of_ble_eq_true rfl⟩) (k_pv (j := 15) hK hN hQ_2 (by decide) rfl rfl _) rfl rfl hl.1 rfl (lv_room (Nat.le_of_ble_eq_true rfl)) dX9_pass_6 ⟨Nat.le_of_ble_eq_true rfl, Nat.le_of_ble_eq_true rfl⟩) hA hQ_2 (fun H_5 locs_5 hO_5 => ?_)
  clear hQ_2
  refine lv_if_ne (tgt := 15) hx hb dX9_pass_9 (by decide) (fun c_6 => ?_) (fun c_6 => ?_)
  · rw [if_neg c_6] at hf
    refine lv_aload_n hx hb dX9_pass_15 rfl (lv_at hl 0 rfl) ?_
    replace hf := zv_some hf
    obtain ⟨X_7, hc_7, hf⟩ := hf
    refine k_av (va_runV (As := []) (rest := []) ⟨hx, hb, hml, hown, hts⟩ (mX9_records l D L ac hL _  _ hc_7) (cwV 0 hts gX9_pass_X9_records rfl rfl rfl (by decide +kernel) ⟨Nat.le_of_ble_eq_true rfl, Nat.le_of_ble_eq_true rfl⟩) (k_pv (j := 15) hK hN hO_5 (by decide) rfl rfl _) rfl rfl hl.1 rfl (lv_room (Nat.le_of_ble_eq_true rfl)) dX9_pass_16 ⟨Nat.le_of_ble_eq_true rfl, Nat.le_of_ble_eq_true rfl⟩) hA hO_5 (fun H_8 locs_8 hO_8 => ?_)
    clear hO_5
    refine lv_aload_n hx hb dX9_pass_19 rfl (lv_at hl 0 rfl) ?_
    refine lv_bipush (v := 20) hx hb dX9_pass_20 (by decide) ?_
    replace hf := zv_some hf
    obtain ⟨X_9, hc_9, hf⟩ := hf
    refine k_av (va_runV (As := [.int 20]) (rest := []) ⟨hx, hb, hml, hown, hts⟩ (mX9_does l D L ac hL _ 20 _ hc_9) (cwV 1 hts gX9_pass_X9_does rfl rfl rfl (by decide +kernel) ⟨Nat.le_of_ble_eq_true rfl, Nat.le_of_ble_eq_true rfl⟩) (k_pv (j := 15) hK hN hO_8 (by decide) rfl rfl _) rfl rfl hl.1 rfl (lv_room (Nat.le_of_ble_eq_true rfl)) dX9_pass_22 ⟨Nat.le_of_ble_eq_true rfl, Nat.le_of_ble_eq_true rfl⟩) hA hO_8 (fun H_10 locs_10 hO_10 => ?_)
    clear hO_8
    refine lv_aload_n hx hb dX9_pass_25 rfl (lv_at hl 0 rfl) ?_
    refine k_get (k := 1) (v := .ref (L 16)) hx hb hts in_X9_pass_X9 hown hK hO_10 (by decide) rfl rfl (by decide) lk_X9_pass_f7 rfl dX9_pass_26 ?_
    refine lv_bipush (v := 8) hx hb dX9_pass_29 (by decide) ?_
    refine lv_aload_n hx hb dX9_pass_31 rfl (lv_at hl 0 rfl) ?_
    refine k_get (k := 1) (v := .ref (L 16)) hx hb hts in_X9_pass_X9 hown hK hO_10 (by decide) rfl rfl (by decide) lk_X9_pass_f7 rfl dX9_pass_32 ?_
    refine lv_iconst (v := 3) hx hb dX9_pass_35 (by decide) ?_
    refine k_iald hx hb hK hO_10 (by decide) (fun _ => rfl) (show vp_in 3 27 from by unfold vp_in; decide) dX9_pass_36 ?_
    refine lv_tope (z := X_9 23 3) rfl ?_
    refine lv_isub hx hb dX9_pass_37 ?_
    replace hf := zd_some hf
    obtain ⟨hi_11, hf⟩ := hf
    refine k_iald hx hb hK hO_10 (by decide) (fun _ => rfl) hi_11 dX9_pass_38 ?_
    obtain ⟨rfl, rfl⟩ := Prod.mk.inj (Option.some.inj hf)
    exact e_i hx hb hr hK hN hO_10 hlocks dX9_pass_39
  · rw [if_pos c_6] at hf
    subst c_6
    refine lv_bipush (v := (-5)) hx hb dX9_pass_12 (by decide) ?_
    obtain ⟨rfl, rfl⟩ := Prod.mk.inj (Option.some.inj hf)
    exact e_i hx hb hr hK hN hO_5 hlocks dX9_pass_14
def fX9_plays_6   : Nat → Int32 → Int32 → XM → Option (Int32 × XM)
  | 0, _, _, _ => none
  | n + 1, x1, x2, X => if x1 ≤ x2 then some (x2, X) else zi (fX9_isOver X) (fun r_3 X_2 => if r_3 = 0 then zi (fX9_bestMove X_2) (fun r_7 X_6 => zv (fX9_does r_7 X_6) (fun X_9 => fX9_plays_6 n x1 (x2 + 1) X_9)) else some (x2, X_2))
set_option maxHeartbeats 4000000 in
set_option maxRecDepth 100000 in
theorem wX9_plays_6 {p : Program} {l : Launch} {e : Env} {s : State} {m : MethodId} {args : Array Value} {below : List Frame} {meth : Method} {c : Code} {D : va_G} {L : Nat → Nat} {ac : Nat → ClassId} {r0 : Int32} {X0 : XM} (hL : LL L) (F : Fx p s m args meth c cX9_plays 3 (some .int) wsX9_plays yX9_plays.cls D ac) : ∀ (n : Nat) (x1 : Int32) (x2 : Int32) (X : XM) (H : Heap) (locs : List Loc) (ls : Array Slot), Oh D L ac X (fr L) s.heap H locs → lv_has ls 3 [(0, .ref (L 15)), (1, .int x1), (2, .int x2)] → fX9_plays_6 n x1 x2 X = some (r0, X0) → W p l e (headSpec wsX9_plays ({ frames := 7, cells := 0, slots := 0, locals := 160 })).room s m args below meth c H locs 0 0 (MQ below (va_Qi (fun (r : Int32) (Y : XM) => r = r0 ∧ Y = X0) (fun (Y : XM) t => St D L ac Y t) (fr L)) args s 0 0 (fr L)) (F0 m 6 ls []) := by
  obtain ⟨hx, hb, hr, hts, hown, hlocks, hml, hK, hN⟩ := id F
  have hA : ∀ q, fr L q → fr L q := fun q h => h
  intro n
  induction n with
  | zero => intro x1 x2 X H locs ls hO hl hf; simp [fX9_plays_6] at hf
  | succ n ih =>
    intro x1 x2 X H locs ls hO hl hf
    rw [fX9_plays_6] at hf
    refine lv_iload_n hx hb dX9_plays_6 rfl (lv_at hl 2 rfl) ?_
    refine lv_iload_n hx hb dX9_plays_7 rfl (lv_at hl 1 rfl) ?_
    refine lv_icmp_ge (tgt := 32) hx hb dX9_plays_8 (by decide) (fun c_1 => ?_) (fun c_1 => ?_)
    · rw [if_pos c_1] at hf
      refine lv_iload_n hx hb dX9_plays_32 rfl (lv_at hl 2 rfl) ?_
      obtain ⟨rfl, rfl⟩ := Prod.mk.inj (Option.some.inj hf)
      exact e_i hx hb hr hK hN hO hlocks dX9_plays_33
    · rw [if_neg c_1] at hf
      refine lv_aload_n hx hb dX9_plays_11 rfl (lv_at hl 0 rfl) ?_
      replace hf := zi_some hf
      obtain ⟨r_3, X_2, hc_2, hf⟩ := hf
      refine k_ai (va_runV (As := []) (rest := []) ⟨hx, hb, hml, hown, hts⟩ (mX9_isOver l D L ac hL _  _ _ hc_2) (cwV 0 hts gX9_plays_X9_isOver rfl rfl rfl (by decide +kernel) ⟨Nat.le_of_ble_eq_true rfl, Nat.le_of_ble_eq_true rfl⟩) (k_pv (j := 15) hK hN hO (by decide) rfl rfl _) rfl rfl hl.1 rfl (lv_room (Nat.le_of_ble_eq_true rfl)) dX9_plays_12 ⟨Nat.le_of_ble_eq_true rfl, Nat.le_of_ble_eq_true rfl⟩) hA hO (fun H_4 locs_4 hO_4 => ?_)
      clear hO
      refine lv_if_ne (tgt := 32) hx hb dX9_plays_15 (by decide) (fun c_5 => ?_) (fun c_5 => ?_)
      · rw [if_neg c_5] at hf
        refine lv_iload_n hx hb dX9_plays_32 rfl (lv_at hl 2 rfl) ?_
        obtain ⟨rfl, rfl⟩ := Prod.mk.inj (Option.some.inj hf)
        exact e_i hx hb hr hK hN hO_4 hlocks dX9_plays_33
      · rw [if_pos c_5] at hf
        subst c_5
        refine lv_aload_n hx hb dX9_plays_18 rfl (lv_at hl 0 rfl) ?_
        refine lv_aload_n hx hb dX9_plays_19 rfl (lv_at hl 0 rfl) ?_
        replace hf := zi_some hf
        obtain ⟨r_7, X_6, hc_6, hf⟩ := hf
        refine k_ai (va_runV (As := []) (rest := [.ref (L 15)]) ⟨hx, hb, hml, hown, hts⟩ (mX9_bestMove l D L ac hL _  _ _ hc_6) (cwV 0 hts gX9_plays_X9_bestMove rfl rfl rfl (by decide +kernel) ⟨Nat.le_of_ble_eq_true rfl, Nat.le_of_ble_eq_true rfl⟩) (k_pv (j := 15) hK hN hO_4 (by decide) rfl rfl _) rfl rfl hl.1 rfl (lv_room (Nat.le_of_ble_eq_true rfl)) dX9_plays_20 ⟨Nat.le_of_ble_eq_true rfl, Nat.le_of_ble_eq_true rfl⟩) hA hO_4 (fun H_8 locs_8 hO_8 => ?_)
        clear hO_4
        replace hf := zv_some hf
        obtain ⟨X_9, hc_9, hf⟩ := hf
        refine k_av (va_runV (As := [.int r_7]) (rest := []) ⟨hx, hb, hml, hown, hts⟩ (mX9_does l D L ac hL _ r_7 _ hc_9) (cwV 1 hts gX9_plays_X9_does rfl rfl rfl (by decide +kernel) ⟨Nat.le_of_ble_eq_true rfl, Nat.le_of_ble_eq_true rfl⟩) (k_pv (j := 15) hK hN hO_8 (by decide) rfl rfl _) rfl rfl hl.1 rfl (lv_room (Nat.le_of_ble_eq_true rfl)) dX9_plays_23 ⟨Nat.le_of_ble_eq_true rfl, Nat.le_of_ble_eq_true rfl⟩) hA hO_8 (fun H_10 locs_10 hO_10 => ?_)
        clear hO_8
        refine lv_iinc (v := x2 + 1) (lv' := [(2, .int (x2 + 1)), (0, .ref (L 15)), (1, .int x1)]) hx hb dX9_plays_26 hl (k := 2) rfl rfl (by decide) rfl (fun ls_11 hl_11 => ?_)
        clear hl
        refine lv_goto (tgt := 6) hx hb dX9_plays_29 (by decide) ?_
        exact ih _ _ _  _ _ _ hO_10 (lv_sub hl_11 [1, 2, 0] rfl) hf
def fX9_plays  (a1 : Int32) (X : XM) : Option (Int32 × XM) := zv (fX9_reckonsAll X) (fun X_12 => fX9_plays_6 fuel a1 0 X_12)
set_option maxHeartbeats 4000000 in
set_option maxRecDepth 100000 in
theorem mX9_plays (l : Launch) (D : va_G) (L : Nat → Nat) (ac : Nat → ClassId) (hL : LL L) (X : XM) (a1 : Int32) (r0 : Int32) (X0 : XM) (hf : fX9_plays a1 X = some (r0, X0)) : Ci l yX9_plays wsX9_plays ({ frames := 7, cells := 0, slots := 0, locals := 160 }) D L ac X [.ref (L 15), .int a1] r0 X0 := by
  refine Met.ofK (cc := cX9_plays) (maxL := 3) (ret := (some .int)) (lv := [(0, .ref (L 15)), (1, .int a1)]) (by decide +kernel) rfl (Nat.le_of_ble_eq_true rfl) rfl ?_
  intro p e s m below meth c F hO ls hl
  obtain ⟨hx, hb, hr, hts, hown, hlocks, hml, hK, hN⟩ := id F
  have hA : ∀ q, fr L q → fr L q := fun q h => h
  unfold fX9_plays at hf
  refine lv_aload_n hx hb dX9_plays_0 rfl (lv_at hl 0 rfl) ?_
  replace hf := zv_some hf
  obtain ⟨X_12, hc_12, hf⟩ := hf
  refine k_av (va_runV (As := []) (rest := []) ⟨hx, hb, hml, hown, hts⟩ (mX9_reckonsAll l D L ac hL _  _ hc_12) (cwV 0 hts gX9_plays_X9_reckonsAll rfl rfl rfl (by decide +kernel) ⟨Nat.le_of_ble_eq_true rfl, Nat.le_of_ble_eq_true rfl⟩) (k_pv (j := 15) hK hN hO (by decide) rfl rfl _) rfl rfl hl.1 rfl (lv_room (Nat.le_of_ble_eq_true rfl)) dX9_plays_1 ⟨Nat.le_of_ble_eq_true rfl, Nat.le_of_ble_eq_true rfl⟩) hA hO (fun H_13 locs_13 hO_13 => ?_)
  clear hO
  refine lv_iconst (v := 0) hx hb dX9_plays_4 (by decide) ?_
  refine lv_istore_n (lv' := [(2, .int 0), (0, .ref (L 15)), (1, .int a1)]) hx hb dX9_plays_5 rfl hl (by decide) rfl (fun ls_14 hl_14 => ?_)
  clear hl
  exact wX9_plays_6 hL F  fuel _ _ _  _ _ _ hO_13 (lv_sub hl_14 [1, 2, 0] rfl) hf
theorem in_X9_play_X9 : ∀ w ∈ u_ws RX9 TX9 16, w ∈ wsX9_play := by decide +kernel
theorem lk_X9_play_f41 : Cond.fieldLink RX9 41 "PoisonPilesModel" "thrown" "I" ∈ wsX9_play := by decide +kernel
def fX9_play  (a1 : Int32) (X : XM) : Option (Int32 × XM) := zl (xup X 22 0 0) (fun X_1 => zi (fX9_in a1 1 40 X_1) (fun r_4 X_3 => if r_4 = 0 then some ((-2), X_3) else zi (fX9_isOver X_3) (fun r_8 X_7 => if r_8 = 0 then zv (fX9_records X_7) (fun X_11 => zi (fX9_plays a1 X_11) (fun r_14 X_13 => some (r_14, X_13))) else some ((-5), X_7))))
set_option maxHeartbeats 4000000 in
set_option maxRecDepth 100000 in
theorem mX9_play (l : Launch) (D : va_G) (L : Nat → Nat) (ac : Nat → ClassId) (hL : LL L) (X : XM) (a1 : Int32) (r0 : Int32) (X0 : XM) (hf : fX9_play a1 X = some (r0, X0)) : Ci l yX9_play wsX9_play ({ frames := 8, cells := 0, slots := 0, locals := 182 }) D L ac X [.ref (L 15), .int a1] r0 X0 := by
  refine Met.ofK (cc := cX9_play) (maxL := 2) (ret := (some .int)) (lv := [(0, .ref (L 15)), (1, .int a1)]) (by decide +kernel) rfl (Nat.le_of_ble_eq_true rfl) rfl ?_
  intro p e s m below meth c F hO ls hl
  obtain ⟨hx, hb, hr, hts, hown, hlocks, hml, hK, hN⟩ := id F
  have hA : ∀ q, fr L q → fr L q := fun q h => h
  unfold fX9_play at hf
  refine lv_aload_n hx hb dX9_play_0 rfl (lv_at hl 0 rfl) ?_
  refine lv_iconst (v := 0) hx hb dX9_play_1 (by decide) ?_
  refine k_put (ty := .int) (k := 0) (r := 22) (k' := 0) hx hb tyX9 tyX9_ok nmX9 hts in_X9_play_X9 hown hK  hL hA hO (by decide) rfl (by omega) (fun Y => rfl) (by simp [xup]) rfl (by decide) lk_X9_play_f41 rfl (by decide +kernel) rfl rfl (Nat.le_of_ble_eq_true rfl) dX9_play_2 (fun H_2 locs_2 hO_2 => ?_)
  replace hf := zl_some hf
  obtain ⟨X_1, hX_1, hf⟩ := hf
  have hQ_2 := zo_eq hX_1 hO_2
  clear hO_2 hO
  refine lv_iload_n hx hb dX9_play_5 rfl (lv_at hl 1 rfl) ?_
  refine lv_iconst (v := 1) hx hb dX9_play_6 (by decide) ?_
  refine lv_bipush (v := 40) hx hb dX9_play_7 (by decide) ?_
  replace hf := zi_some hf
  obtain ⟨r_4, X_3, hc_3, hf⟩ := hf
  refine k_ai (va_runS (As := [.int a1, .int 1, .int 40]) (rest := []) ⟨hx, hb, hml, hown, hts⟩ (mX9_in l D L ac hL _ a1 1 40 _ _ hc_3) (va_cwS 3 hts gX9_play_X9_in rfl rfl rfl (by decide +kernel) ⟨Nat.le_of_ble_eq_true rfl, Nat.le_of_ble_eq_true rfl⟩) (k_ps hK hN hQ_2 _) rfl rfl hl.1 rfl (lv_room (Nat.le_of_ble_eq_true rfl)) dX9_play_9 ⟨Nat.le_of_ble_eq_true rfl, Nat.le_of_ble_eq_true rfl⟩) hA hQ_2 (fun H_5 locs_5 hO_5 => ?_)
  clear hQ_2
  refine lv_if_ne (tgt := 18) hx hb dX9_play_12 (by decide) (fun c_6 => ?_) (fun c_6 => ?_)
  · rw [if_neg c_6] at hf
    refine lv_aload_n hx hb dX9_play_18 rfl (lv_at hl 0 rfl) ?_
    replace hf := zi_some hf
    obtain ⟨r_8, X_7, hc_7, hf⟩ := hf
    refine k_ai (va_runV (As := []) (rest := []) ⟨hx, hb, hml, hown, hts⟩ (mX9_isOver l D L ac hL _  _ _ hc_7) (cwV 0 hts gX9_play_X9_isOver rfl rfl rfl (by decide +kernel) ⟨Nat.le_of_ble_eq_true rfl, Nat.le_of_ble_eq_true rfl⟩) (k_pv (j := 15) hK hN hO_5 (by decide) rfl rfl _) rfl rfl hl.1 rfl (lv_room (Nat.le_of_ble_eq_true rfl)) dX9_play_19 ⟨Nat.le_of_ble_eq_true rfl, Nat.le_of_ble_eq_true rfl⟩) hA hO_5 (fun H_9 locs_9 hO_9 => ?_)
    clear hO_5
    refine lv_if_eq (tgt := 28) hx hb dX9_play_22 (by decide) (fun c_10 => ?_) (fun c_10 => ?_)
    · rw [if_pos c_10] at hf
      subst c_10
      refine lv_aload_n hx hb dX9_play_28 rfl (lv_at hl 0 rfl) ?_
      replace hf := zv_some hf
      obtain ⟨X_11, hc_11, hf⟩ := hf
      refine k_av (va_runV (As := []) (rest := []) ⟨hx, hb, hml, hown, hts⟩ (mX9_records l D L ac hL _  _ hc_11) (cwV 0 hts gX9_play_X9_records rfl rfl rfl (by decide +kernel) ⟨Nat.le_of_ble_eq_true rfl, Nat.le_of_ble_eq_true rfl⟩) (k_pv (j := 15) hK hN hO_9 (by decide) rfl rfl _) rfl rfl hl.1 rfl (lv_room (Nat.le_of_ble_eq_true rfl)) dX9_play_29 ⟨Nat.le_of_ble_eq_true rfl, Nat.le_of_ble_eq_true rfl⟩) hA hO_9 (fun H_12 locs_12 hO_12 => ?_)
      clear hO_9
      refine lv_aload_n hx hb dX9_play_32 rfl (lv_at hl 0 rfl) ?_
      refine lv_iload_n hx hb dX9_play_33 rfl (lv_at hl 1 rfl) ?_
      replace hf := zi_some hf
      obtain ⟨r_14, X_13, hc_13, hf⟩ := hf
      refine k_ai (va_runV (As := [.int a1]) (rest := []) ⟨hx, hb, hml, hown, hts⟩ (mX9_plays l D L ac hL _ a1 _ _ hc_13) (cwV 1 hts gX9_play_X9_plays rfl rfl rfl (by decide +kernel) ⟨Nat.le_of_ble_eq_true rfl, Nat.le_of_ble_eq_true rfl⟩) (k_pv (j := 15) hK hN hO_12 (by decide) rfl rfl _) rfl rfl hl.1 rfl (lv_room (Nat.le_of_ble_eq_true rfl)) dX9_play_34 ⟨Nat.le_of_ble_eq_true rfl, Nat.le_of_ble_eq_true rfl⟩) hA hO_12 (fun H_15 locs_15 hO_15 => ?_)
      clear hO_12
      obtain ⟨rfl, rfl⟩ := Prod.mk.inj (Option.some.inj hf)
      exact e_i hx hb hr hK hN hO_15 hlocks dX9_play_37
    · rw [if_neg c_10] at hf
      refine lv_bipush (v := (-5)) hx hb dX9_play_25 (by decide) ?_
      obtain ⟨rfl, rfl⟩ := Prod.mk.inj (Option.some.inj hf)
      exact e_i hx hb hr hK hN hO_9 hlocks dX9_play_27
  · rw [if_pos c_6] at hf
    subst c_6
    refine lv_bipush (v := (-2)) hx hb dX9_play_15 (by decide) ?_
    obtain ⟨rfl, rfl⟩ := Prod.mk.inj (Option.some.inj hf)
    exact e_i hx hb hr hK hN hO_5 hlocks dX9_play_17
