theorem lk_X8_bitsOfShare_c268 : Cond.constantFloat RX8 268 (1258291200) ∈ wsX8_bitsOfShare := by decide +kernel
def fX8_bitsOfShare_19   : Nat → Int32 → Int32 → UInt32 → Int32 → XM → Option (Int32 × XM)
  | 0, _, _, _, _, _ => none
  | n + 1, x0, x1, x2, x3, X => if 0 ≤ (Op.cmpValue (FP.fcmp x2 (FP.fconst1)) .g) then zf (FP.fsub x2 (FP.fconst1)) (zf (FP.fmul (FP.fsub x2 (FP.fconst1)) (1258291200 : UInt32)) (some ((o_shl x3 23) + (FP.f2i (FP.fmul (FP.fsub x2 (FP.fconst1)) (1258291200 : UInt32))), X))) else if x3 ≤ 1 then zf (FP.fsub x2 (FP.fconst1)) (zf (FP.fmul (FP.fsub x2 (FP.fconst1)) (1258291200 : UInt32)) (some ((o_shl x3 23) + (FP.f2i (FP.fmul (FP.fsub x2 (FP.fconst1)) (1258291200 : UInt32))), X))) else zf (FP.fmul x2 (FP.fconst2)) (zl (FP.fmul x2 (FP.fconst2)) (fun v_8 => fX8_bitsOfShare_19 n x0 x1 v_8 (x3 + (-1)) X))
set_option maxHeartbeats 4000000 in
set_option maxRecDepth 100000 in
theorem wX8_bitsOfShare_19 {p : Program} {l : Launch} {e : Env} {s : State} {m : MethodId} {args : Array Value} {below : List Frame} {meth : Method} {c : Code} {D : va_G} {L : Nat → Nat} {ac : Nat → ClassId} {r0 : Int32} {X0 : XM} (hL : LL L) (F : Fx p s m args meth c cX8_bitsOfShare 4 (some .int) wsX8_bitsOfShare yX8_bitsOfShare.cls D ac) : ∀ (n : Nat) (x0 : Int32) (x1 : Int32) (x2 : UInt32) (x3 : Int32) (X : XM) (H : Heap) (locs : List Loc) (ls : Array Slot), Oh D L ac X (fr L) s.heap H locs → lv_has ls 4 [(0, .int x0), (1, .int x1), (2, .float x2), (3, .int x3)] → fX8_bitsOfShare_19 n x0 x1 x2 x3 X = some (r0, X0) → W p l e (headSpec wsX8_bitsOfShare ({ frames := 0, cells := 0, slots := 0, locals := 0 })).room s m args below meth c H locs 0 0 (MQ below (va_Qi (fun (r : Int32) (Y : XM) => r = r0 ∧ Y = X0) (fun (Y : XM) t => St D L ac Y t) (fr L)) args s 0 0 (fr L)) (F0 m 19 ls []) := by
  obtain ⟨hx, hb, hr, hts, hown, hlocks, hml, hK, hN⟩ := id F
  have hA : ∀ q, fr L q → fr L q := fun q h => h
  intro n
  induction n with
  | zero => intro x0 x1 x2 x3 X H locs ls hO hl hf; simp [fX8_bitsOfShare_19] at hf
  | succ n ih =>
    intro x0 x1 x2 x3 X H locs ls hO hl hf
    rw [fX8_bitsOfShare_19] at hf
    refine lv_fload_n hx hb dX8_bitsOfShare_19 rfl (lv_at hl 2 rfl) ?_
    refine lv_fconst1 hx hb dX8_bitsOfShare_20 ?_
    refine lv_fcmp hx hb dX8_bitsOfShare_21 ?_
    refine lv_if_ge (tgt := 40) hx hb dX8_bitsOfShare_22 (by decide) (fun c_1 => ?_) (fun c_1 => ?_)
    · rw [if_pos c_1] at hf
      refine lv_iload_n hx hb dX8_bitsOfShare_40 rfl (lv_at hl 3 rfl) ?_
      refine lv_bipush (v := 23) hx hb dX8_bitsOfShare_41 (by decide) ?_
      refine lv_ishl hx hb dX8_bitsOfShare_43 ?_
      refine lv_fload_n hx hb dX8_bitsOfShare_44 rfl (lv_at hl 2 rfl) ?_
      refine lv_fconst1 hx hb dX8_bitsOfShare_45 ?_
      replace hf := zf_some hf
      obtain ⟨hn_2, hf⟩ := hf
      refine lv_fsub hx hb dX8_bitsOfShare_46 hn_2 ?_
      refine lv_ldcwf (v := 1258291200) hx hb hown (hts _ lk_X8_bitsOfShare_c268) dX8_bitsOfShare_47 ?_
      replace hf := zf_some hf
      obtain ⟨hn_3, hf⟩ := hf
      refine lv_fmul hx hb dX8_bitsOfShare_50 hn_3 ?_
      refine lv_f2i hx hb dX8_bitsOfShare_51 ?_
      refine lv_iadd hx hb dX8_bitsOfShare_52 ?_
      obtain ⟨rfl, rfl⟩ := Prod.mk.inj (Option.some.inj hf)
      exact e_i hx hb hr hK hN hO hlocks dX8_bitsOfShare_53
    · rw [if_neg c_1] at hf
      refine lv_iload_n hx hb dX8_bitsOfShare_25 rfl (lv_at hl 3 rfl) ?_
      refine lv_iconst (v := 1) hx hb dX8_bitsOfShare_26 (by decide) ?_
      refine lv_icmp_le (tgt := 40) hx hb dX8_bitsOfShare_27 (by decide) (fun c_4 => ?_) (fun c_4 => ?_)
      · rw [if_pos c_4] at hf
        refine lv_iload_n hx hb dX8_bitsOfShare_40 rfl (lv_at hl 3 rfl) ?_
        refine lv_bipush (v := 23) hx hb dX8_bitsOfShare_41 (by decide) ?_
        refine lv_ishl hx hb dX8_bitsOfShare_43 ?_
        refine lv_fload_n hx hb dX8_bitsOfShare_44 rfl (lv_at hl 2 rfl) ?_
        refine lv_fconst1 hx hb dX8_bitsOfShare_45 ?_
        replace hf := zf_some hf
        obtain ⟨hn_5, hf⟩ := hf
        refine lv_fsub hx hb dX8_bitsOfShare_46 hn_5 ?_
        refine lv_ldcwf (v := 1258291200) hx hb hown (hts _ lk_X8_bitsOfShare_c268) dX8_bitsOfShare_47 ?_
        replace hf := zf_some hf
        obtain ⟨hn_6, hf⟩ := hf
        refine lv_fmul hx hb dX8_bitsOfShare_50 hn_6 ?_
        refine lv_f2i hx hb dX8_bitsOfShare_51 ?_
        refine lv_iadd hx hb dX8_bitsOfShare_52 ?_
        obtain ⟨rfl, rfl⟩ := Prod.mk.inj (Option.some.inj hf)
        exact e_i hx hb hr hK hN hO hlocks dX8_bitsOfShare_53
      · rw [if_neg c_4] at hf
        refine lv_fload_n hx hb dX8_bitsOfShare_30 rfl (lv_at hl 2 rfl) ?_
        refine lv_fconst2 hx hb dX8_bitsOfShare_31 ?_
        replace hf := zf_some hf
        obtain ⟨hn_7, hf⟩ := hf
        refine lv_fmul hx hb dX8_bitsOfShare_32 hn_7 ?_
        replace hf := zl_some hf
        obtain ⟨v_8, hv_8, hf⟩ := hf
        refine lv_topF hv_8 ?_
        refine lv_fstore_n (lv' := [(2, .float v_8), (0, .int x0), (1, .int x1), (3, .int x3)]) hx hb dX8_bitsOfShare_33 rfl hl (by decide) rfl (fun ls_9 hl_9 => ?_)
        clear hl
        refine lv_iinc (v := x3 + (-1)) (lv' := [(3, .int (x3 + (-1))), (2, .float v_8), (0, .int x0), (1, .int x1)]) hx hb dX8_bitsOfShare_34 hl_9 (k := 3) rfl rfl (by decide) rfl (fun ls_10 hl_10 => ?_)
        clear hl_9
        refine lv_goto (tgt := 19) hx hb dX8_bitsOfShare_37 (by decide) ?_
        exact ih _ _ _ _ _  _ _ _ hO (lv_sub hl_10 [2, 3, 1, 0] rfl) hf
def fX8_bitsOfShare  (a1 : Int32) (a2 : Int32) (X : XM) : Option (Int32 × XM) := if a1 ≤ 0 then some (0, X) else if 0 < a2 then zf (FP.fdiv (FP.i2f a1) (FP.i2f a2)) (zl (FP.fdiv (FP.i2f a1) (FP.i2f a2)) (fun v_14 => fX8_bitsOfShare_19 fuel a1 a2 v_14 127 X)) else some (0, X)
set_option maxHeartbeats 4000000 in
set_option maxRecDepth 100000 in
theorem mX8_bitsOfShare (l : Launch) (D : va_G) (L : Nat → Nat) (ac : Nat → ClassId) (hL : LL L) (X : XM) (a1 : Int32) (a2 : Int32) (r0 : Int32) (X0 : XM) (hf : fX8_bitsOfShare a1 a2 X = some (r0, X0)) : Ci l yX8_bitsOfShare wsX8_bitsOfShare ({ frames := 0, cells := 0, slots := 0, locals := 0 }) D L ac X [.int a1, .int a2] r0 X0 := by
  refine Met.ofK (cc := cX8_bitsOfShare) (maxL := 4) (ret := (some .int)) (lv := [(0, .int a1), (1, .int a2)]) (by decide +kernel) rfl (Nat.le_of_ble_eq_true rfl) rfl ?_
  intro p e s m below meth c F hO ls hl
  obtain ⟨hx, hb, hr, hts, hown, hlocks, hml, hK, hN⟩ := id F
  have hA : ∀ q, fr L q → fr L q := fun q h => h
  unfold fX8_bitsOfShare at hf
  refine lv_iload_n hx hb dX8_bitsOfShare_0 rfl (lv_at hl 0 rfl) ?_
  refine lv_if_le (tgt := 8) hx hb dX8_bitsOfShare_1 (by decide) (fun c_11 => ?_) (fun c_11 => ?_)
  · rw [if_pos c_11] at hf
    refine lv_iconst (v := 0) hx hb dX8_bitsOfShare_8 (by decide) ?_
    obtain ⟨rfl, rfl⟩ := Prod.mk.inj (Option.some.inj hf)
    exact e_i hx hb hr hK hN hO hlocks dX8_bitsOfShare_9
  · rw [if_neg c_11] at hf
    refine lv_iload_n hx hb dX8_bitsOfShare_4 rfl (lv_at hl 1 rfl) ?_
    refine lv_if_gt (tgt := 10) hx hb dX8_bitsOfShare_5 (by decide) (fun c_12 => ?_) (fun c_12 => ?_)
    · rw [if_pos c_12] at hf
      refine lv_iload_n hx hb dX8_bitsOfShare_10 rfl (lv_at hl 0 rfl) ?_
      refine lv_i2f hx hb dX8_bitsOfShare_11 ?_
      refine lv_iload_n hx hb dX8_bitsOfShare_12 rfl (lv_at hl 1 rfl) ?_
      refine lv_i2f hx hb dX8_bitsOfShare_13 ?_
      replace hf := zf_some hf
      obtain ⟨hn_13, hf⟩ := hf
      refine lv_fdiv hx hb dX8_bitsOfShare_14 hn_13 ?_
      replace hf := zl_some hf
      obtain ⟨v_14, hv_14, hf⟩ := hf
      refine lv_topF hv_14 ?_
      refine lv_fstore_n (lv' := [(2, .float v_14), (0, .int a1), (1, .int a2)]) hx hb dX8_bitsOfShare_15 rfl hl (by decide) rfl (fun ls_15 hl_15 => ?_)
      clear hl
      refine lv_bipush (v := 127) hx hb dX8_bitsOfShare_16 (by decide) ?_
      refine lv_istore_n (lv' := [(3, .int 127), (2, .float v_14), (0, .int a1), (1, .int a2)]) hx hb dX8_bitsOfShare_18 rfl hl_15 (by decide) rfl (fun ls_16 hl_16 => ?_)
      clear hl_15
      exact wX8_bitsOfShare_19 hL F  fuel _ _ _ _ _  _ _ _ hO (lv_sub hl_16 [2, 3, 1, 0] rfl) hf
    · rw [if_neg c_12] at hf
      refine lv_iconst (v := 0) hx hb dX8_bitsOfShare_8 (by decide) ?_
      obtain ⟨rfl, rfl⟩ := Prod.mk.inj (Option.some.inj hf)
      exact e_i hx hb hr hK hN hO hlocks dX8_bitsOfShare_9
theorem in_X8_drawn_X8 : ∀ w ∈ u_ws RX8 TX8 8, w ∈ wsX8_drawn := by decide +kernel
theorem lk_X8_drawn_c185 : Cond.constant RX8 185 (65537) ∈ wsX8_drawn := by decide +kernel
theorem lk_X8_drawn_eX0_isOver : Cond.selects RX0 yX0_isOver yX0_isOver ∈ wsX8_drawn := by decide +kernel
theorem lk_X8_drawn_f12 : Cond.fieldLink RX8 12 "PoisonPiles" "now" "LPoisonPiles$Game;" ∈ wsX8_drawn := by decide +kernel
theorem lk_X8_drawn_iX0 : Cond.initialized RX0 ∈ wsX8_drawn := by decide +kernel
theorem lk_X8_drawn_mX0_isOver : Cond.instanceMethod yX0_isOver ∈ wsX8_drawn := by decide +kernel
def fX8_drawn  (a1 : Int32) (a2 : Int32) (X : XM) : Option (Int32 × XM) := if a1 < 1 then some ((-2), X) else if 200 < a1 then some ((-2), X) else if a2 < 0 then some ((-2), X) else if a2 < 65537 then zi (fX0_isOver 0 X) (fun r_6 X_5 => if r_6 = 0 then zi (fX8_gamesWonByDraws a1 a2 X_5) (fun r_10 X_9 => zi (fX8_bitsOfShare r_10 a1 X_9) (fun r_13 X_12 => some (r_13, X_12))) else some ((-5), X_5)) else some ((-2), X)
set_option maxHeartbeats 4000000 in
set_option maxRecDepth 100000 in
theorem mX8_drawn (l : Launch) (D : va_G) (L : Nat → Nat) (ac : Nat → ClassId) (hL : LL L) (X : XM) (a1 : Int32) (a2 : Int32) (r0 : Int32) (X0 : XM) (hf : fX8_drawn a1 a2 X = some (r0, X0)) : Ci l yX8_drawn wsX8_drawn ({ frames := 5, cells := 0, slots := 0, locals := 115 }) D L ac X [.ref (L 0), .int a1, .int a2] r0 X0 := by
  refine Met.ofK (cc := cX8_drawn) (maxL := 3) (ret := (some .int)) (lv := [(0, .ref (L 0)), (1, .int a1), (2, .int a2)]) (by decide +kernel) rfl (Nat.le_of_ble_eq_true rfl) rfl ?_
  intro p e s m below meth c F hO ls hl
  obtain ⟨hx, hb, hr, hts, hown, hlocks, hml, hK, hN⟩ := id F
  have hA : ∀ q, fr L q → fr L q := fun q h => h
  unfold fX8_drawn at hf
  refine lv_iload_n hx hb dX8_drawn_0 rfl (lv_at hl 1 rfl) ?_
  refine lv_iconst (v := 1) hx hb dX8_drawn_1 (by decide) ?_
  refine lv_icmp_lt (tgt := 22) hx hb dX8_drawn_2 (by decide) (fun c_1 => ?_) (fun c_1 => ?_)
  · rw [if_pos c_1] at hf
    refine lv_bipush (v := (-2)) hx hb dX8_drawn_22 (by decide) ?_
    obtain ⟨rfl, rfl⟩ := Prod.mk.inj (Option.some.inj hf)
    exact e_i hx hb hr hK hN hO hlocks dX8_drawn_24
  · rw [if_neg c_1] at hf
    refine lv_iload_n hx hb dX8_drawn_5 rfl (lv_at hl 1 rfl) ?_
    refine lv_sipush (v := 200) hx hb dX8_drawn_6 (by decide) ?_
    refine lv_icmp_gt (tgt := 22) hx hb dX8_drawn_9 (by decide) (fun c_2 => ?_) (fun c_2 => ?_)
    · rw [if_pos c_2] at hf
      refine lv_bipush (v := (-2)) hx hb dX8_drawn_22 (by decide) ?_
      obtain ⟨rfl, rfl⟩ := Prod.mk.inj (Option.some.inj hf)
      exact e_i hx hb hr hK hN hO hlocks dX8_drawn_24
    · rw [if_neg c_2] at hf
      refine lv_iload_n hx hb dX8_drawn_12 rfl (lv_at hl 2 rfl) ?_
      refine lv_if_lt (tgt := 22) hx hb dX8_drawn_13 (by decide) (fun c_3 => ?_) (fun c_3 => ?_)
      · rw [if_pos c_3] at hf
        refine lv_bipush (v := (-2)) hx hb dX8_drawn_22 (by decide) ?_
        obtain ⟨rfl, rfl⟩ := Prod.mk.inj (Option.some.inj hf)
        exact e_i hx hb hr hK hN hO hlocks dX8_drawn_24
      · rw [if_neg c_3] at hf
        refine lv_iload_n hx hb dX8_drawn_16 rfl (lv_at hl 2 rfl) ?_
        refine lv_ldc (v := 65537) hx hb hown (hts _ lk_X8_drawn_c185) dX8_drawn_17 ?_
        refine lv_icmp_lt (tgt := 25) hx hb dX8_drawn_19 (by decide) (fun c_4 => ?_) (fun c_4 => ?_)
        · rw [if_pos c_4] at hf
          refine lv_aload_n hx hb dX8_drawn_25 rfl (lv_at hl 0 rfl) ?_
          refine k_get (k := 0) (v := .ref (L (aG 0))) hx hb hts in_X8_drawn_X8 hown hK hO (by decide) rfl rfl (by decide) lk_X8_drawn_f12 rfl dX8_drawn_26 ?_
          replace hf := zi_some hf
          obtain ⟨r_6, X_5, hc_5, hf⟩ := hf
          refine k_ai (va_runVN (As := []) (rest := []) ⟨hx, hb, hml, hown, hts⟩ (mX0_isOver l D L ac hL _ 0 (by decide) _ _ hc_5) ⟨va_cnB 0 hts gX8_drawn_X0_isOver_n143 rfl rfl rfl (hN _ nx_method_X8_143) (hts _ lk_X8_drawn_iX0) (by decide +kernel) ⟨Nat.le_of_ble_eq_true rfl, Nat.le_of_ble_eq_true rfl⟩, hts _ lk_X8_drawn_mX0_isOver, hts _ lk_X8_drawn_eX0_isOver⟩ (k_pv (j := (aG 0)) hK hN hO (aG_lt (by decide)) (cn_G 0) rfl _) rfl rfl hl.1 rfl (lv_room (Nat.le_of_ble_eq_true rfl)) dX8_drawn_29 ⟨Nat.le_of_ble_eq_true rfl, Nat.le_of_ble_eq_true rfl⟩) hA hO (fun H_7 locs_7 hO_7 => ?_)
          clear hO
          refine lv_if_eq (tgt := 40) hx hb dX8_drawn_32 (by decide) (fun c_8 => ?_) (fun c_8 => ?_)
          · rw [if_pos c_8] at hf
            subst c_8
            refine lv_aload_n hx hb dX8_drawn_40 rfl (lv_at hl 0 rfl) ?_
            refine lv_iload_n hx hb dX8_drawn_41 rfl (lv_at hl 1 rfl) ?_
            refine lv_iload_n hx hb dX8_drawn_42 rfl (lv_at hl 2 rfl) ?_
            replace hf := zi_some hf
            obtain ⟨r_10, X_9, hc_9, hf⟩ := hf
            refine k_ai (va_runV (As := [.int a1, .int a2]) (rest := []) ⟨hx, hb, hml, hown, hts⟩ (mX8_gamesWonByDraws l D L ac hL _ a1 a2 _ _ hc_9) (cwV 2 hts gX8_drawn_X8_gamesWonByDraws rfl rfl rfl (by decide +kernel) ⟨Nat.le_of_ble_eq_true rfl, Nat.le_of_ble_eq_true rfl⟩) (k_pv (j := 0) hK hN hO_7 (by decide) rfl rfl _) rfl rfl hl.1 rfl (lv_room (Nat.le_of_ble_eq_true rfl)) dX8_drawn_43 ⟨Nat.le_of_ble_eq_true rfl, Nat.le_of_ble_eq_true rfl⟩) hA hO_7 (fun H_11 locs_11 hO_11 => ?_)
            clear hO_7
            refine lv_iload_n hx hb dX8_drawn_46 rfl (lv_at hl 1 rfl) ?_
            replace hf := zi_some hf
            obtain ⟨r_13, X_12, hc_12, hf⟩ := hf
            refine k_ai (va_runS (As := [.int r_10, .int a1]) (rest := []) ⟨hx, hb, hml, hown, hts⟩ (mX8_bitsOfShare l D L ac hL _ r_10 a1 _ _ hc_12) (va_cwS 2 hts gX8_drawn_X8_bitsOfShare rfl rfl rfl (by decide +kernel) ⟨Nat.le_of_ble_eq_true rfl, Nat.le_of_ble_eq_true rfl⟩) (k_ps hK hN hO_11 _) rfl rfl hl.1 rfl (lv_room (Nat.le_of_ble_eq_true rfl)) dX8_drawn_47 ⟨Nat.le_of_ble_eq_true rfl, Nat.le_of_ble_eq_true rfl⟩) hA hO_11 (fun H_14 locs_14 hO_14 => ?_)
            clear hO_11
            obtain ⟨rfl, rfl⟩ := Prod.mk.inj (Option.some.inj hf)
            exact e_i hx hb hr hK hN hO_14 hlocks dX8_drawn_50
          · rw [if_neg c_8] at hf
            refine lv_bipush (v := (-5)) hx hb dX8_drawn_35 (by decide) ?_
            refine lv_goto (tgt := 50) hx hb dX8_drawn_37 (by decide) ?_
            obtain ⟨rfl, rfl⟩ := Prod.mk.inj (Option.some.inj hf)
            exact e_i hx hb hr hK hN hO_7 hlocks dX8_drawn_50
        · rw [if_neg c_4] at hf
          refine lv_bipush (v := (-2)) hx hb dX8_drawn_22 (by decide) ?_
          obtain ⟨rfl, rfl⟩ := Prod.mk.inj (Option.some.inj hf)
          exact e_i hx hb hr hK hN hO hlocks dX8_drawn_24
def fJxf58ca_isNaN_12338  (a1 : UInt32) (X : XM) : Option (Int32 × XM) := if (Op.cmpValue (FP.fcmp a1 a1) .l) = 0 then some (0, X) else some (1, X)
set_option maxHeartbeats 4000000 in
set_option maxRecDepth 100000 in
theorem mJxf58ca_isNaN_12338 (l : Launch) (D : va_G) (L : Nat → Nat) (ac : Nat → ClassId) (hL : LL L) (X : XM) (a1 : UInt32) (r0 : Int32) (X0 : XM) (hf : fJxf58ca_isNaN_12338 a1 X = some (r0, X0)) : Ci l yJxf58ca_isNaN_12338 wsJxf58ca_isNaN_12338 ({ frames := 0, cells := 0, slots := 0, locals := 0 }) D L ac X [.float a1] r0 X0 := by
  refine Met.ofKF (cc := cJxf58ca_isNaN_12338) (maxL := 1) (ret := (some .boolean)) (lv := [(0, .float a1)]) (by decide +kernel) rfl (Nat.le_of_ble_eq_true rfl) rfl ?_
  intro p e s m below meth c F hO ls hl
  obtain ⟨hx, hb, hr, hts, hown, hlocks, hml, hK, hN⟩ := id F
  have hA : ∀ q, fr L q → fr L q := fun q h => h
  unfold fJxf58ca_isNaN_12338 at hf
  refine lv_fload_n hx hb dJxf58ca_isNaN_12338_0 rfl (lv_at hl 0 rfl) ?_
  refine lv_fload_n hx hb dJxf58ca_isNaN_12338_1 rfl (lv_at hl 0 rfl) ?_
  refine lv_fcmp hx hb dJxf58ca_isNaN_12338_2 ?_
  refine lv_if_eq (tgt := 10) hx hb dJxf58ca_isNaN_12338_3 (by decide) (fun c_1 => ?_) (fun c_1 => ?_)
  · rw [if_pos c_1] at hf
    refine lv_iconst (v := 0) hx hb dJxf58ca_isNaN_12338_10 (by decide) ?_
    obtain ⟨rfl, rfl⟩ := Prod.mk.inj (Option.some.inj hf)
    exact e_n hx hb hr (bo_n (by decide)) hK hN hO hlocks dJxf58ca_isNaN_12338_11
  · rw [if_neg c_1] at hf
    refine lv_iconst (v := 1) hx hb dJxf58ca_isNaN_12338_6 (by decide) ?_
    refine lv_goto (tgt := 11) hx hb dJxf58ca_isNaN_12338_7 (by decide) ?_
    obtain ⟨rfl, rfl⟩ := Prod.mk.inj (Option.some.inj hf)
    exact e_n hx hb hr (bo_n (by decide)) hK hN hO hlocks dJxf58ca_isNaN_12338_11
theorem lk_Jxf58ca_floatToIntBits_5c35a_c77 : Cond.constant RJxf58ca 77 (2143289344) ∈ wsJxf58ca_floatToIntBits_5c35a := by decide +kernel
theorem lk_Jxf58ca_floatToIntBits_5c35a_raw1 : Cond.methodLink RJxf58ca 74 ⟨"java/lang/Float", "floatToRawIntBits", "(F)I"⟩ ∈ wsJxf58ca_floatToIntBits_5c35a := by decide +kernel
theorem lk_Jxf58ca_floatToIntBits_5c35a_raw2 : Cond.native ⟨"java/lang/Float", "floatToRawIntBits", "(F)I"⟩ ∈ wsJxf58ca_floatToIntBits_5c35a := by decide +kernel
theorem lk_Jxf58ca_floatToIntBits_5c35a_raw3 : Cond.static ⟨"java/lang/Float", "floatToRawIntBits", "(F)I"⟩ ∈ wsJxf58ca_floatToIntBits_5c35a := by decide +kernel
theorem lk_Jxf58ca_floatToIntBits_5c35a_raw4 : Cond.initialized "java/lang/Float" ∈ wsJxf58ca_floatToIntBits_5c35a := by decide +kernel
def fJxf58ca_floatToIntBits_5c35a  (a1 : UInt32) (X : XM) : Option (Int32 × XM) := zi (fJxf58ca_isNaN_12338 a1 X) (fun r_2 X_1 => if r_2 = 0 then some (UInt32.toInt32 a1, X_1) else some (2143289344, X_1))
set_option maxHeartbeats 4000000 in
set_option maxRecDepth 100000 in
theorem mJxf58ca_floatToIntBits_5c35a (l : Launch) (D : va_G) (L : Nat → Nat) (ac : Nat → ClassId) (hL : LL L) (X : XM) (a1 : UInt32) (r0 : Int32) (X0 : XM) (hf : fJxf58ca_floatToIntBits_5c35a a1 X = some (r0, X0)) : Ci l yJxf58ca_floatToIntBits_5c35a wsJxf58ca_floatToIntBits_5c35a ({ frames := 1, cells := 0, slots := 0, locals := 40 }) D L ac X [.float a1] r0 X0 := by
  refine Met.ofKF (cc := cJxf58ca_floatToIntBits_5c35a) (maxL := 1) (ret := (some .int)) (lv := [(0, .float a1)]) (by decide +kernel) rfl (Nat.le_of_ble_eq_true rfl) rfl ?_
  intro p e s m below meth c F hO ls hl
  obtain ⟨hx, hb, hr, hts, hown, hlocks, hml, hK, hN⟩ := id F
  have hA : ∀ q, fr L q → fr L q := fun q h => h
  unfold fJxf58ca_floatToIntBits_5c35a at hf
  refine lv_fload_n hx hb dJxf58ca_floatToIntBits_5c35a_0 rfl (lv_at hl 0 rfl) ?_
  replace hf := zi_some hf
  obtain ⟨r_2, X_1, hc_1, hf⟩ := hf
  refine k_ai (va_runS (As := [.float a1]) (rest := []) ⟨hx, hb, hml, hown, hts⟩ (mJxf58ca_isNaN_12338 l D L ac hL _ a1 _ _ hc_1) (va_cwS 1 hts gJxf58ca_floatToIntBits_5c35a_Jxf58ca_isNaN_12338 rfl rfl rfl (by decide +kernel) ⟨Nat.le_of_ble_eq_true rfl, Nat.le_of_ble_eq_true rfl⟩) (k_ps hK hN hO _) rfl rfl hl.1 rfl (lv_room (Nat.le_of_ble_eq_true rfl)) dJxf58ca_floatToIntBits_5c35a_1 ⟨Nat.le_of_ble_eq_true rfl, Nat.le_of_ble_eq_true rfl⟩) hA hO (fun H_3 locs_3 hO_3 => ?_)
  clear hO
  refine lv_if_ne (tgt := 12) hx hb dJxf58ca_floatToIntBits_5c35a_4 (by decide) (fun c_4 => ?_) (fun c_4 => ?_)
  · rw [if_neg c_4] at hf
    refine lv_ldc (v := 2143289344) hx hb hown (hts _ lk_Jxf58ca_floatToIntBits_5c35a_c77) dJxf58ca_floatToIntBits_5c35a_12 ?_
    obtain ⟨rfl, rfl⟩ := Prod.mk.inj (Option.some.inj hf)
    exact e_i hx hb hr hK hN hO_3 hlocks dJxf58ca_floatToIntBits_5c35a_14
  · rw [if_pos c_4] at hf
    subst c_4
    refine lv_fload_n hx hb dJxf58ca_floatToIntBits_5c35a_7 rfl (lv_at hl 0 rfl) ?_
    refine vn_f2i hx hb (hml.trans hl.1.symm) hown (hts _ lk_Jxf58ca_floatToIntBits_5c35a_raw1) (hts _ lk_Jxf58ca_floatToIntBits_5c35a_raw2) (hts _ lk_Jxf58ca_floatToIntBits_5c35a_raw3) (hts _ lk_Jxf58ca_floatToIntBits_5c35a_raw4) (Nat.le_of_ble_eq_true rfl) (Nat.le_of_ble_eq_true rfl) dJxf58ca_floatToIntBits_5c35a_8 ?_
    obtain ⟨rfl, rfl⟩ := Prod.mk.inj (Option.some.inj hf)
    exact e_i hx hb hr hK hN hO_3 hlocks dJxf58ca_floatToIntBits_5c35a_11
theorem in_X9_drawn_X9 : ∀ w ∈ u_ws RX9 TX9 16, w ∈ wsX9_drawn := by decide +kernel
theorem lk_X9_drawn_c182 : Cond.constant RX9 182 (65536) ∈ wsX9_drawn := by decide +kernel
theorem lk_X9_drawn_c183 : Cond.constant RX9 183 (65537) ∈ wsX9_drawn := by decide +kernel
theorem lk_X9_drawn_f13 : Cond.fieldLink RX9 13 "PoisonPilesModel" "aside" "[I" ∈ wsX9_drawn := by decide +kernel
theorem lk_X9_drawn_f41 : Cond.fieldLink RX9 41 "PoisonPilesModel" "thrown" "I" ∈ wsX9_drawn := by decide +kernel
theorem lk_X9_drawn_f7 : Cond.fieldLink RX9 7 "PoisonPilesModel" "s" "[I" ∈ wsX9_drawn := by decide +kernel
def fX9_drawn_151  (k73 : Int32 → Int32 → Int32 → Int32 → Int32 → XM → Option (Int32 × XM)) : Nat → Int32 → Int32 → Int32 → Int32 → Int32 → Int32 → XM → Option (Int32 × XM)
  | 0, _, _, _, _, _, _, _ => none
  | n + 1, x1, x2, x3, x4, x5, x6, X => if 27 ≤ x6 then k73 x1 x2 x3 x4 (x5 + 1) X else zd x6 27 (zd x6 27 (zl (xup X 23 (Int32.toNatClampNeg x6) (X 24 (Int32.toNatClampNeg x6))) (fun X_5 => fX9_drawn_151 k73 n x1 x2 x3 x4 x5 (x6 + 1) X_5)))
set_option maxHeartbeats 4000000 in
set_option maxRecDepth 100000 in
theorem wX9_drawn_151 {p : Program} {l : Launch} {e : Env} {s : State} {m : MethodId} {args : Array Value} {below : List Frame} {meth : Method} {c : Code} {D : va_G} {L : Nat → Nat} {ac : Nat → ClassId} {r0 : Int32} {X0 : XM} (hL : LL L) (F : Fx p s m args meth c cX9_drawn 7 (some .int) wsX9_drawn yX9_drawn.cls D ac) (k73 : Int32 → Int32 → Int32 → Int32 → Int32 → XM → Option (Int32 × XM)) (hk73 : ∀ (x1 : Int32) (x2 : Int32) (x3 : Int32) (x4 : Int32) (x5 : Int32) (X : XM) (H : Heap) (locs : List Loc) (ls : Array Slot), Oh D L ac X (fr L) s.heap H locs → lv_has ls 7 [(0, .ref (L 15)), (1, .int x1), (2, .int x2), (3, .int x3), (4, .int x4), (5, .int x5)] → k73 x1 x2 x3 x4 x5 X = some (r0, X0) → W p l e (headSpec wsX9_drawn ({ frames := 6, cells := 0, slots := 0, locals := 130 })).room s m args below meth c H locs 0 0 (MQ below (va_Qi (fun (r : Int32) (Y : XM) => r = r0 ∧ Y = X0) (fun (Y : XM) t => St D L ac Y t) (fr L)) args s 0 0 (fr L)) (F0 m 73 ls [])) : ∀ (n : Nat) (x1 : Int32) (x2 : Int32) (x3 : Int32) (x4 : Int32) (x5 : Int32) (x6 : Int32) (X : XM) (H : Heap) (locs : List Loc) (ls : Array Slot), Oh D L ac X (fr L) s.heap H locs → lv_has ls 7 [(0, .ref (L 15)), (1, .int x1), (2, .int x2), (3, .int x3), (4, .int x4), (5, .int x5), (6, .int x6)] → fX9_drawn_151 k73 n x1 x2 x3 x4 x5 x6 X = some (r0, X0) → W p l e (headSpec wsX9_drawn ({ frames := 6, cells := 0, slots := 0, locals := 130 })).room s m args below meth c H locs 0 0 (MQ below (va_Qi (fun (r : Int32) (Y : XM) => r = r0 ∧ Y = X0) (fun (Y : XM) t => St D L ac Y t) (fr L)) args s 0 0 (fr L)) (F0 m 151 ls []) := by
  obtain ⟨hx, hb, hr, hts, hown, hlocks, hml, hK, hN⟩ := id F
  have hA : ∀ q, fr L q → fr L q := fun q h => h
  intro n
  induction n with
  | zero => intro x1 x2 x3 x4 x5 x6 X H locs ls hO hl hf; simp [fX9_drawn_151] at hf
  | succ n ih =>
    intro x1 x2 x3 x4 x5 x6 X H locs ls hO hl hf
    rw [fX9_drawn_151] at hf
    refine lv_iload hx hb dX9_drawn_151 (lv_at hl 6 rfl) ?_
    refine lv_bipush (v := 27) hx hb dX9_drawn_153 (by decide) ?_
    refine lv_icmp_ge (tgt := 178) hx hb dX9_drawn_155 (by decide) (fun c_1 => ?_) (fun c_1 => ?_)
    · rw [if_pos c_1] at hf
      refine lv_iinc (v := x5 + 1) (lv' := [(5, .int (x5 + 1)), (0, .ref (L 15)), (1, .int x1), (2, .int x2), (3, .int x3), (4, .int x4), (6, .int x6)]) hx hb dX9_drawn_178 hl (k := 5) rfl rfl (by decide) rfl (fun ls_2 hl_2 => ?_)
      clear hl
      refine lv_goto (tgt := 73) hx hb dX9_drawn_181 (by decide) ?_
      exact hk73 _ _ _ _ _ _  _ _ _ hO (lv_sub hl_2 [1, 2, 3, 4, 5, 0] rfl) hf
    · rw [if_neg c_1] at hf
      refine lv_aload_n hx hb dX9_drawn_158 rfl (lv_at hl 0 rfl) ?_
      refine k_get (k := 1) (v := .ref (L 16)) hx hb hts in_X9_drawn_X9 hown hK hO (by decide) rfl rfl (by decide) lk_X9_drawn_f7 rfl dX9_drawn_159 ?_
      refine lv_iload hx hb dX9_drawn_162 (lv_at hl 6 rfl) ?_
      refine lv_aload_n hx hb dX9_drawn_164 rfl (lv_at hl 0 rfl) ?_
      refine k_get (k := 2) (v := .ref (L 17)) hx hb hts in_X9_drawn_X9 hown hK hO (by decide) rfl rfl (by decide) lk_X9_drawn_f13 rfl dX9_drawn_165 ?_
      refine lv_iload hx hb dX9_drawn_168 (lv_at hl 6 rfl) ?_
      replace hf := zd_some hf
      obtain ⟨hi_3, hf⟩ := hf
      refine k_iald hx hb hK hO (by decide) (fun _ => rfl) hi_3 dX9_drawn_170 ?_
      replace hf := zd_some hf
      obtain ⟨hi_4, hf⟩ := hf
      refine k_iast hx hb hK hL hA hO (by decide) (by decide) rfl (fun _ => rfl) hi_4 dX9_drawn_171 (fun H_6 locs_6 hO_6 => ?_)
      replace hf := zl_some hf
      obtain ⟨X_5, hX_5, hf⟩ := hf
      have hQ_6 := zo_eq hX_5 hO_6
      clear hO_6 hO
      refine lv_iinc (v := x6 + 1) (lv' := [(6, .int (x6 + 1)), (0, .ref (L 15)), (1, .int x1), (2, .int x2), (3, .int x3), (4, .int x4), (5, .int x5)]) hx hb dX9_drawn_172 hl (k := 6) rfl rfl (by decide) rfl (fun ls_7 hl_7 => ?_)
      clear hl
      refine lv_goto (tgt := 151) hx hb dX9_drawn_175 (by decide) ?_
      exact ih _ _ _ _ _ _ _  _ _ _ hQ_6 (lv_sub hl_7 [1, 2, 3, 4, 5, 6, 0] rfl) hf
def fX9_drawn_79  (k73 : Int32 → Int32 → Int32 → Int32 → Int32 → XM → Option (Int32 × XM)) : Nat → Int32 → Int32 → Int32 → Int32 → Int32 → XM → Option (Int32 × XM)
  | 0, _, _, _, _, _, _ => none
  | n + 1, x1, x2, x3, x4, x5, X => zi (fX9_isOver X) (fun r_9 X_8 => if r_9 = 0 then zi (fX9_movesNow X_8) (fun r_23 X_22 => zl (o_rem ((75 * x3) + 74) 65537) (fun v_26 => zi (fX9_ones r_23 X_22) (fun r_29 X_28 => zz r_29 (zi (fX9_moveAt r_23 (o_rem (v_26 / 64) r_29) X_28) (fun r_33 X_32 => zv (fX9_does r_33 X_32) (fun X_35 => fX9_drawn_79 k73 n x1 x2 v_26 x4 x5 X_35)))))) else zi (fX9_winner X_8) (fun r_13 X_12 => if r_13 = (X_12 24 3) then zl (x4 + 1) (fun v_19 => fX9_drawn_151 k73 fuel x1 x2 x3 v_19 x5 0 X_12) else zl (x4 + 0) (fun v_16 => fX9_drawn_151 k73 fuel x1 x2 x3 v_16 x5 0 X_12)))
set_option maxHeartbeats 4000000 in
set_option maxRecDepth 100000 in
theorem wX9_drawn_79 {p : Program} {l : Launch} {e : Env} {s : State} {m : MethodId} {args : Array Value} {below : List Frame} {meth : Method} {c : Code} {D : va_G} {L : Nat → Nat} {ac : Nat → ClassId} {r0 : Int32} {X0 : XM} (hL : LL L) (F : Fx p s m args meth c cX9_drawn 7 (some .int) wsX9_drawn yX9_drawn.cls D ac) (k73 : Int32 → Int32 → Int32 → Int32 → Int32 → XM → Option (Int32 × XM)) (hk73 : ∀ (x1 : Int32) (x2 : Int32) (x3 : Int32) (x4 : Int32) (x5 : Int32) (X : XM) (H : Heap) (locs : List Loc) (ls : Array Slot), Oh D L ac X (fr L) s.heap H locs → lv_has ls 7 [(0, .ref (L 15)), (1, .int x1), (2, .int x2), (3, .int x3), (4, .int x4), (5, .int x5)] → k73 x1 x2 x3 x4 x5 X = some (r0, X0) → W p l e (headSpec wsX9_drawn ({ frames := 6, cells := 0, slots := 0, locals := 130 })).room s m args below meth c H locs 0 0 (MQ below (va_Qi (fun (r : Int32) (Y : XM) => r = r0 ∧ Y = X0) (fun (Y : XM) t => St D L ac Y t) (fr L)) args s 0 0 (fr L)) (F0 m 73 ls [])) : ∀ (n : Nat) (x1 : Int32) (x2 : Int32) (x3 : Int32) (x4 : Int32) (x5 : Int32) (X : XM) (H : Heap) (locs : List Loc) (ls : Array Slot), Oh D L ac X (fr L) s.heap H locs → lv_has ls 7 [(0, .ref (L 15)), (1, .int x1), (2, .int x2), (3, .int x3), (4, .int x4), (5, .int x5)] → fX9_drawn_79 k73 n x1 x2 x3 x4 x5 X = some (r0, X0) → W p l e (headSpec wsX9_drawn ({ frames := 6, cells := 0, slots := 0, locals := 130 })).room s m args below meth c H locs 0 0 (MQ below (va_Qi (fun (r : Int32) (Y : XM) => r = r0 ∧ Y = X0) (fun (Y : XM) t => St D L ac Y t) (fr L)) args s 0 0 (fr L)) (F0 m 79 ls []) := by
  obtain ⟨hx, hb, hr, hts, hown, hlocks, hml, hK, hN⟩ := id F
  have hA : ∀ q, fr L q → fr L q := fun q h => h
  intro n
  induction n with
  | zero => intro x1 x2 x3 x4 x5 X H locs ls hO hl hf; simp [fX9_drawn_79] at hf
  | succ n ih =>
    intro x1 x2 x3 x4 x5 X H locs ls hO hl hf
    rw [fX9_drawn_79] at hf
    refine lv_aload_n hx hb dX9_drawn_79 rfl (lv_at hl 0 rfl) ?_
    replace hf := zi_some hf
    obtain ⟨r_9, X_8, hc_8, hf⟩ := hf
    refine k_ai (va_runV (As := []) (rest := []) ⟨hx, hb, hml, hown, hts⟩ (mX9_isOver l D L ac hL _  _ _ hc_8) (cwV 0 hts gX9_drawn_X9_isOver rfl rfl rfl (by decide +kernel) ⟨Nat.le_of_ble_eq_true rfl, Nat.le_of_ble_eq_true rfl⟩) (k_pv (j := 15) hK hN hO (by decide) rfl rfl _) rfl rfl hl.1 rfl (lv_room (Nat.le_of_ble_eq_true rfl)) dX9_drawn_80 ⟨Nat.le_of_ble_eq_true rfl, Nat.le_of_ble_eq_true rfl⟩) hA hO (fun H_10 locs_10 hO_10 => ?_)
    clear hO
    refine lv_if_ne (tgt := 125) hx hb dX9_drawn_83 (by decide) (fun c_11 => ?_) (fun c_11 => ?_)
    · rw [if_neg c_11] at hf
      refine lv_iload hx hb dX9_drawn_125 (lv_at hl 4 rfl) ?_
      refine lv_aload_n hx hb dX9_drawn_127 rfl (lv_at hl 0 rfl) ?_
      replace hf := zi_some hf
      obtain ⟨r_13, X_12, hc_12, hf⟩ := hf
      refine k_ai (va_runV (As := []) (rest := [.int x4]) ⟨hx, hb, hml, hown, hts⟩ (mX9_winner l D L ac hL _  _ _ hc_12) (cwV 0 hts gX9_drawn_X9_winner rfl rfl rfl (by decide +kernel) ⟨Nat.le_of_ble_eq_true rfl, Nat.le_of_ble_eq_true rfl⟩) (k_pv (j := 15) hK hN hO_10 (by decide) rfl rfl _) rfl rfl hl.1 rfl (lv_room (Nat.le_of_ble_eq_true rfl)) dX9_drawn_128 ⟨Nat.le_of_ble_eq_true rfl, Nat.le_of_ble_eq_true rfl⟩) hA hO_10 (fun H_14 locs_14 hO_14 => ?_)
      clear hO_10
      refine lv_aload_n hx hb dX9_drawn_131 rfl (lv_at hl 0 rfl) ?_
      refine k_get (k := 2) (v := .ref (L 17)) hx hb hts in_X9_drawn_X9 hown hK hO_14 (by decide) rfl rfl (by decide) lk_X9_drawn_f13 rfl dX9_drawn_132 ?_
      refine lv_iconst (v := 3) hx hb dX9_drawn_135 (by decide) ?_
      refine k_iald hx hb hK hO_14 (by decide) (fun _ => rfl) (show vp_in 3 27 from by unfold vp_in; decide) dX9_drawn_136 ?_
      refine lv_tope (z := X_12 24 3) rfl ?_
      refine lv_icmp_ne (tgt := 144) hx hb dX9_drawn_137 (by decide) (fun c_15 => ?_) (fun c_15 => ?_)
      · rw [if_neg c_15] at hf
        refine lv_iconst (v := 0) hx hb dX9_drawn_144 (by decide) ?_
        refine lv_iadd hx hb dX9_drawn_145 ?_
        replace hf := zl_some hf
        obtain ⟨v_16, hv_16, hf⟩ := hf
        refine lv_tope hv_16 ?_
        refine lv_istore (lv' := [(4, .int v_16), (0, .ref (L 15)), (1, .int x1), (2, .int x2), (3, .int x3), (5, .int x5)]) hx hb dX9_drawn_146 hl (by decide) rfl (fun ls_17 hl_17 => ?_)
        clear hl
        refine lv_iconst (v := 0) hx hb dX9_drawn_148 (by decide) ?_
        refine lv_istore (lv' := [(6, .int 0), (4, .int v_16), (0, .ref (L 15)), (1, .int x1), (2, .int x2), (3, .int x3), (5, .int x5)]) hx hb dX9_drawn_149 hl_17 (by decide) rfl (fun ls_18 hl_18 => ?_)
        clear hl_17
        exact wX9_drawn_151 hL F _ hk73 fuel _ _ _ _ _ _ _  _ _ _ hO_14 (lv_sub hl_18 [2, 3, 4, 5, 1, 6, 0] rfl) hf
      · rw [if_pos c_15] at hf
        refine lv_iconst (v := 1) hx hb dX9_drawn_140 (by decide) ?_
        refine lv_goto (tgt := 145) hx hb dX9_drawn_141 (by decide) ?_
        refine lv_iadd hx hb dX9_drawn_145 ?_
        replace hf := zl_some hf
        obtain ⟨v_19, hv_19, hf⟩ := hf
        refine lv_tope hv_19 ?_
        refine lv_istore (lv' := [(4, .int v_19), (0, .ref (L 15)), (1, .int x1), (2, .int x2), (3, .int x3), (5, .int x5)]) hx hb dX9_drawn_146 hl (by decide) rfl (fun ls_20 hl_20 => ?_)
        clear hl
        refine lv_iconst (v := 0) hx hb dX9_drawn_148 (by decide) ?_
        refine lv_istore (lv' := [(6, .int 0), (4, .int v_19), (0, .ref (L 15)), (1, .int x1), (2, .int x2), (3, .int x3), (5, .int x5)]) hx hb dX9_drawn_149 hl_20 (by decide) rfl (fun ls_21 hl_21 => ?_)
        clear hl_20
        exact wX9_drawn_151 hL F _ hk73 fuel _ _ _ _ _ _ _  _ _ _ hO_14 (lv_sub hl_21 [2, 3, 4, 5, 1, 6, 0] rfl) hf
    · rw [if_pos c_11] at hf
      subst c_11
      refine lv_aload_n hx hb dX9_drawn_86 rfl (lv_at hl 0 rfl) ?_
      replace hf := zi_some hf
      obtain ⟨r_23, X_22, hc_22, hf⟩ := hf
      refine k_ai (va_runV (As := []) (rest := []) ⟨hx, hb, hml, hown, hts⟩ (mX9_movesNow l D L ac hL _  _ _ hc_22) (cwV 0 hts gX9_drawn_X9_movesNow rfl rfl rfl (by decide +kernel) ⟨Nat.le_of_ble_eq_true rfl, Nat.le_of_ble_eq_true rfl⟩) (k_pv (j := 15) hK hN hO_10 (by decide) rfl rfl _) rfl rfl hl.1 rfl (lv_room (Nat.le_of_ble_eq_true rfl)) dX9_drawn_87 ⟨Nat.le_of_ble_eq_true rfl, Nat.le_of_ble_eq_true rfl⟩) hA hO_10 (fun H_24 locs_24 hO_24 => ?_)
      clear hO_10
      refine lv_istore (lv' := [(6, .int r_23), (0, .ref (L 15)), (1, .int x1), (2, .int x2), (3, .int x3), (4, .int x4), (5, .int x5)]) hx hb dX9_drawn_90 hl (by decide) rfl (fun ls_25 hl_25 => ?_)
      clear hl
      refine lv_bipush (v := 75) hx hb dX9_drawn_92 (by decide) ?_
      refine lv_iload_n hx hb dX9_drawn_94 rfl (lv_at hl_25 4 rfl) ?_
      refine lv_imul hx hb dX9_drawn_95 ?_
      refine lv_bipush (v := 74) hx hb dX9_drawn_96 (by decide) ?_
      refine lv_iadd hx hb dX9_drawn_98 ?_
      refine lv_ldc (v := 65537) hx hb hown (hts _ lk_X9_drawn_c183) dX9_drawn_99 ?_
      refine lv_irem hx hb dX9_drawn_101 (by decide) ?_
      replace hf := zl_some hf
      obtain ⟨v_26, hv_26, hf⟩ := hf
      refine lv_tope hv_26 ?_
      refine lv_istore_n (lv' := [(3, .int v_26), (6, .int r_23), (0, .ref (L 15)), (1, .int x1), (2, .int x2), (4, .int x4), (5, .int x5)]) hx hb dX9_drawn_102 rfl hl_25 (by decide) rfl (fun ls_27 hl_27 => ?_)
      clear hl_25
      refine lv_aload_n hx hb dX9_drawn_103 rfl (lv_at hl_27 2 rfl) ?_
      refine lv_iload hx hb dX9_drawn_104 (lv_at hl_27 1 rfl) ?_
      refine lv_iload_n hx hb dX9_drawn_106 rfl (lv_at hl_27 0 rfl) ?_
      refine lv_bipush (v := 64) hx hb dX9_drawn_107 (by decide) ?_
      refine lv_idiv hx hb dX9_drawn_109 (by decide) ?_
      refine lv_iload hx hb dX9_drawn_110 (lv_at hl_27 1 rfl) ?_
      replace hf := zi_some hf
      obtain ⟨r_29, X_28, hc_28, hf⟩ := hf
      refine k_ai (va_runS (As := [.int r_23]) (rest := [.int (v_26 / 64), .int r_23, .ref (L 15)]) ⟨hx, hb, hml, hown, hts⟩ (mX9_ones l D L ac hL _ r_23 _ _ hc_28) (va_cwS 1 hts gX9_drawn_X9_ones rfl rfl rfl (by decide +kernel) ⟨Nat.le_of_ble_eq_true rfl, Nat.le_of_ble_eq_true rfl⟩) (k_ps hK hN hO_24 _) rfl rfl hl_27.1 rfl (lv_room (Nat.le_of_ble_eq_true rfl)) dX9_drawn_112 ⟨Nat.le_of_ble_eq_true rfl, Nat.le_of_ble_eq_true rfl⟩) hA hO_24 (fun H_30 locs_30 hO_30 => ?_)
      clear hO_24
      replace hf := zz_some hf
      obtain ⟨hz_31, hf⟩ := hf
      refine lv_irem hx hb dX9_drawn_115 hz_31 ?_
      replace hf := zi_some hf
      obtain ⟨r_33, X_32, hc_32, hf⟩ := hf
      refine k_ai (va_runS (As := [.int r_23, .int (o_rem (v_26 / 64) r_29)]) (rest := [.ref (L 15)]) ⟨hx, hb, hml, hown, hts⟩ (mX9_moveAt l D L ac hL _ r_23 (o_rem (v_26 / 64) r_29) _ _ hc_32) (va_cwS 2 hts gX9_drawn_X9_moveAt rfl rfl rfl (by decide +kernel) ⟨Nat.le_of_ble_eq_true rfl, Nat.le_of_ble_eq_true rfl⟩) (k_ps hK hN hO_30 _) rfl rfl hl_27.1 rfl (lv_room (Nat.le_of_ble_eq_true rfl)) dX9_drawn_116 ⟨Nat.le_of_ble_eq_true rfl, Nat.le_of_ble_eq_true rfl⟩) hA hO_30 (fun H_34 locs_34 hO_34 => ?_)
      clear hO_30
      replace hf := zv_some hf
      obtain ⟨X_35, hc_35, hf⟩ := hf
      refine k_av (va_runV (As := [.int r_33]) (rest := []) ⟨hx, hb, hml, hown, hts⟩ (mX9_does l D L ac hL _ r_33 _ hc_35) (cwV 1 hts gX9_drawn_X9_does rfl rfl rfl (by decide +kernel) ⟨Nat.le_of_ble_eq_true rfl, Nat.le_of_ble_eq_true rfl⟩) (k_pv (j := 15) hK hN hO_34 (by decide) rfl rfl _) rfl rfl hl_27.1 rfl (lv_room (Nat.le_of_ble_eq_true rfl)) dX9_drawn_119 ⟨Nat.le_of_ble_eq_true rfl, Nat.le_of_ble_eq_true rfl⟩) hA hO_34 (fun H_36 locs_36 hO_36 => ?_)
      clear hO_34
      refine lv_goto (tgt := 79) hx hb dX9_drawn_122 (by decide) ?_
      exact ih _ _ _ _ _ _  _ _ _ hO_36 (lv_sub hl_27 [2, 3, 4, 0, 5, 6] rfl) hf
def fX9_drawn_73   : Nat → Int32 → Int32 → Int32 → Int32 → Int32 → XM → Option (Int32 × XM)
  | 0, _, _, _, _, _, _ => none
  | n + 1, x1, x2, x3, x4, x5, X => if x1 ≤ x5 then zf (FP.fdiv (FP.i2f x4) (FP.i2f x1)) (zi (fJxf58ca_floatToIntBits_5c35a (FP.fdiv (FP.i2f x4) (FP.i2f x1)) X) (fun r_40 X_39 => some (r_40, X_39))) else fX9_drawn_79 (fX9_drawn_73 n) fuel x1 x2 x3 x4 x5 X
set_option maxHeartbeats 4000000 in
set_option maxRecDepth 100000 in
theorem wX9_drawn_73 {p : Program} {l : Launch} {e : Env} {s : State} {m : MethodId} {args : Array Value} {below : List Frame} {meth : Method} {c : Code} {D : va_G} {L : Nat → Nat} {ac : Nat → ClassId} {r0 : Int32} {X0 : XM} (hL : LL L) (F : Fx p s m args meth c cX9_drawn 7 (some .int) wsX9_drawn yX9_drawn.cls D ac) : ∀ (n : Nat) (x1 : Int32) (x2 : Int32) (x3 : Int32) (x4 : Int32) (x5 : Int32) (X : XM) (H : Heap) (locs : List Loc) (ls : Array Slot), Oh D L ac X (fr L) s.heap H locs → lv_has ls 7 [(0, .ref (L 15)), (1, .int x1), (2, .int x2), (3, .int x3), (4, .int x4), (5, .int x5)] → fX9_drawn_73 n x1 x2 x3 x4 x5 X = some (r0, X0) → W p l e (headSpec wsX9_drawn ({ frames := 6, cells := 0, slots := 0, locals := 130 })).room s m args below meth c H locs 0 0 (MQ below (va_Qi (fun (r : Int32) (Y : XM) => r = r0 ∧ Y = X0) (fun (Y : XM) t => St D L ac Y t) (fr L)) args s 0 0 (fr L)) (F0 m 73 ls []) := by
  obtain ⟨hx, hb, hr, hts, hown, hlocks, hml, hK, hN⟩ := id F
  have hA : ∀ q, fr L q → fr L q := fun q h => h
  intro n
  induction n with
  | zero => intro x1 x2 x3 x4 x5 X H locs ls hO hl hf; simp [fX9_drawn_73] at hf
  | succ n ih =>
    intro x1 x2 x3 x4 x5 X H locs ls hO hl hf
    rw [fX9_drawn_73] at hf
    refine lv_iload hx hb dX9_drawn_73 (lv_at hl 5 rfl) ?_
    refine lv_iload_n hx hb dX9_drawn_75 rfl (lv_at hl 1 rfl) ?_
    refine lv_icmp_ge (tgt := 184) hx hb dX9_drawn_76 (by decide) (fun c_37 => ?_) (fun c_37 => ?_)
    · rw [if_pos c_37] at hf
      refine lv_iload hx hb dX9_drawn_184 (lv_at hl 4 rfl) ?_
      refine lv_i2f hx hb dX9_drawn_186 ?_
      refine lv_iload_n hx hb dX9_drawn_187 rfl (lv_at hl 1 rfl) ?_
      refine lv_i2f hx hb dX9_drawn_188 ?_
      replace hf := zf_some hf
      obtain ⟨hn_38, hf⟩ := hf
      refine lv_fdiv hx hb dX9_drawn_189 hn_38 ?_
      replace hf := zi_some hf
      obtain ⟨r_40, X_39, hc_39, hf⟩ := hf
      refine k_ai (va_runS (As := [.float (FP.fdiv (FP.i2f x4) (FP.i2f x1))]) (rest := []) ⟨hx, hb, hml, hown, hts⟩ (mJxf58ca_floatToIntBits_5c35a l D L ac hL _ (FP.fdiv (FP.i2f x4) (FP.i2f x1)) _ _ hc_39) (va_cwS 1 hts gX9_drawn_Jxf58ca_floatToIntBits_5c35a rfl rfl rfl (by decide +kernel) ⟨Nat.le_of_ble_eq_true rfl, Nat.le_of_ble_eq_true rfl⟩) (k_ps hK hN hO _) rfl rfl hl.1 rfl (lv_room (Nat.le_of_ble_eq_true rfl)) dX9_drawn_190 ⟨Nat.le_of_ble_eq_true rfl, Nat.le_of_ble_eq_true rfl⟩) hA hO (fun H_41 locs_41 hO_41 => ?_)
      clear hO
      obtain ⟨rfl, rfl⟩ := Prod.mk.inj (Option.some.inj hf)
      exact e_i hx hb hr hK hN hO_41 hlocks dX9_drawn_193
    · rw [if_neg c_37] at hf
      exact wX9_drawn_79 hL F _ ih fuel _ _ _ _ _ _  _ _ _ hO (lv_sub hl [0, 1, 2, 3, 4, 5] rfl) hf
def fX9_drawn_41   : Nat → Int32 → Int32 → Int32 → XM → Option (Int32 × XM)
  | 0, _, _, _, _ => none
  | n + 1, x1, x2, x3, X => if 27 ≤ x3 then fX9_drawn_73 fuel x1 x2 x2 0 0 X else zd x3 27 (zd x3 27 (zl (xup X 24 (Int32.toNatClampNeg x3) (X 23 (Int32.toNatClampNeg x3))) (fun X_48 => fX9_drawn_41 n x1 x2 (x3 + 1) X_48)))
set_option maxHeartbeats 4000000 in
set_option maxRecDepth 100000 in
theorem wX9_drawn_41 {p : Program} {l : Launch} {e : Env} {s : State} {m : MethodId} {args : Array Value} {below : List Frame} {meth : Method} {c : Code} {D : va_G} {L : Nat → Nat} {ac : Nat → ClassId} {r0 : Int32} {X0 : XM} (hL : LL L) (F : Fx p s m args meth c cX9_drawn 7 (some .int) wsX9_drawn yX9_drawn.cls D ac) : ∀ (n : Nat) (x1 : Int32) (x2 : Int32) (x3 : Int32) (X : XM) (H : Heap) (locs : List Loc) (ls : Array Slot), Oh D L ac X (fr L) s.heap H locs → lv_has ls 7 [(0, .ref (L 15)), (1, .int x1), (2, .int x2), (3, .int x3)] → fX9_drawn_41 n x1 x2 x3 X = some (r0, X0) → W p l e (headSpec wsX9_drawn ({ frames := 6, cells := 0, slots := 0, locals := 130 })).room s m args below meth c H locs 0 0 (MQ below (va_Qi (fun (r : Int32) (Y : XM) => r = r0 ∧ Y = X0) (fun (Y : XM) t => St D L ac Y t) (fr L)) args s 0 0 (fr L)) (F0 m 41 ls []) := by
  obtain ⟨hx, hb, hr, hts, hown, hlocks, hml, hK, hN⟩ := id F
  have hA : ∀ q, fr L q → fr L q := fun q h => h
  intro n
  induction n with
  | zero => intro x1 x2 x3 X H locs ls hO hl hf; simp [fX9_drawn_41] at hf
  | succ n ih =>
    intro x1 x2 x3 X H locs ls hO hl hf
    rw [fX9_drawn_41] at hf
    refine lv_iload_n hx hb dX9_drawn_41 rfl (lv_at hl 3 rfl) ?_
    refine lv_bipush (v := 27) hx hb dX9_drawn_42 (by decide) ?_
    refine lv_icmp_ge (tgt := 65) hx hb dX9_drawn_44 (by decide) (fun c_42 => ?_) (fun c_42 => ?_)
    · rw [if_pos c_42] at hf
      refine lv_iload_n hx hb dX9_drawn_65 rfl (lv_at hl 2 rfl) ?_
      refine lv_istore_n (lv' := [(3, .int x2), (0, .ref (L 15)), (1, .int x1), (2, .int x2)]) hx hb dX9_drawn_66 rfl hl (by decide) rfl (fun ls_43 hl_43 => ?_)
      clear hl
      refine lv_iconst (v := 0) hx hb dX9_drawn_67 (by decide) ?_
      refine lv_istore (lv' := [(4, .int 0), (3, .int x2), (0, .ref (L 15)), (1, .int x1), (2, .int x2)]) hx hb dX9_drawn_68 hl_43 (by decide) rfl (fun ls_44 hl_44 => ?_)
      clear hl_43
      refine lv_iconst (v := 0) hx hb dX9_drawn_70 (by decide) ?_
      refine lv_istore (lv' := [(5, .int 0), (4, .int 0), (3, .int x2), (0, .ref (L 15)), (1, .int x1), (2, .int x2)]) hx hb dX9_drawn_71 hl_44 (by decide) rfl (fun ls_45 hl_45 => ?_)
      clear hl_44
      exact wX9_drawn_73 hL F  fuel _ _ _ _ _ _  _ _ _ hO (lv_sub hl_45 [3, 4, 5, 2, 1, 0] rfl) hf
    · rw [if_neg c_42] at hf
      refine lv_aload_n hx hb dX9_drawn_47 rfl (lv_at hl 0 rfl) ?_
      refine k_get (k := 2) (v := .ref (L 17)) hx hb hts in_X9_drawn_X9 hown hK hO (by decide) rfl rfl (by decide) lk_X9_drawn_f13 rfl dX9_drawn_48 ?_
      refine lv_iload_n hx hb dX9_drawn_51 rfl (lv_at hl 3 rfl) ?_
      refine lv_aload_n hx hb dX9_drawn_52 rfl (lv_at hl 0 rfl) ?_
      refine k_get (k := 1) (v := .ref (L 16)) hx hb hts in_X9_drawn_X9 hown hK hO (by decide) rfl rfl (by decide) lk_X9_drawn_f7 rfl dX9_drawn_53 ?_
      refine lv_iload_n hx hb dX9_drawn_56 rfl (lv_at hl 3 rfl) ?_
      replace hf := zd_some hf
      obtain ⟨hi_46, hf⟩ := hf
      refine k_iald hx hb hK hO (by decide) (fun _ => rfl) hi_46 dX9_drawn_57 ?_
      replace hf := zd_some hf
      obtain ⟨hi_47, hf⟩ := hf
      refine k_iast hx hb hK hL hA hO (by decide) (by decide) rfl (fun _ => rfl) hi_47 dX9_drawn_58 (fun H_49 locs_49 hO_49 => ?_)
      replace hf := zl_some hf
      obtain ⟨X_48, hX_48, hf⟩ := hf
      have hQ_49 := zo_eq hX_48 hO_49
      clear hO_49 hO
      refine lv_iinc (v := x3 + 1) (lv' := [(3, .int (x3 + 1)), (0, .ref (L 15)), (1, .int x1), (2, .int x2)]) hx hb dX9_drawn_59 hl (k := 3) rfl rfl (by decide) rfl (fun ls_50 hl_50 => ?_)
      clear hl
      refine lv_goto (tgt := 41) hx hb dX9_drawn_62 (by decide) ?_
      exact ih _ _ _ _  _ _ _ hQ_49 (lv_sub hl_50 [1, 2, 3, 0] rfl) hf
def fX9_drawn  (a1 : Int32) (a2 : Int32) (X : XM) : Option (Int32 × XM) := zl (xup X 22 0 0) (fun X_51 => zi (fX9_in a1 1 200 X_51) (fun r_54 X_53 => if r_54 = 0 then some ((-2), X_53) else zi (fX9_in a2 0 65536 X_53) (fun r_58 X_57 => if r_58 = 0 then some ((-2), X_57) else zi (fX9_isOver X_57) (fun r_62 X_61 => if r_62 = 0 then fX9_drawn_41 fuel a1 a2 0 X_61 else some ((-5), X_61)))))
set_option maxHeartbeats 4000000 in
set_option maxRecDepth 100000 in
theorem mX9_drawn (l : Launch) (D : va_G) (L : Nat → Nat) (ac : Nat → ClassId) (hL : LL L) (X : XM) (a1 : Int32) (a2 : Int32) (r0 : Int32) (X0 : XM) (hf : fX9_drawn a1 a2 X = some (r0, X0)) : Ci l yX9_drawn wsX9_drawn ({ frames := 6, cells := 0, slots := 0, locals := 130 }) D L ac X [.ref (L 15), .int a1, .int a2] r0 X0 := by
  refine Met.ofK (cc := cX9_drawn) (maxL := 7) (ret := (some .int)) (lv := [(0, .ref (L 15)), (1, .int a1), (2, .int a2)]) (by decide +kernel) rfl (Nat.le_of_ble_eq_true rfl) rfl ?_
  intro p e s m below meth c F hO ls hl
  obtain ⟨hx, hb, hr, hts, hown, hlocks, hml, hK, hN⟩ := id F
  have hA : ∀ q, fr L q → fr L q := fun q h => h
  unfold fX9_drawn at hf
  refine lv_aload_n hx hb dX9_drawn_0 rfl (lv_at hl 0 rfl) ?_
  refine lv_iconst (v := 0) hx hb dX9_drawn_1 (by decide) ?_
  refine k_put (ty := .int) (k := 0) (r := 22) (k' := 0) hx hb tyX9 tyX9_ok nmX9 hts in_X9_drawn_X9 hown hK  hL hA hO (by decide) rfl (by omega) (fun Y => rfl) (by simp [xup]) rfl (by decide) lk_X9_drawn_f41 rfl (by decide +kernel) rfl rfl (Nat.le_of_ble_eq_true rfl) dX9_drawn_2 (fun H_52 locs_52 hO_52 => ?_)
  replace hf := zl_some hf
  obtain ⟨X_51, hX_51, hf⟩ := hf
  have hQ_52 := zo_eq hX_51 hO_52
  clear hO_52 hO
  refine lv_iload_n hx hb dX9_drawn_5 rfl (lv_at hl 1 rfl) ?_
  refine lv_iconst (v := 1) hx hb dX9_drawn_6 (by decide) ?_
  refine lv_sipush (v := 200) hx hb dX9_drawn_7 (by decide) ?_
  replace hf := zi_some hf
  obtain ⟨r_54, X_53, hc_53, hf⟩ := hf
  refine k_ai (va_runS (As := [.int a1, .int 1, .int 200]) (rest := []) ⟨hx, hb, hml, hown, hts⟩ (mX9_in l D L ac hL _ a1 1 200 _ _ hc_53) (va_cwS 3 hts gX9_drawn_X9_in rfl rfl rfl (by decide +kernel) ⟨Nat.le_of_ble_eq_true rfl, Nat.le_of_ble_eq_true rfl⟩) (k_ps hK hN hQ_52 _) rfl rfl hl.1 rfl (lv_room (Nat.le_of_ble_eq_true rfl)) dX9_drawn_10 ⟨Nat.le_of_ble_eq_true rfl, Nat.le_of_ble_eq_true rfl⟩) hA hQ_52 (fun H_55 locs_55 hO_55 => ?_)
  clear hQ_52
  refine lv_if_eq (tgt := 26) hx hb dX9_drawn_13 (by decide) (fun c_56 => ?_) (fun c_56 => ?_)
  · rw [if_pos c_56] at hf
    subst c_56
    refine lv_bipush (v := (-2)) hx hb dX9_drawn_26 (by decide) ?_
    obtain ⟨rfl, rfl⟩ := Prod.mk.inj (Option.some.inj hf)
    exact e_i hx hb hr hK hN hO_55 hlocks dX9_drawn_28
  · rw [if_neg c_56] at hf
    refine lv_iload_n hx hb dX9_drawn_16 rfl (lv_at hl 2 rfl) ?_
    refine lv_iconst (v := 0) hx hb dX9_drawn_17 (by decide) ?_
    refine lv_ldc (v := 65536) hx hb hown (hts _ lk_X9_drawn_c182) dX9_drawn_18 ?_
    replace hf := zi_some hf
    obtain ⟨r_58, X_57, hc_57, hf⟩ := hf
    refine k_ai (va_runS (As := [.int a2, .int 0, .int 65536]) (rest := []) ⟨hx, hb, hml, hown, hts⟩ (mX9_in l D L ac hL _ a2 0 65536 _ _ hc_57) (va_cwS 3 hts gX9_drawn_X9_in rfl rfl rfl (by decide +kernel) ⟨Nat.le_of_ble_eq_true rfl, Nat.le_of_ble_eq_true rfl⟩) (k_ps hK hN hO_55 _) rfl rfl hl.1 rfl (lv_room (Nat.le_of_ble_eq_true rfl)) dX9_drawn_20 ⟨Nat.le_of_ble_eq_true rfl, Nat.le_of_ble_eq_true rfl⟩) hA hO_55 (fun H_59 locs_59 hO_59 => ?_)
    clear hO_55
    refine lv_if_ne (tgt := 29) hx hb dX9_drawn_23 (by decide) (fun c_60 => ?_) (fun c_60 => ?_)
    · rw [if_neg c_60] at hf
      refine lv_aload_n hx hb dX9_drawn_29 rfl (lv_at hl 0 rfl) ?_
      replace hf := zi_some hf
      obtain ⟨r_62, X_61, hc_61, hf⟩ := hf
      refine k_ai (va_runV (As := []) (rest := []) ⟨hx, hb, hml, hown, hts⟩ (mX9_isOver l D L ac hL _  _ _ hc_61) (cwV 0 hts gX9_drawn_X9_isOver rfl rfl rfl (by decide +kernel) ⟨Nat.le_of_ble_eq_true rfl, Nat.le_of_ble_eq_true rfl⟩) (k_pv (j := 15) hK hN hO_59 (by decide) rfl rfl _) rfl rfl hl.1 rfl (lv_room (Nat.le_of_ble_eq_true rfl)) dX9_drawn_30 ⟨Nat.le_of_ble_eq_true rfl, Nat.le_of_ble_eq_true rfl⟩) hA hO_59 (fun H_63 locs_63 hO_63 => ?_)
      clear hO_59
      refine lv_if_eq (tgt := 39) hx hb dX9_drawn_33 (by decide) (fun c_64 => ?_) (fun c_64 => ?_)
      · rw [if_pos c_64] at hf
        subst c_64
        refine lv_iconst (v := 0) hx hb dX9_drawn_39 (by decide) ?_
        refine lv_istore_n (lv' := [(3, .int 0), (0, .ref (L 15)), (1, .int a1), (2, .int a2)]) hx hb dX9_drawn_40 rfl hl (by decide) rfl (fun ls_65 hl_65 => ?_)
        clear hl
        exact wX9_drawn_41 hL F  fuel _ _ _ _  _ _ _ hO_63 (lv_sub hl_65 [1, 2, 3, 0] rfl) hf
      · rw [if_neg c_64] at hf
        refine lv_bipush (v := (-5)) hx hb dX9_drawn_36 (by decide) ?_
        obtain ⟨rfl, rfl⟩ := Prod.mk.inj (Option.some.inj hf)
        exact e_i hx hb hr hK hN hO_63 hlocks dX9_drawn_38
    · rw [if_pos c_60] at hf
      subst c_60
      refine lv_bipush (v := (-2)) hx hb dX9_drawn_26 (by decide) ?_
      obtain ⟨rfl, rfl⟩ := Prod.mk.inj (Option.some.inj hf)
      exact e_i hx hb hr hK hN hO_59 hlocks dX9_drawn_28
